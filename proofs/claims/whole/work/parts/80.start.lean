/-! ===== PURE: the starts of both RUNs ===== -/
section RUN
variable {P : PG} {mr : Nat → Nat} {ct : Nat → Nat}
def Q0 (n : Nat) : QQ := (0, 0, n, 0, 0)
theorem l_perf {j lim : Nat} {g : Nat → Int64} (hP : PD P) (hj : j < pc P) (hl : lim ≤ 100000) : ∀ (f k : Nat) (M : AM), pA P j - k = f → k ≤ pA P j → St M → AC M P mr → mI M 18 8 = nI k → mI M 18 9 = nI 0 → CQ M (Q0 0) → (∀ x, x < k → mJ M 19 (0 + x) = g x) → (∀ x, x < 8 → mJ M 25 x = g x) →
    ∃ M2, Aq S1824 M M2 ∧ CSt P mr M2 (nfr P j g) [] ∧ CQ M2 (Q0 (pL P j)) ∧ ∀ v M', E K_X3_perform 55 (LC (mr j) lim 0) [] M2 v M' → E K_X3_perform 16 (LC (mr j) lim k) [] M v M' := by
  have hd := (hP j hj).1
  have hL : pL P j ≤ 16 := hd.2.1
  have h8 : pA P j ≤ 8 := (hd.2.2.2.2 j hj).1
  intro f
  induction f with
  | zero =>
    intro k M hf hk hS hA e8 e9 hQ hw h25
    have e : k = pA P j := by omega
    subst e
    have i0 := (hA.1.2 j hj).1
    have hMt := (hA.1.2 j hj).2.2.2.1.1
    obtain ⟨M2, hE, a, z1, z2, z3, z4, z5⟩ := v_enter (P := P) (mr := mr) (c := j) (d := 0) (b := 0) (lb := 0) (mo := 0) (w := g) hS hA.1 hj (by omega) (by omega) (by omega) (e8.trans (congrArg nI (by omega))) e9 hQ.2.2.1 hw
    have hg : mI M (mr j) 0 ≤ nI (pA P j) := by rw [i0]; exact (nle (by omega) (by omega)).mpr (Nat.le_refl _)
    refine ⟨M2, a.mo (fun r x z => by unfold SE at z; unfold S1824; omega), ⟨z1, z2.trans (congrArg nI (by show 0 + pL P j = 0 + (pL P j + 0); omega)), z3, z4, trivial⟩, ⟨(a.j (by unfold SE; omega)).trans hQ.1, (a.j (by unfold SE; omega)).trans hQ.2.1, z5.trans (congrArg nI (by show max 0 (0 + pL P j + 2 * 0) = pL P j; omega)), (a.i (by unfold SE; omega)).trans hQ.2.2.2.1, (a.i (by unfold SE; omega)).trans hQ.2.2.2.2⟩, fun v M' hv => ?_⟩
    apply s_X3_perform_16 (M1 := M2) (M2 := M) (M3 := M) hS hMt
    case c1 => intro _; exact hE
    case k2 => intro _; exact hv
    all_goals (intro q; exact absurd hg q)
  | succ f ih =>
    intro k M hf hk hS hA e8 e9 hQ hw h25
    have i0 := (hA.1.2 j hj).1
    have hMt := (hA.1.2 j hj).2.2.2.1.1
    have a : Aq S1824 M (wrI (wrJ M 19 k (g k)) 18 8 (nI (k + 1))) := (Aq.rf.wJ (by unfold S1824; omega)).wI (by unfold S1824; omega)
    obtain ⟨M2, a2, z1, z2, z3⟩ := ih (k + 1) _ (by omega) (by omega) (a.st hS) (hA.aq hS a (fun _ _ z => z)) wrI_s (by simp (disch := omega) only [wrI_s, wrI_r, wrI_j, wrJ_s, wrJ_r, wrJ_j, wrI_J, wrJ_I, wrR_I, wrR_J]; exact e9) (by
      refine ⟨?_, ?_, ?_, ?_, ?_⟩
      · simp (disch := omega) only [wrI_s, wrI_r, wrI_j, wrJ_s, wrJ_r, wrJ_j, wrI_J, wrJ_I, wrR_I, wrR_J]; exact hQ.1
      · simp (disch := omega) only [wrI_s, wrI_r, wrI_j, wrJ_s, wrJ_r, wrJ_j, wrI_J, wrJ_I, wrR_I, wrR_J]; exact hQ.2.1
      · simp (disch := omega) only [wrI_s, wrI_r, wrI_j, wrJ_s, wrJ_r, wrJ_j, wrI_J, wrJ_I, wrR_I, wrR_J]; exact hQ.2.2.1
      · simp (disch := omega) only [wrI_s, wrI_r, wrI_j, wrJ_s, wrJ_r, wrJ_j, wrI_J, wrJ_I, wrR_I, wrR_J]; exact hQ.2.2.2.1
      · simp (disch := omega) only [wrI_s, wrI_r, wrI_j, wrJ_s, wrJ_r, wrJ_j, wrI_J, wrJ_I, wrR_I, wrR_J]; exact hQ.2.2.2.2) (fun x hx => by
        by_cases e : x = k
        · rw [e, Nat.zero_add, wrI_J, wrJ_s]
        · rw [wrI_J, wrJ_j (by omega)]; exact hw x (by omega)) (fun x hx => by simp (disch := omega) only [wrI_s, wrI_r, wrI_j, wrJ_s, wrJ_r, wrJ_j, wrI_J, wrJ_I, wrR_I, wrR_J]; exact h25 x hx)
    refine ⟨M2, a.tr a2, z1, z2, fun v M' hv => ?_⟩
    have hg : ¬ mI M (mr j) 0 ≤ nI k := by rw [i0, nle (by omega) (by omega)]; omega
    have hg8 : ¬ (8 : Int32) ≤ nI k := by rw [le32, ci _ (by omega)]; have : (8 : Int32).toInt = 8 := rfl; omega
    apply s_X3_perform_16 (M1 := M) (M2 := M) (M3 := wrI (wrJ M 19 k (g k)) 18 8 (nI (k + 1))) hS hMt
    case b5 => intros; exact in_n (by omega) (by omega)
    case c6 => intros; rw [cl_n (by omega), h25 k (by omega)]; exact v_push hS e8 (by omega)
    case k7 => intros; rw [nI_1]; exact z3 v M' hv
    case c1 => intro q; exact absurd q hg
    case k2 => intro q; exact absurd q hg
    all_goals (intro _ q; exact absurd q hg8)
def Mrs (M : AM) : AM := wrI (wrI (wrI (wrJ (wrJ (wrI (wrI M 18 8 0) 18 9 0) 18 10 0) 18 11 0) 18 12 0) 18 13 0) 18 14 0
theorem v_perform {M : AM} {j lim : Nat} (hP : PD P) (hj : j < pc P) (hl : lim ≤ 100000) (hS : St M) (hA : AC M P mr) (hC : CO M ct) :
    ∃ Mc' v q', Ev K_X3_perform [aR (some 18), aR (some (mr j)), aR (some 25), aI (nI lim)] M (some (aI v)) Mc' ∧ CQ Mc' q' ∧ Aq S1824 M Mc' ∧ (¬ Sd (DP P j) → v = 4 ∧ q' = Q0 0) ∧ (Sd (DP P j) → ∀ (Mm : AM) (x1 x3 : Int32), MSTP P ct Mm (nfr P j (fun x => mJ M 25 x)) [] (Q0 (pL P j)) → ∃ Mm', (∀ x4, E K_X7_run 147 (LM x1 (nI lim) x3 x4) [] Mm (some (aI v)) Mm') ∧ MQq Mm' q' ∧ Ag SMr Mm Mm') := by
  have hMt := (hA.1.2 j hj).2.2.2.1.1
  have h58 := hMt.1
  have a1 : Aq S1824 M (Mrs M) := ((((((Aq.rf.wI (by unfold S1824; omega)).wI (by unfold S1824; omega)).wJ (by unfold S1824; omega)).wJ (by unfold S1824; omega)).wI (by unfold S1824; omega)).wI (by unfold S1824; omega)).wI (by unfold S1824; omega)
  have hq0 : CQ (Mrs M) (Q0 0) := by
    unfold Mrs
    refine ⟨?_, ?_, ?_, ?_, ?_⟩
    · simp (disch := omega) only [wrI_s, wrI_r, wrI_j, wrJ_s, wrJ_r, wrJ_j, wrI_J, wrJ_I, wrR_I, wrR_J]; rfl
    · simp (disch := omega) only [wrI_s, wrI_r, wrI_j, wrJ_s, wrJ_r, wrJ_j, wrI_J, wrJ_I, wrR_I, wrR_J]; rfl
    · simp (disch := omega) only [wrI_s, wrI_r, wrI_j, wrJ_s, wrJ_r, wrJ_j, wrI_J, wrJ_I, wrR_I, wrR_J]; rfl
    · simp (disch := omega) only [wrI_s, wrI_r, wrI_j, wrJ_s, wrJ_r, wrJ_j, wrI_J, wrJ_I, wrR_I, wrR_J]; rfl
    · simp (disch := omega) only [wrI_s, wrI_r, wrI_j, wrJ_s, wrJ_r, wrJ_j, wrI_J, wrJ_I, wrR_I, wrR_J]; rfl
  have hA1 := hA.aq hS a1 (fun _ _ z => z)
  have hS1 := a1.st hS
  have hMt1 := a1.mt hS hMt
  have hrs : Ev K_X3_reset [aR (some 18)] M none (Mrs M) := s_X3_reset_0 hS ⟨rfl, rfl⟩
  have hsd := v_isSound hS1 hMt1
  have h8 := (hA1.2 j hj).1
  by_cases hs : Sd (DP P j)
  · rw [if_pos (by rw [h8, show (chk (DP P j)).1 = 0 from hs]; rfl)] at hsd
    obtain ⟨M2, a2, t2, u2, k2⟩ := l_perf (P := P) (mr := mr) (lim := lim) (g := fun x => mJ M 25 x) hP hj hl _ 0 (Mrs M) rfl (by omega) hS1 hA1 (by unfold Mrs; simp (disch := omega) only [wrI_s, wrI_r, wrI_j, wrJ_s, wrJ_r, wrJ_j, wrI_J, wrJ_I, wrR_I, wrR_J]; rfl) (by unfold Mrs; simp (disch := omega) only [wrI_s, wrI_r, wrI_j, wrJ_s, wrJ_r, wrJ_j, wrI_J, wrJ_I, wrR_I, wrR_J]; rfl) hq0 (fun x hx => by omega) (fun x hx => by unfold Mrs; simp (disch := omega) only [wrI_s, wrI_r, wrI_j, wrJ_s, wrJ_r, wrJ_j, wrI_J, wrJ_I, wrR_I, wrR_J])
    have hL : pL P j ≤ 16 := (hP j hj).1.2.1
    have hO : OKL P 0 [nfr P j (fun x => mJ M 25 x)] := ⟨OKF.new hP hj hs _, trivial⟩
    have S1 : STP P mr ct M2 (nfr P j (fun x => mJ M 25 x)) [] (Q0 (pL P j)) := ⟨a2.st hS1, hA1.aq hS1 a2 (fun _ _ z => z), fun k hk => ⟨((a1.tr a2).i (by unfold S1824; omega)).trans (hC k hk).1, (hC k hk).2⟩, t2, u2, hO, by show 0 < 100; omega, ⟨by show pL P j ≤ 1000000; omega, by show 0 ≤ 1000000; omega, by show 0 ≤ 1000000; omega⟩⟩
    obtain ⟨Mc', v, q', E1, z1, z2, z3⟩ := l_run (m := mr j) hP hl _ M2 _ _ _ rfl (by show 0 ≤ lim; omega) S1 (a2.mt hS1 hMt1) (by show pL P j ≤ 20000; omega) (by show 0 ≤ 0; omega) (by show 0 + (pL P j + 0) + 2 * 0 ≤ pL P j; omega)
    refine ⟨Mc', v, q', ?_, z1, (a1.tr a2).tr z2, fun z => absurd hs z, fun _ => z3⟩
    apply s_X3_perform_0 (M1 := Mrs M) (M2 := Mrs M) (x101 := 1) hS hMt hrs hsd
    case k3 => intro _; exact k2 _ _ E1
    case k4 => intro g; exact absurd g (by decide)
  · have hr8 := chk_r (DP P j)
    have hne : ¬ mI (Mrs M) (mr j) 8 = 0 := by
      rw [h8, eq32, iI_t (by omega) (by omega)]
      exact hs
    rw [if_neg hne] at hsd
    refine ⟨Mrs M, 4, Q0 0, ?_, hq0, a1, fun _ => ⟨rfl, rfl⟩, fun z => absurd z hs⟩
    apply s_X3_perform_0 (M1 := Mrs M) (M2 := Mrs M) (x101 := 0) hS hMt hrs hsd
    case k4 => intro _; exact ⟨rfl, rfl⟩
    case k3 => intro g; exact absurd rfl g
theorem l_mrun121 {n : Nat} {x1 x2 : Int32} (hn : n ≤ 8) : ∀ (f k : Nat) (M : AM), n - k = f → k ≤ n → St M →
    ∃ M', Ag (fun r i => r = 54 ∧ i < 8) M M' ∧ (∀ x, x < 16 → mJ M' 54 x = if k ≤ x ∧ x < n then mJ M 50 x else mJ M 54 x) ∧ ∀ v M2, E K_X7_run 147 (LM x1 x2 (nI n) (nI n)) [] M' v M2 → E K_X7_run 121 (LM x1 x2 (nI n) (nI k)) [] M v M2 := by
  intro f
  induction f with
  | zero =>
    intro k M hf hk hS
    have e : k = n := by omega
    subst e
    refine ⟨M, Ag.rf, fun x hx => by rw [if_neg (by omega)], fun v M2 hv => ?_⟩
    have hg : nI k ≤ nI k := (nle (by omega) (by omega)).mpr (Nat.le_refl _)
    apply s_X7_run_121 hS
    case k1 => intro _; exact hv
    all_goals (intro g; exact absurd hg g)
  | succ f ih =>
    intro k M hf hk hS
    have a : Ag (fun r i => r = 54 ∧ i < 8) M (wrJ M 54 k (mJ M 50 k)) := Ag.rf.wJ (by omega)
    obtain ⟨M', hA, hv, hE⟩ := ih (k + 1) _ (by omega) (by omega) (a.st hS)
    refine ⟨M', a.tr hA, fun x hx => ?_, fun v M2 h => ?_⟩
    · rw [hv x hx]
      by_cases q : k + 1 ≤ x ∧ x < n
      · rw [if_pos q, if_pos (by omega), wrJ_r (by omega)]
      · rw [if_neg q]
        by_cases e : x = k
        · rw [e, wrJ_s, if_pos (by omega)]
        · rw [wrJ_j e, if_neg (by omega)]
    · have hg : ¬ nI n ≤ nI k := by rw [nle (by omega) (by omega)]; omega
      apply s_X7_run_121 hS
      case b2 => intros; exact in_n (by omega) (by omega)
      case b3 => intros; exact in_n (by omega) (by omega)
      case k4 => intros; rw [cl_n (by omega), nI_1]; exact hE v M2 h
      all_goals (intro g; exact absurd g hg)
theorem v_noM {M : AM} {c : Nat} (hS : St M) (h : mI M 26 4 = nI c) (hc : c ≤ 32) (x : Int32) : Ev K_X7_noMethod [aR (some 26), aI x] M (some (aI (if 0 ≤ x.toInt ∧ x.toInt < c then 0 else 1))) M := by
  have tc := ci c (by omega)
  have z0 : (0 : Int32).toInt = 0 := rfl
  apply s_X7_noMethod_0 hS
  case k1 => intro g; simp only [lt32, le32, eq32, lt64, le64, eq64, Int32.reduceToInt, Int64.reduceToInt] at g; rw [if_neg (by omega)]; exact ⟨rfl, rfl⟩
  case k2 => intro g1 g; simp only [lt32, le32, eq32, lt64, le64, eq64, Int32.reduceToInt, Int64.reduceToInt, h, tc] at g g1; rw [if_pos (by omega)]; exact ⟨rfl, rfl⟩
  case k3 => intro g1 g; simp only [lt32, le32, eq32, lt64, le64, eq64, Int32.reduceToInt, Int64.reduceToInt, h, tc] at g g1; rw [if_neg (by omega)]; exact ⟨rfl, rfl⟩
def SMrn : Nat → Nat → Prop := fun r k => (r = 26 ∧ (k = 9 ∨ k = 27 ∨ (34 ≤ k ∧ k ≤ 40))) ∨ (34 ≤ r ∧ r ≤ 39) ∨ (51 ≤ r ∧ r ≤ 56)
def Mz (M : AM) : AM := wrI (wrI (wrJ (wrJ (wrI (wrI (wrI (wrI M 26 27 0) 26 34 0) 26 35 0) 26 36 0) 26 37 0) 26 38 0) 26 39 0) 26 40 0
theorem v_mrun {M : AM} {j lim : Nat} (hP : PD P) (hj : j < pc P) (hl : lim ≤ 100000) (hS : St M) (hR : RM M P) (hC : CM2 M ct) (hct : ∀ k, k < 18 → ct k ≤ 1000000) (h27 : mI M 26 27 = nI (pA P j)) :
    (¬ Sd (DP P j) → ∃ M', Ev K_X7_run [aR (some 26), aI (nI j), aI (nI lim)] M (some (aI 4)) M' ∧ MQq M' (Q0 0) ∧ mI M' 26 9 = 0 ∧ mI M' 26 27 = 0 ∧ Ag SMrn M M' ∧ AX M' P) ∧
    (Sd (DP P j) → ∃ Mm, MSTP P ct Mm (nfr P j (fun x => mJ M 50 x)) [] (Q0 (pL P j)) ∧ mI Mm 26 9 = 0 ∧ mI Mm 26 27 = 0 ∧ Ag SMrn M Mm ∧ ∀ v M', E K_X7_run 147 (LM (nI j) (nI lim) (nI (pA P j)) (nI (pA P j))) [] Mm v M' → Ev K_X7_run [aR (some 26), aI (nI j), aI (nI lim)] M v M') := by
  have hpc := hR.2.1
  have tj := ci j (by omega)
  have cj := cl_n (n := j) (by omega)
  have hno := v_noM hS hR.1 hpc (nI j)
  rw [tj, if_pos (by omega)] at hno
  have hM := hR.2.2 j hj
  have e27 : mI M 27 j = nI (pA P j) := (hM.2.2.2.2.1 j hj).1
  have hd := (hP j hj).1
  have hL : pL P j ≤ 16 := hd.2.1
  have h8 : pA P j ≤ 8 := (hd.2.2.2.2 j hj).1
  have hAL : pA P j ≤ pL P j := (hP j hj).2
  have gl : ¬ nI lim < 0 := nlt0 (by omega)
  have gl2 : nI lim ≤ 100000 := by rw [le32, ci _ (by omega)]; have : (100000 : Int32).toInt = 100000 := rfl; omega
  have g3 : mI M 26 27 = mI M 27 (nI j).toNatClampNeg := by rw [cj, e27, h27]
  have a0 : Ag SMrn M (wrI M 26 9 0) := Ag.rf.wI (by unfold SMrn; omega)
  have hR0 := hR.ag a0 (fun i => by unfold SMrn; omega)
  obtain ⟨M2, e2, a2, x2⟩ := v_examineAll (a0.st hS) hR0
  have a2' : Ag SMrn M M2 := a0.tr (a2.mo (fun r k z => by unfold SXA at z; unfold SMrn; omega))
  have hR2 := hR.ag a2' (fun i => by unfold SMrn; omega)
  have hS2 := a2'.st hS
  have e38 := (x2 j hj).1
  have hr8 := chk_r (DP P j)
  have t38 := iI_t (k := (chk (DP P j)).1) (by omega) (by omega)
  have az : Ag (fun r k => r = 26 ∧ (k = 27 ∨ (34 ≤ k ∧ k ≤ 40))) M2 (Mz M2) := (((((((Ag.rf.wI (by omega)).wI (by omega)).wI (by omega)).wI (by omega)).wJ (by omega)).wJ (by omega)).wI (by omega)).wI (by omega)
  have a3 : Ag SMrn M (Mz M2) := a2'.tr (az.mo (fun r k z => by unfold SMrn; omega))
  have q0 : MQq (Mz M2) (Q0 0) := by
    unfold Mz
    refine ⟨?_, ?_, ?_, ?_, ?_⟩
    · simp (disch := omega) only [wrI_s, wrI_r, wrI_j, wrJ_s, wrJ_r, wrJ_j, wrI_J, wrJ_I, wrR_I, wrR_J]; rfl
    · simp (disch := omega) only [wrI_s, wrI_r, wrI_j, wrJ_s, wrJ_r, wrJ_j, wrI_J, wrJ_I, wrR_I, wrR_J]; rfl
    · simp (disch := omega) only [wrI_s, wrI_r, wrI_j, wrJ_s, wrJ_r, wrJ_j, wrI_J, wrJ_I, wrR_I, wrR_J]; rfl
    · simp (disch := omega) only [wrI_s, wrI_r, wrI_j, wrJ_s, wrJ_r, wrJ_j, wrI_J, wrJ_I, wrR_I, wrR_J]; rfl
    · simp (disch := omega) only [wrI_s, wrI_r, wrI_j, wrJ_s, wrJ_r, wrJ_j, wrI_J, wrJ_I, wrR_I, wrR_J]; rfl
  have h9 : mI M2 26 9 = 0 := by rw [a2.i (by unfold SXA; omega)]; simp (disch := omega) only [wrI_s, wrI_r, wrI_j, wrJ_s, wrJ_r, wrJ_j, wrI_J, wrJ_I, wrR_I, wrR_J]
  have z0 : (0 : Int32).toInt = 0 := rfl
  refine ⟨fun hs => ?_, fun hs => ?_⟩
  · have g6 : ¬ mI M2 38 (nI j).toNatClampNeg ≤ 0 := by
      rw [cj, e38, le32, t38]
      have : ¬ (chk (DP P j)).1 = 0 := hs
      omega
    refine ⟨Mz M2, ?_, q0, ?_, ?_, a3, AX.ag3 ⟨hR2, x2⟩ az (fun r k z => by omega)⟩
    · apply s_X7_run_0 (M1 := M) (M2 := M2) (M3 := M) (x101 := 0) hS
      case c1 => exact hno
      case b2 => intro _; exact in_n (by omega) (by omega)
      case k3 => intro _ g; exact absurd g3 g
      case k4 => intro _ _ g; exact absurd g gl
      case c5 => intros; exact e2
      case c6 => intro _ _ _ _ g; exact absurd g g6
      case k7 => intro _ _ _ _ g; exact absurd g g6
      case k8 => intros; exact ⟨rfl, rfl⟩
      case k9 => intro _ _ _ g; exact absurd gl2 g
      case k10 => intro g; exact absurd rfl g
    · unfold Mz; simp (disch := omega) only [wrI_s, wrI_r, wrI_j, wrJ_s, wrJ_r, wrJ_j, wrI_J, wrJ_I, wrR_I, wrR_J]; exact h9
    · unfold Mz; simp (disch := omega) only [wrI_s, wrI_r, wrI_j, wrJ_s, wrJ_r, wrJ_j, wrI_J, wrJ_I, wrR_I, wrR_J]
  · have g6 : mI M2 38 (nI j).toNatClampNeg ≤ 0 := by
      rw [cj, e38, le32, t38]
      have : (chk (DP P j)).1 = 0 := hs
      omega
    have hSz := az.st hS2
    have hMz := hR2.2.2 j hj
    obtain ⟨M3, e3, a4, y1, y2, y3, y4, y5, y6, y7⟩ := v_menter (P := P) (c := j) (n := 0) (W := 0) (mo := 0) hSz (by omega) (by omega) (by omega) (by omega) hL ((az.i (by omega)).trans hMz.2.2.2.1) (by unfold Mz; simp (disch := omega) only [wrI_s, wrI_r, wrI_j, wrJ_s, wrJ_r, wrJ_j, wrI_J, wrJ_I, wrR_I, wrR_J]; rfl) (by unfold Mz; simp (disch := omega) only [wrI_s, wrI_r, wrI_j, wrJ_s, wrJ_r, wrJ_j, wrI_J, wrJ_I, wrR_I, wrR_J]; rfl) (by unfold Mz; simp (disch := omega) only [wrI_s, wrI_r, wrI_j, wrJ_s, wrJ_r, wrJ_j, wrI_J, wrJ_I, wrR_I, wrR_J]; rfl)
    have e27' : mI M2 26 27 = nI (pA P j) := (a2'.i (r := 26) (j := 27) |> fun _ => by rw [a2.i (by unfold SXA; omega)]; simp (disch := omega) only [wrI_s, wrI_r, wrI_j, wrJ_s, wrJ_r, wrJ_j, wrI_J, wrJ_I, wrR_I, wrR_J]; exact h27)
    obtain ⟨Mm, a5, w5, k5⟩ := l_mrun121 (n := pA P j) (x1 := nI j) (x2 := nI lim) h8 _ 0 M3 rfl (by omega) (a4.st hSz)
    have a4' : Ag SMrn M M3 := a3.tr (a4.mo (fun r k z => by unfold SM at z; unfold SMrn; omega))
    have a5' : Ag SMrn M Mm := a4'.tr (a5.mo (fun r k z => by unfold SMrn; omega))
    have hO : OKL P 0 [nfr P j (fun x => mJ M 50 x)] := ⟨OKF.new hP hj hs _, trivial⟩
    have hax : AX Mm P := AX.ag3 (AX.ag3 (AX.ag3 ⟨hR2, x2⟩ az (fun r k z => by omega)) a4 (fun r k z => by unfold SM at z; omega)) a5 (fun r k z => by omega)
    have hwd : wd P (nfr P j (fun x => mJ M 50 x)) [] = pL P j := by show 0 + (pL P j + 0) + 2 * 0 = pL P j; omega
    refine ⟨Mm, ⟨⟨a5'.st hS, hax, ⟨?_, ?_, ⟨?_, ?_, ?_, ?_, ?_, ?_⟩, trivial⟩, ?_, ?_, hO, by show 0 < 100; omega, ?_⟩, fun k hk => (a5'.j (by unfold SMrn; omega)).trans (hC k hk), ⟨?_, ?_, ?_, ?_, ?_⟩, hct⟩, ?_, ?_, a5', fun v M' hv => ?_⟩
    · rw [a5.i (by omega)]; exact y1
    · rw [a5.i (by omega), hwd]; exact y2.trans (congrArg nI (by omega))
    · rw [a5.i (by omega)]; exact y4
    · rw [a5.i (by omega)]; exact y5
    · rw [a5.i (by omega)]; exact y6
    · intro x hx
      have hx' : x < pL P j := hx
      show mJ Mm 54 (16 * 0 + x) = if x < pA P j then mJ M 50 x else 0
      rw [show 16 * 0 + x = x from by omega, w5 x (by omega)]
      by_cases e : x < pA P j
      · rw [if_pos ⟨by omega, e⟩, if_pos e, a4'.j (by unfold SMrn; omega)]
      · rw [if_neg (by omega), if_neg e]
        have := y7 x (by omega)
        rw [show 16 * 0 + x = x from by omega] at this
        exact this
    · intro x hx; exact absurd hx (Nat.not_lt_zero x)
    · intro x hx; exact absurd hx (Nat.not_lt_zero x)
    · rw [a5.i (by omega)]; exact y3.trans (congrArg nI (by show max 0 (0 + pL P j) = pL P j; omega))
    · show pL P j ≤ 1000000; omega
    · rw [hwd]; exact Nat.le_refl _
    · rw [a5.j (by omega), a4.j (by unfold SM; omega)]; exact q0.1
    · rw [a5.j (by omega), a4.j (by unfold SM; omega)]; exact q0.2.1
    · rw [a5.i (by omega)]; exact y3.trans (congrArg nI (by show max 0 (0 + pL P j) = pL P j; omega))
    · rw [a5.i (by omega), a4.i (by unfold SM; omega)]; exact q0.2.2.2.1
    · rw [a5.i (by omega), a4.i (by unfold SM; omega)]; exact q0.2.2.2.2
    · rw [a5.i (by omega), a4.i (by unfold SM; omega)]; unfold Mz; simp (disch := omega) only [wrI_s, wrI_r, wrI_j, wrJ_s, wrJ_r, wrJ_j, wrI_J, wrJ_I, wrR_I, wrR_J]; exact h9
    · rw [a5.i (by omega), a4.i (by unfold SM; omega)]; unfold Mz; simp (disch := omega) only [wrI_s, wrI_r, wrI_j, wrJ_s, wrJ_r, wrJ_j, wrI_J, wrJ_I, wrR_I, wrR_J]
    · apply s_X7_run_0 (M1 := M) (M2 := M2) (M3 := M3) (x101 := 0) hS
      case c1 => exact hno
      case b2 => intro _; exact in_n (by omega) (by omega)
      case k3 => intro _ g; exact absurd g3 g
      case k4 => intro _ _ g; exact absurd g gl
      case c5 => intros; exact e2
      case c6 => intros; exact e3
      case k7 => intros; rw [e27']; exact k5 v M' hv
      case k8 => intro _ _ _ _ g; exact absurd g6 g
      case k9 => intro _ _ _ g; exact absurd gl2 g
      case k10 => intro g; exact absurd rfl g
end RUN
