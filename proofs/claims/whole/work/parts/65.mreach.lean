/-! ===== PURE: the reference's reached ones ===== -/
section MR
variable {P : PG} {s : Nat}
/-- the reference has looked at all -/
def AX (M : AM) (P : PG) : Prop := RM M P ∧ ∀ j, j < pc P → MG M j (DP P j)
theorem AX.ag {S : Nat → Nat → Prop} {M M' : AM} (h : AX M P) (a : Ag S M M') (hs : ∀ r i, S r i → 40 ≤ r) : AX M' P := by
  have hn : ∀ r i, r < 40 → ¬ S r i := fun r i h1 z => by have := hs r i z; omega
  exact ⟨h.1.ag a (fun i => ⟨hn _ _ (by omega), hn _ _ (by omega), hn _ _ (by omega), hn _ _ (by omega), hn _ _ (by omega), hn _ _ (by omega), hn _ _ (by omega)⟩), fun j hj => (h.2 j hj).ag (h.1.2.2 j hj).ln a (fun i _ _ => ⟨hn _ _ (by omega), hn _ _ (by omega), hn _ _ (by omega), hn _ _ (by omega)⟩) (hn _ _ (by omega)) (hn _ _ (by omega))⟩
theorem AX.ds {M : AM} (h : AX M P) {j : Nat} (hj : j < pc P) : Ds (DP P j) := (h.1.2.2 j hj).2.2.2.2.2.2.1
theorem AX.snd {M : AM} (h : AX M P) {j : Nat} (hj : j < pc P) : (mI M 38 j = 0 ↔ Sd (DP P j)) ∧ (mI M 38 j ≤ 0 ↔ Sd (DP P j)) := by
  have := chk_r (DP P j)
  have t := iI_t (k := (chk (DP P j)).1) (by omega) (by omega)
  rw [(h.2 j hj).1, eq32, le32, t]
  refine ⟨Iff.rfl, ?_⟩
  show (chk (DP P j)).1 ≤ 0 ↔ (chk (DP P j)).1 = 0
  omega
theorem v_calls7 {M : AM} {m c : Nat} (hm : m < pc P) (hc : c < pc P) (hs : Sd (DP P m)) (hS : St M) (h : AX M P) : ∃ b : Int32, Ev K_X7_calls [aR (some 26), aI (nI m), aI (nI c)] M (some (aI b)) M ∧ (b = 0 ↔ ¬ CL P m c) := by
  have hM := h.1.2.2 m hm
  have hN : pn P m ≤ 120 := hM.ln
  have hj := hM.lj
  have hpc := h.1.2.1
  have cj := cl_n (n := m) (by omega)
  have bj : vp_in (nI m) 32 := in_n hj (by omega)
  have e30 : mI M 30 m = nI (pn P m) := hM.1
  have key : ∀ (f k : Nat), pn P m - k = f → k ≤ pn P m → (∀ i, i < k → ¬ (0 ≤ HH (DP P m) i ∧ po P m i = 16 ∧ pa P m i = c)) → ∃ b : Int32, E K_X7_calls 2 [some (aR (some 26)), some (aI (nI m)), some (aI (nI c)), some (aI (nI k)), none] [] M (some (aI b)) M ∧ (b = 0 ↔ ¬ CL P m c) := by
    intro f
    induction f with
    | zero =>
      intro k hf hk hn
      have e : k = pn P m := by omega
      subst e
      have hg : mI M 30 (nI m).toNatClampNeg ≤ nI (pn P m) := by rw [cj, e30, le32]; omega
      refine ⟨0, ?_, ⟨fun _ z => ?_, fun _ => rfl⟩⟩
      · apply s_X7_calls_2 hS
        case b1 => exact bj
        case k2 => intros; exact ⟨rfl, rfl⟩
        all_goals (intro g; exact absurd hg g)
      · obtain ⟨_, _, i, q1, q2, q3, q4⟩ := z
        exact hn i q1 ⟨q2, q3, q4⟩
    | succ f ih =>
      intro k hf hk hn
      have hk' : k < pn P m := by omega
      have hg : ¬ mI M 30 (nI m).toNatClampNeg ≤ nI k := by rw [cj, e30, le32, ci _ (by omega), ci _ (by omega)]; omega
      have ck := cx (j := m) (i := k) (by omega) (by omega)
      have b3 := bx (j := m) (i := k) (by omega) (by omega)
      have ho : (mI M 31 (120 * m + k)).toInt = po P m k := (hM.2.1 k hk').1
      have ha : (mJ M 32 (120 * m + k)).toInt = pa P m k := (hM.2.1 k hk').2
      have hh := ((h.2 m hm).2.2 hs).1 k hk'
      have ec := ci c (by omega)
      have fg : FG [some (aR (some 26)), some (aI (nI m)), some (aI (nI c)), some (aI (nI (k + 1))), none] [some (aR (some 26)), some (aI (nI m)), some (aI (nI c)), some (aI (nI (k + 1))), some (aI ((120 : Int32) * nI m + nI k))] := ⟨Or.inr rfl, Or.inr rfl, Or.inr rfl, Or.inr rfl, Or.inl rfl, trivial⟩
      by_cases q : 0 ≤ HH (DP P m) k ∧ po P m k = 16 ∧ pa P m k = c
      · refine ⟨1, ?_, ⟨fun z => absurd z (by decide), fun z => absurd ⟨hm, hs, k, hk', q⟩ z⟩⟩
        apply s_X7_calls_2 hS
        case b1 => exact bj
        case k2 => intro g; exact absurd g hg
        case b3 => intros; exact b3
        case k7 => intros; exact ⟨rfl, rfl⟩
        all_goals (intros; exfalso; simp only [lt32, le32, eq32, lt64, le64, eq64, Int32.reduceToInt, Int64.reduceToInt, ck, ho, ha, hh, l2, ec] at *; omega)
      · obtain ⟨b, hE, hb⟩ := ih (k + 1) (by omega) (by omega) (fun i hi => (Nat.lt_succ_iff_lt_or_eq.mp hi).elim (hn i) (fun e => by rw [e]; exact q))
        refine ⟨b, ?_, hb⟩
        apply s_X7_calls_2 hS
        case b1 => exact bj
        case k2 => intro g; exact absurd g hg
        case b3 => intros; exact b3
        case k4 => intros; rw [nI_1]; exact hE.fg fg
        case k5 => intros; rw [nI_1]; exact hE.fg fg
        case k6 => intros; rw [nI_1]; exact hE.fg fg
        case k7 => clear hE hb ih; intros; exfalso; simp only [lt32, le32, eq32, lt64, le64, eq64, Int32.reduceToInt, Int64.reduceToInt, ck, ho, ha, hh, l2, ec] at *; omega
  obtain ⟨b, hE, hb⟩ := key _ 0 rfl (by omega) (fun i hi => by omega)
  exact ⟨b, s_X7_calls_0 hS hE, hb⟩
def S40 : Nat → Nat → Prop := fun r _ => r = 40
def V40 (M : AM) : Prop := ∀ b, b < 32 → mI M 40 b = 0 ∨ mI M 40 b = 1
theorem V40.n {M : AM} (h : V40 M) {b : Nat} (hb : b < 32) : ¬ mI M 40 b = 0 ↔ mI M 40 b = 1 := ⟨fun z => (h b hb).elim (fun w => absurd w z) id, fun z w => by rw [z] at w; exact absurd w (by decide)⟩
/-- a pass from M0 has come to M -/
def PI (P : PG) (s : Nat) (M0 M : AM) (x : Int32) : Prop := Ag S40 M0 M ∧ V40 M ∧ (∀ b, b < 32 → mI M0 40 b = 1 → mI M 40 b = 1) ∧ (∀ b, b < 32 → mI M 40 b = 1 → Rch P s b) ∧ (x = 0 ∨ x = 1) ∧ (x ≠ 0 → ∃ b, b < pc P ∧ ¬ mI M0 40 b = 1 ∧ mI M 40 b = 1)
def Cls (P : PG) (M : AM) (x : Int32) (m k : Nat) : Prop := x = 0 → ∀ m' c', m' < m ∨ (m' = m ∧ c' < k) → m' < pc P → mI M 40 m' = 1 → CL P m' c' → mI M 40 c' = 1
abbrev LA (s : Nat) (y x : Int32) (m k : Option AV) : LVs := [some (aR (some 26)), some (aI (nI s)), some (aI y), some (aI x), m, k]
theorem l_an80 {m : Nat} {M0 : AM} (hm : m < pc P) : ∀ (f k : Nat) (M : AM) (x : Int32), pc P - k = f → k ≤ pc P → St M → AX M P → PI P s M0 M x → Cls P M x m k →
    ∃ M1 x1, St M1 ∧ AX M1 P ∧ PI P s M0 M1 x1 ∧ Cls P M1 x1 (m + 1) 0 ∧ ∀ w M', E K_X7_analyseFrom 68 (LA s 0 x1 (some (aI (nI (m + 1)))) none) [] M1 w M' → E K_X7_analyseFrom 80 (LA s 0 x (some (aI (nI m))) (some (aI (nI k)))) [] M w M' := by
  intro f
  induction f with
  | zero =>
    intro k M x hf hk hS h hp hc
    have e : k = pc P := by omega
    subst e
    have hg : mI M 26 4 ≤ nI (pc P) := by rw [h.1.1, le32]; omega
    refine ⟨M, x, hS, h, hp, fun z m' c' q hm' r cl => ?_, fun w M' z => ?_⟩
    · exact hc z m' c' (by have := cl.lt.2; omega) hm' r cl
    · apply s_X7_analyseFrom_80 (M1 := M) (x105 := 0) hS
      case k1 => intros; rw [nI_1]; exact z.fg ⟨Or.inr rfl, Or.inr rfl, Or.inr rfl, Or.inr rfl, Or.inr rfl, Or.inl rfl, trivial⟩
      all_goals (intro g; exact absurd hg g)
  | succ f ih =>
    intro k M x hf hk hS h hp hc
    have hpc := h.1.2.1
    have hk' : k < pc P := by omega
    have hg : ¬ mI M 26 4 ≤ nI k := by rw [h.1.1, le32, ci _ (by omega), ci _ (by omega)]; omega
    have cm := cl_n (n := m) (by omega)
    have ck := cl_n (n := k) (by omega)
    have hsn := (h.snd hm).1
    by_cases r : mI M 40 m = 0
    · refine ⟨M, x, hS, h, hp, fun z m' c' q hm' r' cl => ?_, fun w M' z => ?_⟩
      · by_cases e : m' = m
        · rw [e, r] at r'; exact absurd r' (by decide)
        · exact hc z m' c' (by omega) hm' r' cl
      · apply s_X7_analyseFrom_80 (M1 := M) (x105 := 0) hS
        case k1 => intro g; exact absurd g hg
        case b2 => intros; exact in_n (by omega) (by omega)
        case k3 => intros; rw [nI_1]; exact z.fg ⟨Or.inr rfl, Or.inr rfl, Or.inr rfl, Or.inr rfl, Or.inr rfl, Or.inl rfl, trivial⟩
        all_goals (intro _ g; rw [cm] at g; exact absurd r g)
    by_cases sd : Sd (DP P m)
    · obtain ⟨b, hb1, hb2⟩ := v_calls7 hm hk' sd hS h
      by_cases r2 : mI M 40 k = 0
      · by_cases cl : CL P m k
        · have a : Ag S40 M (wrI M 40 k 1) := Ag.rf.wI rfl
          have hr1 : mI M 40 m = 1 := (hp.2.1.n (by omega)).mp r
          have hRk : Rch P s k := (hp.2.2.2.1 m (by omega) hr1).step (cloR_dir _ cl)
          have hp' : PI P s M0 (wrI M 40 k 1) 1 := by
            refine ⟨hp.1.tr a, fun b hb => ?_, fun b hb q => ?_, fun b hb q => ?_, Or.inr rfl, fun _ => ⟨k, hk', ?_, wrI_s⟩⟩
            · by_cases e : b = k
              · rw [e, wrI_s]; exact Or.inr rfl
              · rw [wrI_j e]; exact hp.2.1 b hb
            · by_cases e : b = k
              · rw [e, wrI_s]
              · rw [wrI_j e]; exact hp.2.2.1 b hb q
            · by_cases e : b = k
              · rw [e]; exact hRk
              · rw [wrI_j e] at q; exact hp.2.2.2.1 b hb q
            · intro w
              have := hp.2.2.1 k (by omega) w
              rw [r2] at this
              exact absurd this (by decide)
          obtain ⟨M1, x1, q1, q2, q3, q4, q5⟩ := ih (k + 1) (wrI M 40 k 1) 1 (by omega) (by omega) (a.st hS) (h.ag a (fun r i z => by unfold S40 at z; omega)) hp' (fun z => absurd z (by decide))
          refine ⟨M1, x1, q1, q2, q3, q4, fun w M' z => ?_⟩
          apply s_X7_analyseFrom_80 (M1 := M) (x105 := b) hS
          case k1 => intro g; exact absurd g hg
          case b2 => intros; exact in_n (by omega) (by omega)
          case k3 => intro _ g; rw [cm] at g; exact absurd g r
          case k4 => intro _ _ g; rw [cm] at g; exact absurd (hsn.mpr sd) g
          case b5 => intros; exact in_n (by omega) (by omega)
          case k6 => intro _ _ _ g; rw [ck] at g; exact absurd r2 g
          case c7 => intros; exact hb1
          case k8 => intro _ _ _ _ g; exact absurd cl (hb2.mp g)
          case k9 => intros; rw [ck, nI_1]; exact q5 w M' z
        · obtain ⟨M1, x1, q1, q2, q3, q4, q5⟩ := ih (k + 1) M x (by omega) (by omega) hS h hp (fun z m' c' q hm' r' cl' => by
            by_cases e : m' = m ∧ c' = k
            · rw [e.1, e.2] at cl'; exact absurd cl' cl
            · exact hc z m' c' (by omega) hm' r' cl')
          refine ⟨M1, x1, q1, q2, q3, q4, fun w M' z => ?_⟩
          apply s_X7_analyseFrom_80 (M1 := M) (x105 := b) hS
          case k1 => intro g; exact absurd g hg
          case b2 => intros; exact in_n (by omega) (by omega)
          case k3 => intro _ g; rw [cm] at g; exact absurd g r
          case k4 => intro _ _ g; rw [cm] at g; exact absurd (hsn.mpr sd) g
          case b5 => intros; exact in_n (by omega) (by omega)
          case k6 => intro _ _ _ g; rw [ck] at g; exact absurd r2 g
          case c7 => intros; exact hb1
          case k8 => intros; rw [nI_1]; exact q5 w M' z
          case k9 => intro _ _ _ _ g; exact absurd (hb2.mpr cl) g
      · obtain ⟨M1, x1, q1, q2, q3, q4, q5⟩ := ih (k + 1) M x (by omega) (by omega) hS h hp (fun z m' c' q hm' r' cl' => by
          by_cases e : m' = m ∧ c' = k
          · rw [e.2]; exact (hp.2.1.n (by omega)).mp r2
          · exact hc z m' c' (by omega) hm' r' cl')
        refine ⟨M1, x1, q1, q2, q3, q4, fun w M' z => ?_⟩
        apply s_X7_analyseFrom_80 (M1 := M) (x105 := b) hS
        case k1 => intro g; exact absurd g hg
        case b2 => intros; exact in_n (by omega) (by omega)
        case k3 => intro _ g; rw [cm] at g; exact absurd g r
        case k4 => intro _ _ g; rw [cm] at g; exact absurd (hsn.mpr sd) g
        case b5 => intros; exact in_n (by omega) (by omega)
        case k6 => intros; rw [nI_1]; exact q5 w M' z
        all_goals (intro _ _ _ g; rw [ck] at g; exact absurd g r2)
    · refine ⟨M, x, hS, h, hp, fun z m' c' q hm' r' cl => ?_, fun w M' z => ?_⟩
      · by_cases e : m' = m
        · rw [e] at cl; exact absurd cl.2.1 sd
        · exact hc z m' c' (by omega) hm' r' cl
      · apply s_X7_analyseFrom_80 (M1 := M) (x105 := 0) hS
        case k1 => intro g; exact absurd g hg
        case b2 => intros; exact in_n (by omega) (by omega)
        case k3 => intro _ g; rw [cm] at g; exact absurd g r
        case k4 => intros; rw [nI_1]; exact z.fg ⟨Or.inr rfl, Or.inr rfl, Or.inr rfl, Or.inr rfl, Or.inr rfl, Or.inl rfl, trivial⟩
        all_goals (intro _ _ g; rw [cm] at g; exact absurd (hsn.mp g) sd)
theorem l_an68 {M0 : AM} : ∀ (f m : Nat) (M : AM) (x : Int32), pc P - m = f → m ≤ pc P → St M → AX M P → PI P s M0 M x → Cls P M x m 0 →
    ∃ M1 x1, St M1 ∧ AX M1 P ∧ PI P s M0 M1 x1 ∧ Cls P M1 x1 (pc P) 0 ∧ ∀ w M', E K_X7_analyseFrom 59 (LA s 0 x1 none none) [] M1 w M' → E K_X7_analyseFrom 68 (LA s 0 x (some (aI (nI m))) none) [] M w M' := by
  intro f
  induction f with
  | zero =>
    intro m M x hf hm hS h hp hc
    have e : m = pc P := by omega
    subst e
    have hg : mI M 26 4 ≤ nI (pc P) := by rw [h.1.1, le32]; omega
    refine ⟨M, x, hS, h, hp, hc, fun w M' z => ?_⟩
    apply s_X7_analyseFrom_68 hS
    case k1 => intros; exact z.fg ⟨Or.inr rfl, Or.inr rfl, Or.inr rfl, Or.inr rfl, Or.inl rfl, Or.inr rfl, trivial⟩
    case k2 => intro g; exact absurd hg g
  | succ f ih =>
    intro m M x hf hm hS h hp hc
    have hpc := h.1.2.1
    have hg : ¬ mI M 26 4 ≤ nI m := by rw [h.1.1, le32, ci _ (by omega), ci _ (by omega)]; omega
    obtain ⟨M1, x1, q1, q2, q3, q4, q5⟩ := l_an80 (m := m) (by omega) _ 0 M x rfl (by omega) hS h hp hc
    obtain ⟨M2, x2, r1, r2, r3, r4, r5⟩ := ih (m + 1) M1 x1 (by omega) (by omega) q1 q2 q3 q4
    refine ⟨M2, x2, r1, r2, r3, r4, fun w M' z => ?_⟩
    apply s_X7_analyseFrom_68 hS
    case k1 => intro g; exact absurd g hg
    case k2 => intros; exact q5 w M' (r5 w M' z)
/-- the reached ones stand in the reference -/
def R40 (M : AM) (P : PG) (s : Nat) : Prop := V40 M ∧ ∀ b, b < 32 → (mI M 40 b = 1 ↔ Rch P s b)
theorem l_an59 : ∀ (n : Nat) (M : AM) (x : Int32), cnt (fun b => ¬ mI M 40 b = 1) (pc P) = n → St M → AX M P → V40 M → mI M 40 s = 1 → s < pc P → (∀ b, b < 32 → mI M 40 b = 1 → Rch P s b) → (x = 0 → ∀ m' c', m' < pc P → mI M 40 m' = 1 → CL P m' c' → mI M 40 c' = 1) →
    ∃ M1, Ag S40 M M1 ∧ AX M1 P ∧ R40 M1 P s ∧ ∀ w M', E K_X7_analyseFrom 158 [some (aR (some 26)), some (aI (nI s)), some (aI 0), some (aI 0), some (aI 0), none] [] M1 w M' → E K_X7_analyseFrom 59 (LA s 0 x none none) [] M w M' := by
  intro n
  induction n using Nat.strongRecOn with
  | ind n ih =>
    intro M x hn hS h hV hs hsp hR hcl
    have hpc := h.1.2.1
    by_cases c : x = 0
    · subst c
      refine ⟨M, Ag.rf, h, ⟨hV, fun b hb => ⟨hR b hb, fun z => ?_⟩⟩, fun w M' z => ?_⟩
      · rcases z with e | z
        · rw [e]; exact hs
        · have := cloR_in (R := CL P) (Q := fun a b => (mI M 40 a = 1 → mI M 40 b = 1)) (fun a b q r => hcl rfl a b q.lt.1 r q) (fun a b c q1 q2 r => q2 (q1 r)) (pc P) z
          exact this hs
      · apply s_X7_analyseFrom_59 hS
        case k1 => intros; exact z
        case k2 => intro g; exact absurd rfl g
    · obtain ⟨M1, x1, q1, q2, q3, q4, q5⟩ := l_an68 (P := P) (s := s) (M0 := M) _ 0 M 0 rfl (by omega) hS h ⟨Ag.rf, hV, fun b _ z => z, hR, Or.inl rfl, fun z => absurd rfl z⟩ (fun _ m' c' q => by omega)
      have s1 := q3.2.2.1 s (by omega) hs
      have hcl1 : x1 = 0 → ∀ m' c', m' < pc P → mI M1 40 m' = 1 → CL P m' c' → mI M1 40 c' = 1 := fun z m' c' hm' r cl => q4 z m' c' (Or.inl hm') hm' r cl
      by_cases d : x1 = 0
      · -- nothing more: closed
        subst d
        refine ⟨M1, q3.1, q2, ⟨q3.2.1, fun b hb => ⟨q3.2.2.2.1 b hb, fun z => ?_⟩⟩, fun w M' z => ?_⟩
        · rcases z with e | z
          · rw [e]; exact s1
          · have := cloR_in (R := CL P) (Q := fun a b => (mI M1 40 a = 1 → mI M1 40 b = 1)) (fun a b q r => hcl1 rfl a b q.lt.1 r q) (fun a b c q1 q2 r => q2 (q1 r)) (pc P) z
            exact this s1
        · apply s_X7_analyseFrom_59 hS
          case k1 => intro g; exact absurd g c
          case k2 =>
            intro _
            refine (q5 w M' ?_).fg ⟨Or.inr rfl, Or.inr rfl, Or.inr rfl, Or.inr rfl, Or.inr rfl, Or.inr rfl, trivial⟩
            apply s_X7_analyseFrom_59 q1
            case k1 => intros; exact z
            case k2 => intro g; exact absurd rfl g
      · have hlt : cnt (fun b => ¬ mI M1 40 b = 1) (pc P) < n := by
          rw [← hn]
          obtain ⟨b, hb, hb1, hb2⟩ := q3.2.2.2.2.2 d
          exact cnt_lt _ (fun j hj z w => z (q3.2.2.1 j (by omega) w)) ⟨b, hb, hb1, fun z => z hb2⟩
        obtain ⟨M2, a2, r2, r3, r4⟩ := ih _ hlt M1 x1 rfl q1 q2 q3.2.1 s1 hsp q3.2.2.2.1 (fun z => absurd z d)
        refine ⟨M2, q3.1.tr a2, r2, r3, fun w M' z => ?_⟩
        apply s_X7_analyseFrom_59 hS
        case k1 => intro g; exact absurd g c
        case k2 => intro _; exact (q5 w M' (r4 w M' z)).fg ⟨Or.inr rfl, Or.inr rfl, Or.inr rfl, Or.inr rfl, Or.inr rfl, Or.inr rfl, trivial⟩
def S4043 : Nat → Nat → Prop := fun r _ => 40 ≤ r ∧ r ≤ 43
theorem l_an6 (hsp : s < 32) : ∀ (f k : Nat) (M : AM), 32 - k = f → k ≤ 32 → St M → (∀ b, b < k → (mI M 40 b = if b = s then 1 else 0) ∧ mI M 41 b = 0 ∧ mI M 42 b = 0 ∧ mI M 43 b = 0) →
    ∃ M1, Ag S4043 M M1 ∧ (∀ b, b < 32 → (mI M1 40 b = if b = s then 1 else 0) ∧ mI M1 41 b = 0 ∧ mI M1 42 b = 0 ∧ mI M1 43 b = 0) ∧ ∀ w M', E K_X7_analyseFrom 59 (LA s 0 1 none none) [] M1 w M' → E K_X7_analyseFrom 6 [some (aR (some 26)), some (aI (nI s)), some (aI (nI k)), none, none, none] [] M w M' := by
  intro f
  induction f with
  | zero =>
    intro k M hf hk hS h1
    have e : k = 32 := by omega
    subst e
    refine ⟨M, Ag.rf, h1, fun w M' z => ?_⟩
    apply s_X7_analyseFrom_6 hS
    case k1 => intros; exact z
    all_goals (intro g; exact absurd (by decide : (32 : Int32) ≤ nI 32) g)
  | succ f ih =>
    intro k M hf hk hS h1
    have hg : ¬ (32 : Int32) ≤ nI k := by rw [le32, ci _ (by omega)]; show ¬ ((32 : Int) ≤ k); omega
    have ck := cl_n (n := k) (by omega)
    have st : ∀ v : Int32, (v = if k = s then 1 else 0) → ∃ M1, Ag S4043 M M1 ∧ (∀ b, b < 32 → (mI M1 40 b = if b = s then 1 else 0) ∧ mI M1 41 b = 0 ∧ mI M1 42 b = 0 ∧ mI M1 43 b = 0) ∧ ∀ w M', E K_X7_analyseFrom 59 (LA s 0 1 none none) [] M1 w M' → E K_X7_analyseFrom 6 [some (aR (some 26)), some (aI (nI s)), some (aI (nI (k + 1))), none, none, none] [] (wrI (wrI (wrI (wrI M 40 k v) 41 k 0) 42 k 0) 43 k 0) w M' := fun v hv => by
      have a : Ag S4043 M (wrI (wrI (wrI (wrI M 40 k v) 41 k 0) 42 k 0) 43 k 0) := (((Ag.rf.wI (by unfold S4043; omega)).wI (by unfold S4043; omega)).wI (by unfold S4043; omega)).wI (by unfold S4043; omega)
      obtain ⟨M1, a1, r1, k1⟩ := ih (k + 1) _ (by omega) (by omega) (a.st hS) (fun b hb => by
        by_cases e : b = k
        · subst e
          simp (disch := omega) only [wrI_s, wrI_r, wrI_j, wrJ_s, wrJ_r, wrJ_j, wrI_J, wrJ_I, wrR_I, wrR_J]
          exact ⟨hv, trivial, trivial, trivial⟩
        · simp (disch := omega) only [wrI_s, wrI_r, wrI_j, wrJ_s, wrJ_r, wrJ_j, wrI_J, wrJ_I, wrR_I, wrR_J]
          exact h1 b (by omega))
      exact ⟨M1, a.tr a1, r1, k1⟩
    by_cases e : k = s
    · obtain ⟨M1, a1, r1, k1⟩ := st 1 (by rw [if_pos e])
      refine ⟨M1, a1, r1, fun w M' z => ?_⟩
      apply s_X7_analyseFrom_6 hS
      case k1 => intro g; exact absurd g hg
      case b2 => intros; exact in_n (by omega) (by omega)
      case k3 => intro _ g; rw [e] at g; exact absurd rfl g
      case b4 => intros; exact in_n (by omega) (by omega)
      case k5 => intros; rw [ck, nI_1]; exact k1 w M' z
    · obtain ⟨M1, a1, r1, k1⟩ := st 0 (by rw [if_neg e])
      refine ⟨M1, a1, r1, fun w M' z => ?_⟩
      apply s_X7_analyseFrom_6 hS
      case k1 => intro g; exact absurd g hg
      case b2 => intros; exact in_n (by omega) (by omega)
      case k3 => intros; rw [ck, nI_1]; exact k1 w M' z
      case b4 => intros; exact in_n (by omega) (by omega)
      case k5 => intro _ g; rw [eq32, ci _ (by omega), ci _ (by omega)] at g; omega
end MR
