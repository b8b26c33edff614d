/-! ===== PURE: the reference's doOne ===== -/
theorem div_m1 {a b : Int64} (h : b = -1) : a / b = -a := by
  have h1 : b.toInt = -1 := by rw [h]; rfl
  rw [eq64, Int64.toInt_div, h1, Int.tdiv_neg, Int.tdiv_one, Int64.toInt_neg]
theorem upw_comm {w : Nat → Int64} {a b : Nat} {x y : Int64} (h : a ≠ b) : upw (upw w a x) b y = upw (upw w b y) a x := by
  funext i
  unfold upw
  by_cases h1 : i = a
  · rw [if_pos h1, if_neg (by omega), if_pos h1]
  · rw [if_neg h1, if_neg h1]
section MDL
variable {P : PG}
theorem v_mwork {M : AM} {x : Int32} {o : Int} {a b : Int64} (hS : St M) (ho : x.toInt = o) : Ev K_X7_work [aI x, aJ a, aJ b] M (some (aJ (wk o a b))) M := by
  unfold wk
  apply s_X7_work_0 hS
  case k9 => intro g; simp only [lt32, le32, eq32, lt64, le64, eq64, Int32.reduceToInt, Int64.reduceToInt, ho] at g; rw [if_pos g]; exact ⟨rfl, rfl⟩
  case k8 => intro g1 g; simp only [lt32, le32, eq32, lt64, le64, eq64, Int32.reduceToInt, Int64.reduceToInt, ho] at g g1; rw [if_neg g1, if_pos g]; exact ⟨rfl, rfl⟩
  case k7 => intro g1 g2 g; simp only [lt32, le32, eq32, lt64, le64, eq64, Int32.reduceToInt, Int64.reduceToInt, ho] at g g1 g2; rw [if_neg g1, if_neg g2, if_pos g]; exact ⟨rfl, rfl⟩
  case k5 => intro g1 g2 g3 g q; simp only [lt32, le32, eq32, lt64, le64, eq64, Int32.reduceToInt, Int64.reduceToInt, ho] at g g1 g2 g3; rw [if_neg g1, if_neg g2, if_neg g3, if_pos g, if_neg q]; exact ⟨rfl, rfl⟩
  case k6 => intro g1 g2 g3 g q; simp only [lt32, le32, eq32, lt64, le64, eq64, Int32.reduceToInt, Int64.reduceToInt, ho] at g g1 g2 g3; rw [if_neg g1, if_neg g2, if_neg g3, if_pos g, if_pos q]; exact ⟨rfl, rfl⟩
  case z1 => intro _ _ _ _ g _; exact g
  case k2 => intro g1 g2 g3 g q _; simp only [lt32, le32, eq32, lt64, le64, eq64, Int32.reduceToInt, Int64.reduceToInt, ho] at g g1 g2 g3; rw [if_neg g1, if_neg g2, if_neg g3, if_neg g, if_neg q]; exact ⟨rfl, rfl⟩
  case k3 => intro g1 g2 g3 g q z; simp only [lt32, le32, eq32, lt64, le64, eq64, Int32.reduceToInt, Int64.reduceToInt, ho] at g g1 g2 g3; rw [if_neg g1, if_neg g2, if_neg g3, if_neg g, if_neg q, div_m1 z]; exact ⟨rfl, rfl⟩
  case k4 => intro g1 g2 g3 g q; simp only [lt32, le32, eq32, lt64, le64, eq64, Int32.reduceToInt, Int64.reduceToInt, ho] at g g1 g2 g3; rw [if_neg g1, if_neg g2, if_neg g3, if_neg g, if_pos q]; exact ⟨rfl, rfl⟩
theorem MSt.n {M : AM} {F : Fr} {r : List Fr} (h : MSt P M F r) (hl : RmL P r) (k : Nat) : MSt P (wrI M 52 r.length (nI k)) (fN F k) r := by
  obtain ⟨h1, h2, ⟨g1, g2, g3, g4, g5, g6⟩, g⟩ := h
  have a : Ag (SM r.length) M (wrI M 52 r.length (nI k)) := Ag.rf.wI (by unfold SM; omega)
  exact ⟨by simp (disch := omega) only [wrI_s, wrI_r, wrI_j, wrJ_s, wrJ_r, wrJ_j, wrI_J, wrJ_I, wrR_I, wrR_J]; exact h1, by simp (disch := omega) only [wrI_s, wrI_r, wrI_j, wrJ_s, wrJ_r, wrJ_j, wrI_J, wrJ_I, wrR_I, wrR_J]; exact h2, ⟨by simp (disch := omega) only [wrI_s, wrI_r, wrI_j, wrJ_s, wrJ_r, wrJ_j, wrI_J, wrJ_I, wrR_I, wrR_J]; exact g1, by simp (disch := omega) only [wrI_s, wrI_r, wrI_j, wrJ_s, wrJ_r, wrJ_j, wrI_J, wrJ_I, wrR_I, wrR_J], by simp (disch := omega) only [wrI_s, wrI_r, wrI_j, wrJ_s, wrJ_r, wrJ_j, wrI_J, wrJ_I, wrR_I, wrR_J]; exact g3, g4, g5, g6⟩, MFs.ag a r (Nat.le_refl _) hl g⟩
theorem MSt.s {M : AM} {F : Fr} {r : List Fr} (h : MSt P M F r) (hl : RmL P r) (y : Nat) (x : Int64) : MSt P (wrJ M 55 (101 * r.length + y) x) (fS F (pL P (Fj F) + y) x) r := by
  obtain ⟨h1, h2, ⟨g1, g2, g3, g4, g5, g6⟩, g⟩ := h
  have a : Ag (SM r.length) M (wrJ M 55 (101 * r.length + y) x) := Ag.rf.wJ (by unfold SM; omega)
  refine ⟨h1, h2, ⟨g1, g2, g3, ?_, ?_, ?_⟩, MFs.ag a r (Nat.le_refl _) hl g⟩
  · intro z hz
    have hz' : z < pL P (Fj F) := hz
    show _ = upw (Fw F) (pL P (Fj F) + y) x z
    unfold upw
    rw [if_neg (by omega), wrJ_r (by omega)]
    exact g4 z hz
  · intro z hz
    show _ = upw (Fw F) (pL P (Fj F) + y) x (pL P (Fj F) + z)
    unfold upw
    by_cases e : z = y
    · rw [e, if_pos rfl, wrJ_s]
    · rw [if_neg (by omega), wrJ_j (by omega)]; exact g5 z hz
  · intro k hk; simp (disch := omega) only [wrI_s, wrI_r, wrI_j, wrJ_s, wrJ_r, wrJ_j, wrI_J, wrJ_I, wrR_I, wrR_J]; exact g6 k hk
theorem MSt.l {M : AM} {F : Fr} {r : List Fr} (h : MSt P M F r) (hl : RmL P r) (y : Nat) (hy : y < pL P (Fj F)) (x : Int64) : MSt P (wrJ M 54 (16 * r.length + y) x) (fS F y x) r := by
  obtain ⟨h1, h2, ⟨g1, g2, g3, g4, g5, g6⟩, g⟩ := h
  have a : Ag (SM r.length) M (wrJ M 54 (16 * r.length + y) x) := Ag.rf.wJ (by unfold SM; omega)
  refine ⟨h1, h2, ⟨g1, g2, g3, ?_, ?_, ?_⟩, MFs.ag a r (Nat.le_refl _) hl g⟩
  · intro z hz
    show _ = upw (Fw F) y x z
    unfold upw
    by_cases e : z = y
    · rw [e, if_pos rfl, wrJ_s]
    · rw [if_neg e, wrJ_j (by omega)]; exact g4 z hz
  · intro z hz
    show _ = upw (Fw F) y x (pL P (Fj F) + z)
    unfold upw
    rw [if_neg (by omega), wrJ_r (by omega)]
    exact g5 z hz
  · intro k hk; simp (disch := omega) only [wrI_s, wrI_r, wrI_j, wrJ_s, wrJ_r, wrJ_j, wrI_J, wrJ_I, wrR_I, wrR_J]; exact g6 k hk
def MR (P : PG) (M : AM) (F : Fr) (r : List Fr) (mo : Nat) : Prop := St M ∧ AX M P ∧ MSt P M F r ∧ mI M 26 36 = nI mo ∧ mo ≤ 1000000 ∧ OKL P 0 (F :: r) ∧ r.length < 100 ∧ wd P F r ≤ mo
theorem OKL.rml (hP : PD P) : ∀ (r : List Fr) (e : Nat), OKL P e r → RmL P r
  | [], _, _ => trivial
  | F :: r, e, h => ⟨⟨by have := (h.1.rng hP).1; omega, (h.1.rng hP).2.1, (h.1.rng hP).2.2.1⟩, OKL.rml hP r _ h.2⟩
theorem MR.pre {M : AM} {F : Fr} {r : List Fr} {mo : Nat} (H : MR P M F r mo) :
    vp_in ((120 : Int32) * nI (Fj F) + nI (Fi F)) 3840 ∧ ((120 : Int32) * nI (Fj F) + nI (Fi F)).toNatClampNeg = 120 * Fj F + Fi F ∧ mI M 26 34 - 1 = nI r.length ∧ vp_in (nI r.length) 100 ∧ (nI r.length).toNatClampNeg = r.length ∧ mI M 53 r.length = nI (Fh F) ∧ (mI M 31 (120 * Fj F + Fi F)).toInt = po P (Fj F) (Fi F) ∧ (mJ M 32 (120 * Fj F + Fi F)).toInt = pa P (Fj F) (Fi F) ∧
    (mI M 37 (120 * Fj F + Fi F)).toInt = dep (DP P (Fj F)) (Fi F) ∧ (mI M 36 (120 * Fj F + Fi F)).toInt = mat (DP P (Fj F)) (pn P (Fj F)) (Fi F) ∧ 0 ≤ po P (Fj F) (Fi F) ∧ po P (Fj F) (Fi F) < 18 ∧ Fj F < 32 := by
  obtain ⟨hS, hA, hT, hm, hmo, hO, hl, hw⟩ := H
  obtain ⟨o1, o2, o3, o4, o5, o6, o7⟩ := hO.1
  have hM := hA.1.2.2 (Fj F) o1
  have hj := hA.1.2.1
  have hn : pn P (Fj F) ≤ 120 := hM.2.2.2.2.2.2.1.1
  have hg := (hA.2 (Fj F) o1).2.2 o2
  have hi := hM.2.1 (Fi F) o3
  have hb := hg.2 (Fi F) o3
  have f := ffo (o2.ff (i := Fi F) o3)
  exact ⟨bx (by omega) (by omega), cx (by omega) (by omega), frm1 hT.1, in_n hl (by omega), cl_n (by omega), hT.2.2.1.2.2.1, hi.1, hi.2, hb.2.1, hb.2.2, f.1, f.2, by omega⟩
theorem m_hand {M : AM} {F : Fr} {r : List Fr} {mo : Nat} (hP : PD P) (H : MR P M F r mo) (h11 : po P (Fj F) (Fi F) ≤ 11) :
    ∃ M', Ev K_X7_doOne [aR (some 26), aI (nI (Fj F)), aI (nI (Fi F))] M none M' ∧ MSt P M' (nf P F) r ∧ mI M' 26 36 = nI (max mo (wd P (nf P F) r)) ∧ Ag (SM r.length) M M' := by
  have hH := H
  obtain ⟨hS, hA, hT, hm, hmo, hO, hl, hw⟩ := hH
  obtain ⟨p1, p2, p3, p4, p5, p6, p7, p8, p9, p10, p11, p12, p13⟩ := H.pre
  have hr := hO.rm hP hl
  have hrl := OKL.rml hP r _ hO.2
  have hB := hr
  obtain ⟨r1, r2, r3, r4, r5, r6⟩ := hB
  have hr1 : Rm P (fN F (Fi F + 1)) r := hr
  have hT1 := hT.n hrl (Fi F + 1)
  have a1 : Ag (SM r.length) M (wrI M 52 r.length (nI (Fi F + 1))) := Ag.rf.wI (by unfold SM; omega)
  have hS1 := a1.st hS
  have hm1 : mI (wrI M 52 r.length (nI (Fi F + 1))) 26 36 = nI mo := by simp (disch := omega) only [wrI_s, wrI_r, wrI_j, wrJ_s, wrJ_r, wrJ_j, wrI_J, wrJ_I, wrR_I, wrR_J]; exact hm
  have e52 : wrI M 52 (mI M 26 34 - 1).toNatClampNeg (nI (Fi F) + 1) = wrI M 52 r.length (nI (Fi F + 1)) := by rw [p3, p5, nI_1]
  have ewd : wd P F r = sz P r + (pL P (Fj F) + Fh F) + 2 * r.length := rfl
  have eN : nf P F = hf (pL P (Fj F)) (po P (Fj F) (Fi F)) (pa P (Fj F) (Fi F)) (fN F (Fi F + 1)) := if_pos h11
  rw [eN]
  obtain ⟨q0, q1, q2, q3, q9, q10, q11⟩ := hO.1.ho hP h11
  unfold hf
  rcases (by omega : po P (Fj F) (Fi F) = 0 ∨ po P (Fj F) (Fi F) = 1 ∨ po P (Fj F) (Fi F) = 2 ∨ po P (Fj F) (Fi F) = 3 ∨ po P (Fj F) (Fi F) = 9 ∨ po P (Fj F) (Fi F) = 10 ∨ po P (Fj F) (Fi F) = 11 ∨ (4 ≤ po P (Fj F) (Fi F) ∧ po P (Fj F) (Fi F) ≤ 8)) with e | e | e | e | e | e | e | e
  · rw [if_pos e]
    obtain ⟨M', hE, hC, hM, hA'⟩ := v_mpush (x := jJ (pa P (Fj F) (Fi F))) (mo := mo) hS1 hT1 hr1 hrl (q0 e) hm1 hmo
    refine ⟨M', ?_, ?_, ?_, ?_⟩
    rotate_left
    · exact hC
    · exact hM
    · exact a1.tr hA'
    apply s_X7_doOne_0 (M1 := M') (M2 := M) (M3 := M) (M4 := M) (M5 := M) (M6 := M) (M7 := M) (M8 := M) (M9 := M) (M10 := M) (M11 := M) (M12 := M) (M13 := M) (x103 := 0) (x108 := 0) (x112 := 0) (x120 := 0) (x121 := 0) (x122 := 0) hS
    case b1 => exact p1
    case b2 => rw [p3]; exact p4
    case c3 => intros; rw [p2, e52, jJ_e p8]; exact hE
    case k4 => intros; exact ⟨rfl, rfl⟩
    all_goals (clear H hS hA hT hm hO hl hw p1 p3 p4 p5 p6 p8 p9 p10 hr hrl hr1 hT1 a1 hS1 hm1 e52 q0 q1 q2 q3 q9 q10 q11 eN hE hC hM hA'; intros; exfalso; simp only [lt32, le32, eq32, lt64, le64, eq64, Int32.reduceToInt, Int64.reduceToInt, p2, p7] at * <;> omega)
  · rw [if_neg (by omega), if_pos e]
    obtain ⟨M', hE, hC, hM, hA'⟩ := v_mtake hS1 hT1 hr1 hrl (q1 e)
    have ew : max mo (wd P (fQ (fN F (Fi F + 1))) r) = mo := by have : wd P (fQ (fN F (Fi F + 1))) r = sz P r + (pL P (Fj F) + (Fh F - 1)) + 2 * r.length := rfl; omega
    rw [ew]
    refine ⟨M', ?_, ?_, ?_, ?_⟩
    rotate_left
    · exact hC
    · exact hM.trans hm1
    · exact a1.tr hA'
    apply s_X7_doOne_0 (M1 := M) (M2 := M') (M3 := M) (M4 := M) (M5 := M) (M6 := M) (M7 := M) (M8 := M) (M9 := M) (M10 := M) (M11 := M) (M12 := M) (M13 := M) (x103 := Fw F (pL P (Fj F) + Fh F - 1)) (x108 := 0) (x112 := 0) (x120 := 0) (x121 := 0) (x122 := 0) hS
    case b1 => exact p1
    case b2 => rw [p3]; exact p4
    case c5 => intros; rw [e52]; exact hE
    case k6 => intros; exact ⟨rfl, rfl⟩
    all_goals (clear H hS hA hT hm hO hl hw p1 p3 p4 p5 p6 p8 p9 p10 hr hrl hr1 hT1 a1 hS1 hm1 e52 q0 q1 q2 q3 q9 q10 q11 eN hE hC hM hA' ew; intros; exfalso; simp only [lt32, le32, eq32, lt64, le64, eq64, Int32.reduceToInt, Int64.reduceToInt, p2, p7] at * <;> omega)
  · rw [if_neg (by omega), if_neg (by omega), if_pos e]
    have q2' : 1 ≤ Fh F ∧ Fh F < 100 := q2 e
    have e101 : (101 : Int32) * (mI M 26 34 - 1) + mI M 53 (mI M 26 34 - 1).toNatClampNeg = nI (101 * r.length + Fh F) := by rw [p3, p5, p6, ix101]
    have hv : mJ M 55 (101 * r.length + (Fh F - 1)) = Fw F (pL P (Fj F) + Fh F - 1) := (hT.2.2.1.2.2.2.2.1 (Fh F - 1) (by omega)).trans (congrArg (Fw F) (by omega))
    obtain ⟨M', hE, hC, hM, hA'⟩ := v_mpush (x := Fw F (pL P (Fj F) + Fh F - 1)) (mo := mo) hS1 hT1 hr1 hrl q2'.2 hm1 hmo
    refine ⟨M', ?_, ?_, ?_, ?_⟩
    rotate_left
    · exact hC
    · exact hM
    · exact a1.tr hA'
    apply s_X7_doOne_0 (M1 := M) (M2 := M) (M3 := M') (M4 := M) (M5 := M) (M6 := M) (M7 := M) (M8 := M) (M9 := M) (M10 := M) (M11 := M) (M12 := M) (M13 := M) (x103 := 0) (x108 := 0) (x112 := 0) (x120 := 0) (x121 := 0) (x122 := 0) hS
    case b1 => exact p1
    case b2 => rw [p3]; exact p4
    case b7 => intros; rw [e101, nI_s1 (by omega)]; exact in_n (by omega) (by omega)
    case c8 => intros; rw [e101, nI_s1 (by omega), cl_n (by omega), e52, show 101 * r.length + Fh F - 1 = 101 * r.length + (Fh F - 1) from by omega, hv]; exact hE
    case k9 => intros; exact ⟨rfl, rfl⟩
    all_goals (clear H hS hA hT hm hO hl hw p1 p3 p4 p5 p6 p8 p9 p10 hr hrl hr1 hT1 a1 hS1 hm1 e52 q0 q1 q2 q3 q9 q10 q11 eN hE hC hM hA'; intros; exfalso; simp only [lt32, le32, eq32, lt64, le64, eq64, Int32.reduceToInt, Int64.reduceToInt, p2, p7] at * <;> omega)
  · rw [if_neg (by omega), if_neg (by omega), if_neg (by omega), if_pos e]
    have q3' : 2 ≤ Fh F := q3 (by omega)
    have e101 : (101 : Int32) * (mI M 26 34 - 1) + mI M 53 (mI M 26 34 - 1).toNatClampNeg = nI (101 * r.length + Fh F) := by rw [p3, p5, p6, ix101]
    have hv1 : mJ M 55 (101 * r.length + (Fh F - 1)) = Fw F (pL P (Fj F) + Fh F - 1) := (hT.2.2.1.2.2.2.2.1 (Fh F - 1) (by omega)).trans (congrArg (Fw F) (by omega))
    have hv2 : mJ M 55 (101 * r.length + (Fh F - 2)) = Fw F (pL P (Fj F) + Fh F - 2) := (hT.2.2.1.2.2.2.2.1 (Fh F - 2) (by omega)).trans (congrArg (Fw F) (by omega))
    have hC := (hT1.s hrl (Fh F - 1) (Fw F (pL P (Fj F) + Fh F - 2))).s hrl (Fh F - 2) (Fw F (pL P (Fj F) + Fh F - 1))
    have eF : fS (fS (fN F (Fi F + 1)) (pL P (Fj F) + (Fh F - 1)) (Fw F (pL P (Fj F) + Fh F - 2))) (pL P (Fj F) + (Fh F - 2)) (Fw F (pL P (Fj F) + Fh F - 1)) = fS (fS (fN F (Fi F + 1)) (pL P (Fj F) + Fh F - 2) (Fw F (pL P (Fj F) + Fh F - 1))) (pL P (Fj F) + Fh F - 1) (Fw F (pL P (Fj F) + Fh F - 2)) := by
      show (_, upw (upw (Fw F) _ _) _ _, _) = (_, upw (upw (Fw F) _ _) _ _, _)
      rw [upw_comm (by omega), show pL P (Fj F) + (Fh F - 2) = pL P (Fj F) + Fh F - 2 from by omega, show pL P (Fj F) + (Fh F - 1) = pL P (Fj F) + Fh F - 1 from by omega]
    have ew : max mo (wd P (fS (fS (fN F (Fi F + 1)) (pL P (Fj F) + Fh F - 2) (Fw F (pL P (Fj F) + Fh F - 1))) (pL P (Fj F) + Fh F - 1) (Fw F (pL P (Fj F) + Fh F - 2))) r) = mo := by have : wd P (fS (fS (fN F (Fi F + 1)) (pL P (Fj F) + Fh F - 2) (Fw F (pL P (Fj F) + Fh F - 1))) (pL P (Fj F) + Fh F - 1) (Fw F (pL P (Fj F) + Fh F - 2))) r = sz P r + (pL P (Fj F) + Fh F) + 2 * r.length := rfl; omega
    have s2 : nI (101 * r.length + Fh F) - 2 = nI (101 * r.length + (Fh F - 2)) := by show _ - nI 2 = _; rw [nI_sub (by omega)]; congr 1; omega
    have s1 : nI (101 * r.length + Fh F) - 1 = nI (101 * r.length + (Fh F - 1)) := by rw [nI_s1 (by omega)]; congr 1; omega
    have cc1 := cl_n (n := 101 * r.length + (Fh F - 1)) (by omega)
    have cc2 := cl_n (n := 101 * r.length + (Fh F - 2)) (by omega)
    refine ⟨wrJ (wrJ (wrI M 52 r.length (nI (Fi F + 1))) 55 (101 * r.length + (Fh F - 1)) (Fw F (pL P (Fj F) + Fh F - 2))) 55 (101 * r.length + (Fh F - 2)) (Fw F (pL P (Fj F) + Fh F - 1)), ?_, ?_, ?_, ?_⟩
    rotate_left
    · exact eF ▸ hC
    · exact (by simp (disch := omega) only [wrI_s, wrI_r, wrI_j, wrJ_s, wrJ_r, wrJ_j, wrI_J, wrJ_I, wrR_I, wrR_J]; exact hm : mI _ 26 36 = nI mo).trans (congrArg nI ew.symm)
    · exact (a1.wJ (by unfold SM; omega)).wJ (by unfold SM; omega)
    apply s_X7_doOne_0 (M1 := M) (M2 := M) (M3 := M) (M4 := M) (M5 := M) (M6 := M) (M7 := M) (M8 := M) (M9 := M) (M10 := M) (M11 := M) (M12 := M) (M13 := M) (x103 := 0) (x108 := 0) (x112 := 0) (x120 := 0) (x121 := 0) (x122 := 0) hS
    case b1 => exact p1
    case b2 => rw [p3]; exact p4
    case b10 => intros; rw [e101, s1]; exact in_n (by omega) (by omega)
    case b11 => intros; rw [e101, s2]; exact in_n (by omega) (by omega)
    case k12 => intros; refine ⟨rfl, ?_⟩; rw [e101, s1, s2, cc1, cc2, e52, hv1, hv2]
    all_goals (clear H hS hA hT hm hO hl hw p1 p3 p4 p5 p6 p8 p9 p10 hr hrl hr1 hT1 a1 hS1 hm1 e52 q0 q1 q2 q3 q9 q10 q11 eN e101 hv1 hv2 hC eF ew s1 s2 cc1 cc2; intros; exfalso; simp only [lt32, le32, eq32, lt64, le64, eq64, Int32.reduceToInt, Int64.reduceToInt, p2, p7] at * <;> omega)
  · rw [if_neg (by omega), if_neg (by omega), if_neg (by omega), if_neg (by omega), if_pos e]
    have q9' : 0 ≤ pa P (Fj F) (Fi F) ∧ pa P (Fj F) (Fi F) < pL P (Fj F) ∧ Fh F < 100 := q9 e
    have e16 : (16 : Int32) * (mI M 26 34 - 1) + (mJ M 32 (120 * Fj F + Fi F)).toInt32 = nI (16 * r.length + (pa P (Fj F) (Fi F)).toNat) := by rw [p3, x_l (by omega) (by omega), p8, ix16]
    have hv : mJ M 54 (16 * r.length + (pa P (Fj F) (Fi F)).toNat) = Fw F (pa P (Fj F) (Fi F)).toNat := hT.2.2.1.2.2.2.1 _ (by omega)
    obtain ⟨M', hE, hC, hM, hA'⟩ := v_mpush (x := Fw F (pa P (Fj F) (Fi F)).toNat) (mo := mo) hS1 hT1 hr1 hrl q9'.2.2 hm1 hmo
    refine ⟨M', ?_, ?_, ?_, ?_⟩
    rotate_left
    · exact hC
    · exact hM
    · exact a1.tr hA'
    apply s_X7_doOne_0 (M1 := M) (M2 := M) (M3 := M) (M4 := M') (M5 := M) (M6 := M) (M7 := M) (M8 := M) (M9 := M) (M10 := M) (M11 := M) (M12 := M) (M13 := M) (x103 := 0) (x108 := 0) (x112 := 0) (x120 := 0) (x121 := 0) (x122 := 0) hS
    case b1 => exact p1
    case b2 => rw [p3]; exact p4
    case b13 => intros; rw [p2, e16]; exact in_n (by omega) (by omega)
    case c14 => intros; rw [p2, e16, cl_n (by omega), e52, hv]; exact hE
    case k15 => intros; exact ⟨rfl, rfl⟩
    all_goals (clear H hS hA hT hm hO hl hw p1 p3 p4 p5 p6 p8 p9 p10 hr hrl hr1 hT1 a1 hS1 hm1 e52 q0 q1 q2 q3 q9 q10 q11 eN hE hC hM hA'; intros; exfalso; simp only [lt32, le32, eq32, lt64, le64, eq64, Int32.reduceToInt, Int64.reduceToInt, p2, p7] at * <;> omega)
  · rw [if_neg (by omega), if_neg (by omega), if_neg (by omega), if_neg (by omega), if_neg (by omega), if_pos e]
    have q10' : 0 ≤ pa P (Fj F) (Fi F) ∧ pa P (Fj F) (Fi F) < pL P (Fj F) ∧ 1 ≤ Fh F := q10 e
    have e16 : (16 : Int32) * (mI M 26 34 - 1) + (mJ M 32 (120 * Fj F + Fi F)).toInt32 = nI (16 * r.length + (pa P (Fj F) (Fi F)).toNat) := by rw [p3, x_l (by omega) (by omega), p8, ix16]
    obtain ⟨M', hE, hC, hM, hA'⟩ := v_mtake hS1 hT1 hr1 hrl q10'.2.2
    have hC' := hC.l hrl (pa P (Fj F) (Fi F)).toNat (by show (pa P (Fj F) (Fi F)).toNat < pL P (Fj F); omega) (Fw F (pL P (Fj F) + Fh F - 1))
    have ew : max mo (wd P (fS (fQ (fN F (Fi F + 1))) (pa P (Fj F) (Fi F)).toNat (Fw F (pL P (Fj F) + Fh F - 1))) r) = mo := by have : wd P (fS (fQ (fN F (Fi F + 1))) (pa P (Fj F) (Fi F)).toNat (Fw F (pL P (Fj F) + Fh F - 1))) r = sz P r + (pL P (Fj F) + (Fh F - 1)) + 2 * r.length := rfl; omega
    refine ⟨wrJ M' 54 (16 * r.length + (pa P (Fj F) (Fi F)).toNat) (Fw F (pL P (Fj F) + Fh F - 1)), ?_, ?_, ?_, ?_⟩
    rotate_left
    · exact hC'
    · exact (by simp (disch := omega) only [wrI_s, wrI_r, wrI_j, wrJ_s, wrJ_r, wrJ_j, wrI_J, wrJ_I, wrR_I, wrR_J]; exact hM.trans hm1 : mI _ 26 36 = nI mo).trans (congrArg nI ew.symm)
    · exact (a1.tr hA').wJ (by unfold SM; omega)
    apply s_X7_doOne_0 (M1 := M) (M2 := M) (M3 := M) (M4 := M) (M5 := M') (M6 := M) (M7 := M) (M8 := M) (M9 := M) (M10 := M) (M11 := M) (M12 := M) (M13 := M) (x103 := 0) (x108 := Fw F (pL P (Fj F) + Fh F - 1)) (x112 := 0) (x120 := 0) (x121 := 0) (x122 := 0) hS
    case b1 => exact p1
    case b2 => rw [p3]; exact p4
    case c16 => intros; rw [e52]; exact hE
    case b17 => intros; rw [p2, e16]; exact in_n (by omega) (by omega)
    case k18 => intros; refine ⟨rfl, ?_⟩; rw [p2, e16, cl_n (by omega)]
    all_goals (clear H hS hA hT hm hO hl hw p1 p3 p4 p5 p6 p8 p9 p10 hr hrl hr1 hT1 a1 hS1 hm1 e52 q0 q1 q2 q3 q9 q10 q11 eN hE hC hC' hM hA' ew e16; intros; exfalso; simp only [lt32, le32, eq32, lt64, le64, eq64, Int32.reduceToInt, Int64.reduceToInt, p2, p7] at * <;> omega)
  · rw [if_neg (by omega), if_neg (by omega), if_neg (by omega), if_neg (by omega), if_neg (by omega), if_neg (by omega), if_pos e]
    have q11' : 0 ≤ pa P (Fj F) (Fi F) ∧ pa P (Fj F) (Fi F) + 1 ≤ Fh F ∧ Fh F < 100 := q11 e
    have e101 : (101 : Int32) * (mI M 26 34 - 1) + mI M 53 (mI M 26 34 - 1).toNatClampNeg = nI (101 * r.length + Fh F) := by rw [p3, p5, p6, ix101]
    have eov : (101 : Int32) * (mI M 26 34 - 1) + mI M 53 (mI M 26 34 - 1).toNatClampNeg - 1 - (mJ M 32 (120 * Fj F + Fi F)).toInt32 = nI (101 * r.length + (Fh F - 1 - (pa P (Fj F) (Fi F)).toNat)) := by rw [e101, nI_s1 (by omega), x_l (by omega) (by omega), p8, nI_sub (by omega)]; congr 1; omega
    have hv : mJ M 55 (101 * r.length + (Fh F - 1 - (pa P (Fj F) (Fi F)).toNat)) = Fw F (pL P (Fj F) + Fh F - 1 - (pa P (Fj F) (Fi F)).toNat) := (hT.2.2.1.2.2.2.2.1 _ (by omega)).trans (congrArg (Fw F) (by omega))
    obtain ⟨M', hE, hC, hM, hA'⟩ := v_mpush (x := Fw F (pL P (Fj F) + Fh F - 1 - (pa P (Fj F) (Fi F)).toNat)) (mo := mo) hS1 hT1 hr1 hrl q11'.2.2 hm1 hmo
    refine ⟨M', ?_, ?_, ?_, ?_⟩
    rotate_left
    · exact hC
    · exact hM
    · exact a1.tr hA'
    apply s_X7_doOne_0 (M1 := M) (M2 := M) (M3 := M) (M4 := M) (M5 := M) (M6 := M') (M7 := M) (M8 := M) (M9 := M) (M10 := M) (M11 := M) (M12 := M) (M13 := M) (x103 := 0) (x108 := 0) (x112 := 0) (x120 := 0) (x121 := 0) (x122 := 0) hS
    case b1 => exact p1
    case b2 => rw [p3]; exact p4
    case b19 => intros; rw [p2, eov]; exact in_n (by omega) (by omega)
    case c20 => intros; rw [p2, eov, cl_n (by omega), e52, hv]; exact hE
    case k21 => intros; exact ⟨rfl, rfl⟩
    all_goals (clear H hS hA hT hm hO hl hw p1 p3 p4 p5 p6 p8 p9 p10 hr hrl hr1 hT1 a1 hS1 hm1 e52 q0 q1 q2 q3 q9 q10 q11 eN hE hC hM hA'; intros; exfalso; simp only [lt32, le32, eq32, lt64, le64, eq64, Int32.reduceToInt, Int64.reduceToInt, p2, p7] at * <;> omega)
  · rw [if_neg (by omega), if_neg (by omega), if_neg (by omega), if_neg (by omega), if_neg (by omega), if_neg (by omega), if_neg (by omega)]
    have q3' : 2 ≤ Fh F := q3 (by omega)
    obtain ⟨M1, hE1, hC1, hM1, hA1⟩ := v_mtake hS1 hT1 hr1 hrl (by show 1 ≤ Fh F; omega)
    obtain ⟨M2, hE2, hC2, hM2, hA2⟩ := v_mtake (hA1.st hS1) hC1 hr1.q hrl (by show 1 ≤ Fh F - 1; omega)
    have hE2' : Ev K_X7_take [aR (some 26)] M1 (some (aJ (Fw F (pL P (Fj F) + Fh F - 2)))) M2 := by
      have : pL P (Fj F) + (Fh F - 1) - 1 = pL P (Fj F) + Fh F - 2 := by omega
      exact (congrArg (Fw F) this) ▸ hE2
    obtain ⟨M', hE, hC, hM, hA'⟩ := v_mpush (x := wk (po P (Fj F) (Fi F)) (Fw F (pL P (Fj F) + Fh F - 2)) (Fw F (pL P (Fj F) + Fh F - 1))) (mo := mo) (hA2.st (hA1.st hS1)) hC2 hr1.q.q hrl (by show Fh F - 1 - 1 < 100; omega) (hM2.trans (hM1.trans hm1)) hmo
    have eF : fP (pL P (Fj F)) (fQ (fQ (fN F (Fi F + 1)))) (wk (po P (Fj F) (Fi F)) (Fw F (pL P (Fj F) + Fh F - 2)) (Fw F (pL P (Fj F) + Fh F - 1))) = fS (fQ (fN F (Fi F + 1))) (pL P (Fj F) + Fh F - 2) (wk (po P (Fj F) (Fi F)) (Fw F (pL P (Fj F) + Fh F - 2)) (Fw F (pL P (Fj F) + Fh F - 1))) := by
      show ((_, _, Fh F - 1 - 1 + 1, _), upw (Fw F) (pL P (Fj F) + (Fh F - 1 - 1)) _, _) = ((_, _, Fh F - 1, _), upw (Fw F) (pL P (Fj F) + Fh F - 2) _, _)
      rw [show Fh F - 1 - 1 + 1 = Fh F - 1 from by omega, show pL P (Fj F) + (Fh F - 1 - 1) = pL P (Fj F) + Fh F - 2 from by omega]
    have e31 : (mI M2 31 (120 * Fj F + Fi F)).toInt = po P (Fj F) (Fi F) := by rw [((a1.tr hA1).tr hA2).i (by unfold SM; omega)]; exact p7
    have hW := v_mwork (a := Fw F (pL P (Fj F) + Fh F - 2)) (b := Fw F (pL P (Fj F) + Fh F - 1)) (hA2.st (hA1.st hS1)) e31
    change MSt P M' (fP (pL P (Fj F)) (fQ (fQ (fN F (Fi F + 1)))) (wk (po P (Fj F) (Fi F)) (Fw F (pL P (Fj F) + Fh F - 2)) (Fw F (pL P (Fj F) + Fh F - 1)))) r at hC
    change mI M' 26 36 = nI (max mo (wd P (fP (pL P (Fj F)) (fQ (fQ (fN F (Fi F + 1)))) (wk (po P (Fj F) (Fi F)) (Fw F (pL P (Fj F) + Fh F - 2)) (Fw F (pL P (Fj F) + Fh F - 1)))) r)) at hM
    rw [eF] at hC hM
    refine ⟨M', ?_, ?_, ?_, ?_⟩
    rotate_left
    · exact hC
    · exact hM
    · exact ((a1.tr hA1).tr hA2).tr hA'
    apply s_X7_doOne_0 (M1 := M) (M2 := M) (M3 := M) (M4 := M) (M5 := M) (M6 := M) (M7 := M) (M8 := M) (M9 := M) (M10 := M1) (M11 := M2) (M12 := M2) (M13 := M') (x103 := 0) (x108 := 0) (x112 := 0) (x120 := Fw F (pL P (Fj F) + Fh F - 1)) (x121 := Fw F (pL P (Fj F) + Fh F - 2)) (x122 := wk (po P (Fj F) (Fi F)) (Fw F (pL P (Fj F) + Fh F - 2)) (Fw F (pL P (Fj F) + Fh F - 1))) hS
    case b1 => exact p1
    case b2 => rw [p3]; exact p4
    case c36 => intros; rw [e52]; exact hE1
    case c37 => intros; exact hE2'
    case c38 => intros; rw [p2]; exact hW
    case c39 => intros; exact hE
    case k40 => intros; exact ⟨rfl, rfl⟩
    all_goals (clear H hS hA hT hm hO hl hw p1 p3 p4 p5 p6 p8 p9 p10 hr hrl hr1 hT1 a1 hS1 hm1 e52 q0 q1 q2 q3 q9 q10 q11 eN hE1 hC1 hM1 hA1 hE2 hC2 hM2 hA2 hE2' hE hC hM hA' eF e31 hW; intros; exfalso; simp only [lt32, le32, eq32, lt64, le64, eq64, Int32.reduceToInt, Int64.reduceToInt, p2, p7] at * <;> omega)
theorem MSt.t {M : AM} {F : Fr} {r : List Fr} (h : MSt P M F r) (hl : RmL P r) (k l : Nat) (v : Int) (hv : ∀ q, q < l → q ≠ k → q < Fl F) : MSt P (wrJ M 56 (9 * r.length + k + 1) (jJ v)) (fT F (Fi F) l (up1 (Ft F) k v)) r := by
  obtain ⟨h1, h2, ⟨g1, g2, g3, g4, g5, g6⟩, g⟩ := h
  have a : Ag (SM r.length) M (wrJ M 56 (9 * r.length + k + 1) (jJ v)) := Ag.rf.wJ (by unfold SM; omega)
  refine ⟨h1, h2, ⟨g1, g2, g3, ?_, ?_, ?_⟩, MFs.ag a r (Nat.le_refl _) hl g⟩
  · intro z hz; simp (disch := omega) only [wrI_s, wrI_r, wrI_j, wrJ_s, wrJ_r, wrJ_j, wrI_J, wrJ_I, wrR_I, wrR_J]; exact g4 z hz
  · intro z hz; simp (disch := omega) only [wrI_s, wrI_r, wrI_j, wrJ_s, wrJ_r, wrJ_j, wrI_J, wrJ_I, wrR_I, wrR_J]; exact g5 z hz
  · intro q hq
    have hq' : q < l := hq
    show _ = jJ (up1 (Ft F) k v q)
    unfold up1
    by_cases e : q = k
    · rw [e, if_pos rfl, wrJ_s]
    · rw [if_neg e, wrJ_j (by omega)]; exact g6 q (hv q hq' e)
theorem ix9 (j i : Nat) : (9 : Int32) * nI j + nI i = nI (9 * j + i) := by
  show nI 9 * nI j + nI i = _
  rw [nI_mul, nI_add]
theorem jJ_sub (a b : Int) : jJ a - jJ b = jJ (a - b) := (Int64.ofInt_sub a b).symm
theorem m_flow {M : AM} {F : Fr} {r : List Fr} {mo : Nat} (hP : PD P) (H : MR P M F r mo) (h12 : 12 ≤ po P (Fj F) (Fi F)) (h15 : po P (Fj F) (Fi F) ≤ 15) :
    ∃ M', Ev K_X7_doOne [aR (some 26), aI (nI (Fj F)), aI (nI (Fi F))] M none M' ∧ MSt P M' (nf P F) r ∧ mI M' 26 36 = nI (max mo (wd P (nf P F) r)) ∧ Ag (SM r.length) M M' := by
  have hH := H
  obtain ⟨hS, hA, hT, hm, hmo, hO, hl, hw⟩ := hH
  obtain ⟨p1, p2, p3, p4, p5, p6, p7, p8, p9, p10, p11, p12, p13⟩ := H.pre
  have hr := hO.rm hP hl
  have hrl := OKL.rml hP r _ hO.2
  have hB := hr
  obtain ⟨r1, r2, r3, r4, r5, r6⟩ := hB
  have hr1 : Rm P (fN F (Fi F + 1)) r := hr
  have hT1 := hT.n hrl (Fi F + 1)
  have a1 : Ag (SM r.length) M (wrI M 52 r.length (nI (Fi F + 1))) := Ag.rf.wI (by unfold SM; omega)
  have hS1 := a1.st hS
  have hm1 : mI (wrI M 52 r.length (nI (Fi F + 1))) 26 36 = nI mo := by simp (disch := omega) only [wrI_s, wrI_r, wrI_j, wrJ_s, wrJ_r, wrJ_j, wrI_J, wrJ_I, wrR_I, wrR_J]; exact hm
  have e52 : wrI M 52 (mI M 26 34 - 1).toNatClampNeg (nI (Fi F) + 1) = wrI M 52 r.length (nI (Fi F + 1)) := by rw [p3, p5, nI_1]
  have ewd : wd P F r = sz P r + (pL P (Fj F) + Fh F) + 2 * r.length := rfl
  have eN : nf P F = gf (DP P (Fj F)) F := if_neg (by omega)
  rw [eN]
  have hff := hO.1.2.1.ff (i := Fi F) hO.1.2.2.1
  have hn : pn P (Fj F) ≤ 120 := (hO.1.rng hP).2.2.2.2
  have hi : Fi F < pn P (Fj F) := hO.1.2.2.1
  have hdp : dep (DP P (Fj F)) (Fi F) = Fl F := hO.1.2.2.2.2.1.symm
  have e37 : mI M 37 (120 * Fj F + Fi F) = nI (Fl F) := by rw [x_n (x := mI M 37 (120 * Fj F + Fi F)) (by omega), p9, hdp]; rfl
  have e9 : (9 : Int32) * (mI M 26 34 - 1) + mI M 37 (120 * Fj F + Fi F) = nI (9 * r.length + Fl F) := by rw [p3, e37, ix9]
  have b36 : po P (Fj F) (Fi F) = 14 ∨ po P (Fj F) (Fi F) = 15 → mI M 36 (120 * Fj F + Fi F) + 1 = nI (beh (DP P (Fj F)) (Fi F)) := by
    intro z
    have := (ff0 hff).2.1 z
    have : 0 ≤ mat (DP P (Fj F)) (pn P (Fj F)) (Fi F) := this
    unfold beh
    show _ = nI ((mat (DP P (Fj F)) (pn P (Fj F)) (Fi F)).toNat + 1)
    rw [← nI_1, x_n (x := mI M 36 (120 * Fj F + Fi F)) (by omega), p10]
  have hk13 := hO.1.k13 hP
  have hk14 := hO.1.k14
  have hk15 := hO.1.k15
  unfold gf
  rcases (by omega : po P (Fj F) (Fi F) = 12 ∨ po P (Fj F) (Fi F) = 13 ∨ po P (Fj F) (Fi F) = 14 ∨ po P (Fj F) (Fi F) = 15) with e | e | e | e
  · have e' : dO (DP P (Fj F)) (Fi F) = 12 := e
    have hj := ffj hff (Or.inl e')
    have hj1 : pa P (Fj F) (Fi F) < pn P (Fj F) := hj.2.1
    have hj0 : (Fi F : Int) < pa P (Fj F) (Fi F) := hj.1
    rw [if_pos e']
    have hC := hT1.n hrl (pa P (Fj F) (Fi F)).toNat
    have ew : max mo (wd P (fN F (dA (DP P (Fj F)) (Fi F)).toNat) r) = mo := by have : wd P (fN F (dA (DP P (Fj F)) (Fi F)).toNat) r = sz P r + (pL P (Fj F) + Fh F) + 2 * r.length := rfl; omega
    rw [ew]
    refine ⟨wrI (wrI M 52 r.length (nI (Fi F + 1))) 52 r.length (nI (pa P (Fj F) (Fi F)).toNat), ?_, ?_, ?_, ?_⟩
    rotate_left
    · exact hC
    · simp (disch := omega) only [wrI_s, wrI_r, wrI_j, wrJ_s, wrJ_r, wrJ_j, wrI_J, wrJ_I, wrR_I, wrR_J]; exact hm
    · exact a1.wI (by unfold SM; omega)
    apply s_X7_doOne_0 (M1 := M) (M2 := M) (M3 := M) (M4 := M) (M5 := M) (M6 := M) (M7 := M) (M8 := M) (M9 := M) (M10 := M) (M11 := M) (M12 := M) (M13 := M) (x103 := 0) (x108 := 0) (x112 := 0) (x120 := 0) (x121 := 0) (x122 := 0) hS
    case b1 => exact p1
    case b2 => rw [p3]; exact p4
    case k22 => intros; refine ⟨rfl, ?_⟩; rw [e52, p3, p5, p2, x_l (by omega) (by omega), p8]
    all_goals (clear H hS hA hT hm hO hl hw p1 p3 p4 p5 p6 p8 p9 p10 hr hrl hr1 hT1 a1 hS1 hm1 e52 eN hff hdp e37 e9 b36 hk13 hk14 hk15 hj hC ew; intros; exfalso; simp only [lt32, le32, eq32, lt64, le64, eq64, Int32.reduceToInt, Int64.reduceToInt, p2, p7] at * <;> omega)
  · have e' : dO (DP P (Fj F)) (Fi F) = 13 := e
    have hj := ffj hff (Or.inr e')
    have hj1 : pa P (Fj F) (Fi F) < pn P (Fj F) := hj.2.1
    have hj0 : (Fi F : Int) < pa P (Fj F) (Fi F) := hj.1
    rw [if_neg (by omega), if_pos e']
    obtain ⟨M1, hE, hC, hM, hA'⟩ := v_mtake hS1 hT1 hr1 hrl (hk13 e)
    have e32 : (mJ M1 32 (120 * Fj F + Fi F)).toInt = pa P (Fj F) (Fi F) := by rw [(a1.tr hA').j (by unfold SM; omega)]; exact p8
    by_cases z : Fw F (pL P (Fj F) + Fh F - 1) = 0
    · rw [if_pos (show Fw F (dL (DP P (Fj F)) + Fh F - 1) = 0 from z)]
      have ew : max mo (wd P (fN (fQ F) (dA (DP P (Fj F)) (Fi F)).toNat) r) = mo := by have : wd P (fN (fQ F) (dA (DP P (Fj F)) (Fi F)).toNat) r = sz P r + (pL P (Fj F) + (Fh F - 1)) + 2 * r.length := rfl; omega
      rw [ew]
      refine ⟨wrI M1 52 r.length (nI (pa P (Fj F) (Fi F)).toNat), ?_, ?_, ?_, ?_⟩
      rotate_left
      · exact hC.n hrl _
      · simp (disch := omega) only [wrI_s, wrI_r, wrI_j, wrJ_s, wrJ_r, wrJ_j, wrI_J, wrJ_I, wrR_I, wrR_J]; exact hM.trans hm1
      · exact (a1.tr hA').wI (by unfold SM; omega)
      apply s_X7_doOne_0 (M1 := M) (M2 := M) (M3 := M) (M4 := M) (M5 := M) (M6 := M) (M7 := M1) (M8 := M) (M9 := M) (M10 := M) (M11 := M) (M12 := M) (M13 := M) (x103 := 0) (x108 := 0) (x112 := Fw F (pL P (Fj F) + Fh F - 1)) (x120 := 0) (x121 := 0) (x122 := 0) hS
      case b1 => exact p1
      case b2 => rw [p3]; exact p4
      case c23 => intros; rw [e52]; exact hE
      case k25 => intros; refine ⟨rfl, ?_⟩; rw [p3, p5, p2, x_l (by omega) (by omega), e32]
      case k24 => intro _ _ _ _ _ _ _ _ _ g; exact absurd z g
      all_goals (clear H hS hA hT hm hO hl hw p1 p3 p4 p5 p6 p8 p9 p10 hr hrl hr1 hT1 a1 hS1 hm1 e52 eN hff hdp e37 e9 b36 hk13 hk14 hk15 hj hE hC hM hA' e32 ew z; intros; exfalso; simp only [lt32, le32, eq32, lt64, le64, eq64, Int32.reduceToInt, Int64.reduceToInt, p2, p7] at * <;> omega)
    · rw [if_neg (show ¬ Fw F (dL (DP P (Fj F)) + Fh F - 1) = 0 from z)]
      have ew : max mo (wd P (fN (fQ F) (Fi F + 1)) r) = mo := by have : wd P (fN (fQ F) (Fi F + 1)) r = sz P r + (pL P (Fj F) + (Fh F - 1)) + 2 * r.length := rfl; omega
      rw [ew]
      refine ⟨M1, ?_, ?_, ?_, ?_⟩
      rotate_left
      · exact hC
      · exact hM.trans hm1
      · exact a1.tr hA'
      apply s_X7_doOne_0 (M1 := M) (M2 := M) (M3 := M) (M4 := M) (M5 := M) (M6 := M) (M7 := M1) (M8 := M) (M9 := M) (M10 := M) (M11 := M) (M12 := M) (M13 := M) (x103 := 0) (x108 := 0) (x112 := Fw F (pL P (Fj F) + Fh F - 1)) (x120 := 0) (x121 := 0) (x122 := 0) hS
      case b1 => exact p1
      case b2 => rw [p3]; exact p4
      case c23 => intros; rw [e52]; exact hE
      case k24 => intros; exact ⟨rfl, rfl⟩
      case k25 => intro _ _ _ _ _ _ _ _ _ g; exact absurd g z
      all_goals (clear H hS hA hT hm hO hl hw p1 p3 p4 p5 p6 p8 p9 p10 hr hrl hr1 hT1 a1 hS1 hm1 e52 eN hff hdp e37 e9 b36 hk13 hk14 hk15 hj hE hC hM hA' e32 ew z; intros; exfalso; simp only [lt32, le32, eq32, lt64, le64, eq64, Int32.reduceToInt, Int64.reduceToInt, p2, p7] at * <;> omega)
  · have e' : dO (DP P (Fj F)) (Fi F) = 14 := e
    have hl' := ffl hff e'
    have hl0 : 0 ≤ pa P (Fj F) (Fi F) := hl'.1
    have hl1 : pa P (Fj F) (Fi F) ≤ 1000000000 := hl'.2.1
    have hb := b36 (Or.inl e)
    have h8 := hk14 e
    rw [if_neg (by omega), if_neg (by omega), if_pos e']
    have e91 : nI (9 * r.length + Fl F) + 1 = nI (9 * r.length + Fl F + 1) := nI_1 _
    have c91 := cl_n (n := 9 * r.length + Fl F + 1) (by omega)
    have eJ : mJ M 32 (120 * Fj F + Fi F) = jJ (pa P (Fj F) (Fi F)) := jJ_e p8
    by_cases z : pa P (Fj F) (Fi F) = 0
    · rw [if_pos (show dA (DP P (Fj F)) (Fi F) = 0 from z)]
      have hC := (hT1.t hrl (Fl F) (Fl F) (pa P (Fj F) (Fi F)) (fun q y _ => y)).n hrl (beh (DP P (Fj F)) (Fi F))
      have ew : max mo (wd P (fN F (beh (DP P (Fj F)) (Fi F))) r) = mo := by have : wd P (fN F (beh (DP P (Fj F)) (Fi F))) r = sz P r + (pL P (Fj F) + Fh F) + 2 * r.length := rfl; omega
      have hC' : MSt P (wrI (wrJ (wrI M 52 r.length (nI (Fi F + 1))) 56 (9 * r.length + Fl F + 1) (jJ (pa P (Fj F) (Fi F)))) 52 r.length (nI (beh (DP P (Fj F)) (Fi F)))) (fN F (beh (DP P (Fj F)) (Fi F))) r := by
        obtain ⟨c1, c2, ⟨c3, c4, c5, c6, c7, c8⟩, c9⟩ := hC
        refine ⟨c1, c2, ⟨c3, c4, c5, c6, c7, fun q hq => ?_⟩, c9⟩
        have hq' : q < Fl F := hq
        have := c8 q hq
        rw [this]
        show jJ (up1 (Ft F) (Fl F) _ q) = jJ (Ft F q)
        unfold up1
        rw [if_neg (by omega)]
      rw [ew]
      refine ⟨wrI (wrJ (wrI M 52 r.length (nI (Fi F + 1))) 56 (9 * r.length + Fl F + 1) (jJ (pa P (Fj F) (Fi F)))) 52 r.length (nI (beh (DP P (Fj F)) (Fi F))), ?_, ?_, ?_, ?_⟩
      rotate_left
      · exact hC'
      · simp (disch := omega) only [wrI_s, wrI_r, wrI_j, wrJ_s, wrJ_r, wrJ_j, wrI_J, wrJ_I, wrR_I, wrR_J]; exact hm
      · exact (a1.wJ (by unfold SM; omega)).wI (by unfold SM; omega)
      apply s_X7_doOne_0 (M1 := M) (M2 := M) (M3 := M) (M4 := M) (M5 := M) (M6 := M) (M7 := M) (M8 := M) (M9 := M) (M10 := M) (M11 := M) (M12 := M) (M13 := M) (x103 := 0) (x108 := 0) (x112 := 0) (x120 := 0) (x121 := 0) (x122 := 0) hS
      case b1 => exact p1
      case b2 => rw [p3]; exact p4
      case b26 => intros; rw [p2, e9, e91]; exact in_n (by omega) (by omega)
      case k28 => intros; refine ⟨rfl, ?_⟩; rw [e52, p2, e9, e91, c91, p3, p5, hb, eJ]
      case k27 => intro _ _ _ _ _ _ _ _ _ _ g; rw [p2, eq64, p8] at g; exact absurd z g
      all_goals (clear H hS hA hT hm hO hl hw p1 p3 p4 p5 p6 p8 p9 p10 hr hrl hr1 hT1 a1 hS1 hm1 e52 eN hff hdp e37 e9 b36 hk13 hk14 hk15 hl' hb hC hC' ew e91 c91 eJ; intros; exfalso; simp only [lt32, le32, eq32, lt64, le64, eq64, Int32.reduceToInt, Int64.reduceToInt, p2, p7] at * <;> omega)
    · rw [if_neg (show ¬ dA (DP P (Fj F)) (Fi F) = 0 from z)]
      have hC := (hT1.t hrl (Fl F) (Fl F + 1) (pa P (Fj F) (Fi F)) (fun q y w => by show q < Fl F; omega)).n hrl (Fi F + 1)
      have ew : max mo (wd P (fT F (Fi F + 1) (Fl F + 1) (up1 (Ft F) (Fl F) (dA (DP P (Fj F)) (Fi F)))) r) = mo := by have : wd P (fT F (Fi F + 1) (Fl F + 1) (up1 (Ft F) (Fl F) (dA (DP P (Fj F)) (Fi F)))) r = sz P r + (pL P (Fj F) + Fh F) + 2 * r.length := rfl; omega
      rw [ew]
      refine ⟨wrI (wrJ (wrI M 52 r.length (nI (Fi F + 1))) 56 (9 * r.length + Fl F + 1) (jJ (pa P (Fj F) (Fi F)))) 52 r.length (nI (Fi F + 1)), ?_, ?_, ?_, ?_⟩
      rotate_left
      · exact hC
      · simp (disch := omega) only [wrI_s, wrI_r, wrI_j, wrJ_s, wrJ_r, wrJ_j, wrI_J, wrJ_I, wrR_I, wrR_J]; exact hm
      · exact (a1.wJ (by unfold SM; omega)).wI (by unfold SM; omega)
      apply s_X7_doOne_0 (M1 := M) (M2 := M) (M3 := M) (M4 := M) (M5 := M) (M6 := M) (M7 := M) (M8 := M) (M9 := M) (M10 := M) (M11 := M) (M12 := M) (M13 := M) (x103 := 0) (x108 := 0) (x112 := 0) (x120 := 0) (x121 := 0) (x122 := 0) hS
      case b1 => exact p1
      case b2 => rw [p3]; exact p4
      case b26 => intros; rw [p2, e9, e91]; exact in_n (by omega) (by omega)
      case k27 => intros; refine ⟨rfl, ?_⟩; rw [e52, p2, e9, e91, c91, p3, p5, eJ, nI_1]
      case k28 => intro _ _ _ _ _ _ _ _ _ _ g; rw [p2, eq64, p8] at g; exact absurd g z
      all_goals (clear H hS hA hT hm hO hl hw p1 p3 p4 p5 p6 p8 p9 p10 hr hrl hr1 hT1 a1 hS1 hm1 e52 eN hff hdp e37 e9 b36 hk13 hk14 hk15 hl' hb hC ew e91 c91 eJ; intros; exfalso; simp only [lt32, le32, eq32, lt64, le64, eq64, Int32.reduceToInt, Int64.reduceToInt, p2, p7] at * <;> omega)
  · have e' : dO (DP P (Fj F)) (Fi F) = 15 := e
    have hb := b36 (Or.inr e)
    have h8 := hk15 e
    rw [if_neg (by omega), if_neg (by omega), if_neg (by omega)]
    have c9 := cl_n (n := 9 * r.length + Fl F) (by omega)
    have ei : 9 * r.length + Fl F = 9 * r.length + (Fl F - 1) + 1 := by omega
    have e56 : mJ M 56 (9 * r.length + Fl F) - 1 = jJ (Ft F (Fl F - 1) - 1) := by rw [ei, hT.2.2.1.2.2.2.2.2 (Fl F - 1) (by omega)]; exact jJ_sub _ 1
    have t56 := jJ_t (k := Ft F (Fl F - 1) - 1) (by omega) (by omega)
    by_cases z : 0 < Ft F (Fl F - 1) - 1
    · rw [if_pos z]
      have hC := (hT1.t hrl (Fl F - 1) (Fl F) (Ft F (Fl F - 1) - 1) (fun q y w => y)).n hrl (beh (DP P (Fj F)) (Fi F))
      have ew : max mo (wd P (fT F (beh (DP P (Fj F)) (Fi F)) (Fl F) (up1 (Ft F) (Fl F - 1) (Ft F (Fl F - 1) - 1))) r) = mo := by have : wd P (fT F (beh (DP P (Fj F)) (Fi F)) (Fl F) (up1 (Ft F) (Fl F - 1) (Ft F (Fl F - 1) - 1))) r = sz P r + (pL P (Fj F) + Fh F) + 2 * r.length := rfl; omega
      rw [ew]
      refine ⟨wrI (wrJ (wrI M 52 r.length (nI (Fi F + 1))) 56 (9 * r.length + (Fl F - 1) + 1) (jJ (Ft F (Fl F - 1) - 1))) 52 r.length (nI (beh (DP P (Fj F)) (Fi F))), ?_, ?_, ?_, ?_⟩
      rotate_left
      · exact hC
      · simp (disch := omega) only [wrI_s, wrI_r, wrI_j, wrJ_s, wrJ_r, wrJ_j, wrI_J, wrJ_I, wrR_I, wrR_J]; exact hm
      · exact (a1.wJ (by unfold SM; omega)).wI (by unfold SM; omega)
      apply s_X7_doOne_0 (M1 := M) (M2 := M) (M3 := M) (M4 := M) (M5 := M) (M6 := M) (M7 := M) (M8 := M) (M9 := M) (M10 := M) (M11 := M) (M12 := M) (M13 := M) (x103 := 0) (x108 := 0) (x112 := 0) (x120 := 0) (x121 := 0) (x122 := 0) hS
      case b1 => exact p1
      case b2 => rw [p3]; exact p4
      case b29 => intros; rw [p2, e9]; exact in_n (by omega) (by omega)
      case k31 => intros; refine ⟨rfl, ?_⟩; rw [e52, p2, e9, c9, p3, p5, e56, hb, ← ei]
      case k30 => intro _ _ _ _ _ _ _ _ _ _ _ g; rw [p2, e9, c9, e56, wrJ_s, lt64, t56] at g; exact absurd z g
      all_goals (clear H hS hA hT hm hO hl hw p1 p3 p4 p5 p6 p8 p9 p10 hr hrl hr1 hT1 a1 hS1 hm1 e52 eN hff hdp e37 e9 b36 hk13 hk14 hk15 hb hC ew c9 ei e56 t56 h8; intros; exfalso; simp only [lt32, le32, eq32, lt64, le64, eq64, Int32.reduceToInt, Int64.reduceToInt, p2, p7] at * <;> omega)
    · rw [if_neg z]
      have hC := (hT1.t hrl (Fl F - 1) (Fl F - 1) (Ft F (Fl F - 1) - 1) (fun q y w => by show q < Fl F; omega)).n hrl (Fi F + 1)
      have ew : max mo (wd P (fT F (Fi F + 1) (Fl F - 1) (Ft F)) r) = mo := by have : wd P (fT F (Fi F + 1) (Fl F - 1) (Ft F)) r = sz P r + (pL P (Fj F) + Fh F) + 2 * r.length := rfl; omega
      have hC' : MSt P (wrI (wrJ (wrI M 52 r.length (nI (Fi F + 1))) 56 (9 * r.length + (Fl F - 1) + 1) (jJ (Ft F (Fl F - 1) - 1))) 52 r.length (nI (Fi F + 1))) (fT F (Fi F + 1) (Fl F - 1) (Ft F)) r := by
        obtain ⟨c1, c2, ⟨c3, c4, c5, c6, c7, c8⟩, c9⟩ := hC
        refine ⟨c1, c2, ⟨c3, c4, c5, c6, c7, fun q hq => ?_⟩, c9⟩
        have hq' : q < Fl F - 1 := hq
        have := c8 q hq
        rw [this]
        show jJ (up1 (Ft F) (Fl F - 1) _ q) = jJ (Ft F q)
        unfold up1
        rw [if_neg (by omega)]
      rw [ew]
      refine ⟨wrI (wrJ (wrI M 52 r.length (nI (Fi F + 1))) 56 (9 * r.length + (Fl F - 1) + 1) (jJ (Ft F (Fl F - 1) - 1))) 52 r.length (nI (Fi F + 1)), ?_, ?_, ?_, ?_⟩
      rotate_left
      · exact hC'
      · simp (disch := omega) only [wrI_s, wrI_r, wrI_j, wrJ_s, wrJ_r, wrJ_j, wrI_J, wrJ_I, wrR_I, wrR_J]; exact hm
      · exact (a1.wJ (by unfold SM; omega)).wI (by unfold SM; omega)
      apply s_X7_doOne_0 (M1 := M) (M2 := M) (M3 := M) (M4 := M) (M5 := M) (M6 := M) (M7 := M) (M8 := M) (M9 := M) (M10 := M) (M11 := M) (M12 := M) (M13 := M) (x103 := 0) (x108 := 0) (x112 := 0) (x120 := 0) (x121 := 0) (x122 := 0) hS
      case b1 => exact p1
      case b2 => rw [p3]; exact p4
      case b29 => intros; rw [p2, e9]; exact in_n (by omega) (by omega)
      case k30 => intros; refine ⟨rfl, ?_⟩; rw [e52, p2, e9, c9, p3, p5, e56, nI_1, ← ei]
      case k31 => intro _ _ _ _ _ _ _ _ _ _ _ g; rw [p2, e9, c9, e56, wrJ_s, lt64, t56] at g; exact absurd g z
      all_goals (clear H hS hA hT hm hO hl hw p1 p3 p4 p5 p6 p8 p9 p10 hr hrl hr1 hT1 a1 hS1 hm1 e52 eN hff hdp e37 e9 b36 hk13 hk14 hk15 hb hC hC' ew c9 ei e56 t56 h8; intros; exfalso; simp only [lt32, le32, eq32, lt64, le64, eq64, Int32.reduceToInt, Int64.reduceToInt, p2, p7] at * <;> omega)
end MDL
