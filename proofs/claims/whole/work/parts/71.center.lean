/-! ===== PURE: the class's enter, leave, countWords ===== -/
section CLS
variable {P : PG} {mr : Nat → Nat}
theorem v_count {M : AM} {t d mo : Nat} (hS : St M) (h8 : mI M 18 8 = nI t) (h7 : mI M 18 7 = nI d) (h12 : mI M 18 12 = nI mo) (ht : t ≤ 1000000) (hd : d ≤ 1000) (hm : mo ≤ 1000000) : Ev K_X3_countWords [aR (some 18)] M none (wrI M 18 12 (nI (max mo (t + 2 * d)))) := by
  apply s_X3_countWords_0 hS
  refine ⟨rfl, ?_⟩
  have e : (2 : Int32) * nI d = nI (2 * d) := nI_mul 2 d
  rw [h8, h7, h12, e, nI_add]
  congr 1
  by_cases z : mo < t + 2 * d
  · rw [if_pos ((nlt (by omega) (by omega)).mpr z)]; congr 1; omega
  · rw [if_neg (fun y => z ((nlt (by omega) (by omega)).mp y))]; congr 1; omega
def SEn (b : Nat) : Nat → Nat → Prop := fun r x => (r = 18 ∧ (x = 8 ∨ x = 12)) ∨ (r = 19 ∧ b ≤ x)
theorem l_enter {c d b mo : Nat} (hd : d < 100) (hb : b + pL P c ≤ 11600) (hm : mo ≤ 1000000) (hL : pL P c ≤ 16) : ∀ (f k : Nat) (M : AM), pL P c - k = f → k ≤ pL P c → St M → Mt M (mr c) → mI M (mr c) 2 = nI (pL P c) → mI M 18 8 = nI (b + k) → mI M 18 7 = nI d → mI M 18 12 = nI mo →
    ∃ M', E K_X3_enter 61 [some (aR (some 18)), some (aR (some (mr c))), some (aI (nI d)), some (aI (nI k))] [] M none M' ∧ Aq (SEn (b + k)) M M' ∧ mI M' 18 8 = nI (b + pL P c) ∧ (∀ x, k ≤ x → x < pL P c → mJ M' 19 (b + x) = 0) ∧ mI M' 18 12 = nI (max mo (b + pL P c + 2 * d)) := by
  intro f
  induction f with
  | zero =>
    intro k M hf hk hS hM h2 h8 h7 h12
    have e : k = pL P c := by omega
    subst e
    refine ⟨_, ?_, Aq.rf.wI (by unfold SEn; omega), ?_, fun x h1 h2 => by omega, wrI_s⟩
    · apply s_X3_enter_61 (M1 := wrI M 18 12 (nI (max mo (b + pL P c + 2 * d)))) (M2 := M) hS hM
      case c1 => intros; exact v_count hS h8 h7 h12 (by omega) (by omega) hm
      case k2 => intros; exact ⟨rfl, rfl⟩
      all_goals (intro g; rw [h2] at g; exact absurd (nle (by omega) (by omega) |>.mpr (Nat.le_refl _)) g)
    · simp (disch := omega) only [wrI_s, wrI_r, wrI_j, wrJ_s, wrJ_r, wrJ_j, wrI_J, wrJ_I, wrR_I, wrR_J]; exact h8
  | succ f ih =>
    intro k M hf hk hS hM h2 h8 h7 h12
    have a : Aq (SEn (b + k)) M (wrI (wrJ M 19 (b + k) 0) 18 8 (nI (b + k + 1))) := (Aq.rf.wJ (by unfold SEn; omega)).wI (by unfold SEn; omega)
    have hm58 := hM.1
    obtain ⟨M', hE, hA, z1, z2, z3⟩ := ih (k + 1) _ (by omega) (by omega) (a.st hS) (a.mt hS hM) ((a.i (by unfold SEn; omega)).trans h2) wrI_s (by simp (disch := omega) only [wrI_s, wrI_r, wrI_j, wrJ_s, wrJ_r, wrJ_j, wrI_J, wrJ_I, wrR_I, wrR_J]; exact h7) (by simp (disch := omega) only [wrI_s, wrI_r, wrI_j, wrJ_s, wrJ_r, wrJ_j, wrI_J, wrJ_I, wrR_I, wrR_J]; exact h12)
    refine ⟨M', ?_, a.tr (hA.mo (fun r x z => by unfold SEn at z ⊢; omega)), z1, fun x x1 x2 => ?_, z3⟩
    · apply s_X3_enter_61 (M1 := M) (M2 := wrI (wrJ M 19 (b + k) 0) 18 8 (nI (b + k + 1))) hS hM
      case c3 => intros; exact v_push hS h8 (by omega)
      case k4 => intros; rw [nI_1]; exact hE
      all_goals (intro g; rw [h2, nle (by omega) (by omega)] at g; omega)
    · by_cases e : x = k
      · rw [e, hA.j (by unfold SEn; omega), wrI_J, wrJ_s]
      · exact z2 x (by omega) x2
def SE (b d : Nat) : Nat → Nat → Prop := fun r x => (r = 18 ∧ (x = 7 ∨ x = 8 ∨ x = 12)) ∨ (r = 19 ∧ b ≤ x) ∨ (21 ≤ r ∧ r ≤ 24 ∧ x = d)
/-- a new frame: method c, its ARGUMENTS from w -/
def nfr (P : PG) (c : Nat) (w : Nat → Int64) : Fr := ((c, 0, 0, 0), fun x => if x < pA P c then w x else 0, fun _ => 0)
theorem v_enter {M : AM} {c d b lb mo : Nat} {w : Nat → Int64} (hS : St M) (hR : RC M P mr) (hc : c < pc P) (hd : d < 100) (hb : b + pL P c ≤ 11600) (hm : mo ≤ 1000000) (h8 : mI M 18 8 = nI (b + pA P c)) (h9 : mI M 18 9 = nI lb) (h12 : mI M 18 12 = nI mo) (hw : ∀ x, x < pA P c → mJ M 19 (b + x) = w x) :
    ∃ M', Ev K_X3_enter [aR (some 18), aR (some (mr c)), aI (nI d)] M none M' ∧ Aq (SE (b + pA P c) d) M M' ∧ mI M' 18 7 = nI d ∧ mI M' 18 8 = nI (b + pL P c) ∧ mI M' 18 9 = nI lb ∧ CF P mr M' d b lb (nfr P c w) ∧ mI M' 18 12 = nI (max mo (b + pL P c + 2 * d)) := by
  obtain ⟨i0, i1, i2, i3⟩ := hR.2 c hc
  have hM : Mt M (mr c) := i3.1.1
  have hL : pL P c ≤ 16 := i3.2.2.2.2.2
  have h2 : mI M (mr c) 2 = nI (pL P c) := i3.2.2.2.1
  have cd := cl_n (n := d) (by omega)
  have h58 := hM.1
  have a : Aq (SE (b + pA P c) d) M (wrI (wrI (wrI (wrR (wrI M 18 7 (nI d)) 21 d (some (mr c))) 22 d 0) 23 d (nI b)) 24 d (nI lb)) := ((((Aq.rf.wI (by unfold SE; omega)).wR (by unfold SE; omega)).wI (by unfold SE; omega)).wI (by unfold SE; omega)).wI (by unfold SE; omega)
  obtain ⟨M', hE, hA, z1, z2, z3⟩ := l_enter (P := P) (mr := mr) (c := c) (b := b) hd hb hm hL _ (pA P c) _ rfl i2 (a.st hS) (a.mt hS hM) ((a.i (by unfold SE; omega)).trans h2) (by simp (disch := omega) only [wrI_s, wrI_r, wrI_j, wrJ_s, wrJ_r, wrJ_j, wrI_J, wrJ_I, wrR_I, wrR_J]; exact h8) (by simp (disch := omega) only [wrI_s, wrI_r, wrI_j, wrJ_s, wrJ_r, wrJ_j, wrI_J, wrJ_I, wrR_I, wrR_J]) (by simp (disch := omega) only [wrI_s, wrI_r, wrI_j, wrJ_s, wrJ_r, wrJ_j, wrI_J, wrJ_I, wrR_I, wrR_J]; exact h12)
  refine ⟨M', ?_, a.tr (hA.mo (fun r x z => by unfold SEn at z; unfold SE; omega)), ?_, z1, ?_, ⟨?_, ?_, ?_, ?_, ?_, ?_⟩, z3⟩
  · apply s_X3_enter_0 hS hM
    case b1 => exact in_n hd (by omega)
    case k2 =>
      rw [cd]
      have e1 : mI (wrI (wrR (wrI M 18 7 (nI d)) 21 d (some (mr c))) 22 d 0) (mr c) 0 = nI (pA P c) := by simp (disch := omega) only [wrI_s, wrI_r, wrI_j, wrJ_s, wrJ_r, wrJ_j, wrI_J, wrJ_I, wrR_I, wrR_J]; exact i0
      have e2 : mI M 18 8 - nI (pA P c) = nI b := by rw [h8, nI_sub (by omega)]; congr 1; omega
      rw [e1, e2, h9]
      have e3 : mI (wrI (wrI (wrI (wrR (wrI M 18 7 (nI d)) 21 d (some (mr c))) 22 d 0) 23 d (nI b)) 24 d (nI lb)) (mr c) 0 = nI (pA P c) := by simp (disch := omega) only [wrI_s, wrI_r, wrI_j, wrJ_s, wrJ_r, wrJ_j, wrI_J, wrJ_I, wrR_I, wrR_J]; exact i0
      rw [e3]
      exact hE
  · rw [hA.i (by unfold SEn; omega)]; simp (disch := omega) only [wrI_s, wrI_r, wrI_j, wrJ_s, wrJ_r, wrJ_j, wrI_J, wrJ_I, wrR_I, wrR_J]
  · rw [hA.i (by unfold SEn; omega)]; simp (disch := omega) only [wrI_s, wrI_r, wrI_j, wrJ_s, wrJ_r, wrJ_j, wrI_J, wrJ_I, wrR_I, wrR_J]; exact h9
  · rw [hA.r (by unfold SEn; omega)]; show mR (wrR _ 21 d _) 21 d = _; rw [wrR_s]; rfl
  · rw [hA.i (by unfold SEn; omega)]; simp (disch := omega) only [wrI_s, wrI_r, wrI_j, wrJ_s, wrJ_r, wrJ_j, wrI_J, wrJ_I, wrR_I, wrR_J]; rfl
  · rw [hA.i (by unfold SEn; omega)]; simp (disch := omega) only [wrI_s, wrI_r, wrI_j, wrJ_s, wrJ_r, wrJ_j, wrI_J, wrJ_I, wrR_I, wrR_J]
  · rw [hA.i (by unfold SEn; omega)]; simp (disch := omega) only [wrI_s, wrI_r, wrI_j, wrJ_s, wrJ_r, wrJ_j, wrI_J, wrJ_I, wrR_I, wrR_J]
  · intro x hx
    have hx' : x < pL P c + 0 := hx
    show _ = if x < pA P c then w x else 0
    by_cases e : x < pA P c
    · rw [if_pos e, hA.j (by unfold SEn; omega)]; exact hw x e
    · rw [if_neg e]; exact z2 x (by omega) (by omega)
  · intro k hk
    exact absurd hk (Nat.not_lt_zero k)
theorem CSt.down {M : AM} {F G : Fr} {r : List Fr} (h : CSt P mr M F (G :: r)) : CSt P mr (wrI (wrI (wrI M 18 8 (mI M 23 (G :: r).length)) 18 9 (mI M 24 (G :: r).length)) 18 7 (nI r.length)) G r := by
  obtain ⟨h1, h2, h3, ⟨g1, g2, g3, g4, g5, g6⟩, ⟨f1, f2, f3, f4, f5, f6⟩, g⟩ := h
  have a : Aq (fun q x => q = 18) M (wrI (wrI (wrI M 18 8 (mI M 23 (G :: r).length)) 18 9 (mI M 24 (G :: r).length)) 18 7 (nI r.length)) := ((Aq.rf.wI (by trivial)).wI (by trivial)).wI (by trivial)
  refine ⟨?_, ?_, ?_, ⟨?_, ?_, ?_, ?_, ?_, ?_⟩, CFs.aq a r g (fun _ _ => by omega) (fun _ _ => by omega) (fun _ _ => by omega)⟩
  · simp (disch := omega) only [wrI_s, wrI_r, wrI_j, wrJ_s, wrJ_r, wrJ_j, wrI_J, wrJ_I, wrR_I, wrR_J]
  · simp (disch := omega) only [wrI_s, wrI_r, wrI_j, wrJ_s, wrJ_r, wrJ_j, wrI_J, wrJ_I, wrR_I, wrR_J]; exact g3
  · simp (disch := omega) only [wrI_s, wrI_r, wrI_j, wrJ_s, wrJ_r, wrJ_j, wrI_J, wrJ_I, wrR_I, wrR_J]; exact g4
  · exact f1
  · simp (disch := omega) only [wrI_s, wrI_r, wrI_j, wrJ_s, wrJ_r, wrJ_j, wrI_J, wrJ_I, wrR_I, wrR_J]; exact f2
  · simp (disch := omega) only [wrI_s, wrI_r, wrI_j, wrJ_s, wrJ_r, wrJ_j, wrI_J, wrJ_I, wrR_I, wrR_J]; exact f3
  · simp (disch := omega) only [wrI_s, wrI_r, wrI_j, wrJ_s, wrJ_r, wrJ_j, wrI_J, wrJ_I, wrR_I, wrR_J]; exact f4
  · exact f5
  · intro k hk; simp (disch := omega) only [wrI_s, wrI_r, wrI_j, wrJ_s, wrJ_r, wrJ_j, wrI_J, wrJ_I, wrR_I, wrR_J]; exact f6 k hk
/-- what a RETURN answers -/
def ans (P : PG) (F : Fr) : Int64 := if 0 < pR P (Fj F) then Fw F (pL P (Fj F) + Fh F - 1) else 0
def Sl : Nat → Nat → Prop := fun r x => (r = 18 ∧ (x = 7 ∨ x = 8 ∨ x = 9 ∨ x = 10)) ∨ (r = 19) ∨ (r = 20) ∨ (r = 22)
theorem v_leave1 {M : AM} {F G : Fr} {r : List Fr} (hS : St M) (hR : RC M P mr) (hj : Fj F < pc P) (h : CSt P mr M F (G :: r)) (hr : Rm P F (G :: r)) (hr2 : Rm P G r) (hF : pR P (Fj F) ≤ Fh F) (hG : Fh G + pR P (Fj F) ≤ 100) :
    ∃ M', Ev K_X3_leave [aR (some 18), aR (some (mr (Fj F)))] M (some (aI 0)) M' ∧ CSt P mr M' (if 0 < pR P (Fj F) then fP (pL P (Fj G)) G (ans P F) else G) r ∧ Aq (fun q x => Sl q x ∧ (q = 18 → x ≠ 10)) M M' := by
  obtain ⟨i0, i1, i2, i3⟩ := hR.2 (Fj F) hj
  have hM : Mt M (mr (Fj F)) := i3.1.1
  have h1 : mI M (mr (Fj F)) 1 = nI (pR P (Fj F)) := i3.2.2.1
  have hR1 : pR P (Fj F) ≤ 1 := i3.2.2.2.2.1
  have h58 := hM.1
  have hl : (G :: r).length = r.length + 1 := rfl
  have hB := hr
  obtain ⟨r1, r2, r3, r4, r5, r6⟩ := hB
  have c7 := cl_n (n := (G :: r).length) (by omega)
  have e7 := h.1
  have t7 := ci (G :: r).length (by omega)
  have s7 : nI (G :: r).length - 1 = nI r.length := by rw [nI_s1 (by omega)]; rfl
  have tR := ci (pR P (Fj F)) (by omega)
  by_cases z : 0 < pR P (Fj F)
  · have eR : pR P (Fj F) = 1 := by omega
    obtain ⟨M2, e2, c2, a2⟩ := v_cpop hS h hr (by omega)
    have hd2 := c2.down
    have a3 : Aq (fun q x => Sl q x ∧ (q = 18 → x ≠ 10)) M2 (wrI (wrI (wrI M2 18 8 (mI M2 23 (G :: r).length)) 18 9 (mI M2 24 (G :: r).length)) 18 7 (nI r.length)) := ((Aq.rf.wI (by unfold Sl; omega)).wI (by unfold Sl; omega)).wI (by unfold Sl; omega)
    obtain ⟨M3, e3, c3, a4⟩ := v_cpush (x := Fw F (pL P (Fj F) + Fh F - 1)) (a3.st (a2.st hS)) hd2 hr2 (by omega)
    have e72 : mI M2 18 7 = nI (G :: r).length := (a2.i (by unfold SH; omega)).trans e7
    have e12 : mI M2 (mr (Fj F)) 1 = nI (pR P (Fj F)) := (a2.i (by unfold SH; omega)).trans h1
    unfold ans
    simp only [if_pos z]
    refine ⟨M3, ?_, c3, ((a2.mo (fun q x y => by unfold SH at y; unfold Sl; omega)).tr a3).tr (a4.mo (fun q x y => by unfold SH at y; unfold Sl; omega))⟩
    apply s_X3_leave_0 (M1 := M) (M2 := M2) (M3 := M3) (x104 := Fw F (pL P (Fj F) + Fh F - 1)) hS hM
    case c6 => intros; exact e2
    case b7 => intros; rw [e72]; exact in_n (by omega) (by omega)
    case c9 => intros; rw [e72, c7, s7]; exact e3
    case k10 => intros; exact ⟨rfl, rfl⟩
    case k8 =>
      intro _ _ g
      exfalso
      rw [wrI_r (by omega), wrI_r (by omega), wrI_r (by omega), e12, le32, tR] at g
      have : (0 : Int32).toInt = 0 := rfl
      omega
    case k11 => intro _ g; exfalso; rw [e72, eq32, t7] at g; have : (0 : Int32).toInt = 0 := rfl; omega
    all_goals (clear e2 c2 a2 hd2 a3 e3 c3 a4 h; intros; exfalso; simp only [lt32, le32, eq32, lt64, le64, eq64, Int32.reduceToInt, Int64.reduceToInt, h1, tR] at * <;> omega)
  · have hd2 := h.down
    simp only [if_neg z]
    have a3 : Aq (fun q x => Sl q x ∧ (q = 18 → x ≠ 10)) M (wrI (wrI (wrI M 18 8 (mI M 23 (G :: r).length)) 18 9 (mI M 24 (G :: r).length)) 18 7 (nI r.length)) := ((Aq.rf.wI (by unfold Sl; omega)).wI (by unfold Sl; omega)).wI (by unfold Sl; omega)
    refine ⟨_, ?_, hd2, a3⟩
    apply s_X3_leave_0 (M1 := M) (M2 := M) (M3 := M) (x104 := 0) hS hM
    case b1 => intros; rw [e7]; exact in_n (by omega) (by omega)
    case k2 => intros; refine ⟨rfl, ?_⟩; rw [e7, c7, s7]
    case c3 =>
      intro _ _ g
      exfalso
      rw [wrI_r (by omega), wrI_r (by omega), wrI_r (by omega), h1, le32, tR] at g
      have : (0 : Int32).toInt = 0 := rfl
      omega
    case k4 =>
      intro _ _ g
      exfalso
      rw [wrI_r (by omega), wrI_r (by omega), wrI_r (by omega), h1, le32, tR] at g
      have : (0 : Int32).toInt = 0 := rfl
      omega
    case k5 => intro _ g; exfalso; rw [e7, eq32, t7] at g; have : (0 : Int32).toInt = 0 := rfl; omega
    all_goals (clear hd2 a3 h; intros; exfalso; simp only [lt32, le32, eq32, lt64, le64, eq64, Int32.reduceToInt, Int64.reduceToInt, h1, tR] at * <;> omega)
theorem v_leave0 {M : AM} {F : Fr} (hS : St M) (hR : RC M P mr) (hj : Fj F < pc P) (h : CSt P mr M F []) (hr : Rm P F []) (hF : pR P (Fj F) ≤ Fh F) :
    ∃ M', Ev K_X3_leave [aR (some 18), aR (some (mr (Fj F)))] M (some (aI 1)) M' ∧ mJ M' 18 10 = ans P F ∧ Aq Sl M M' := by
  obtain ⟨i0, i1, i2, i3⟩ := hR.2 (Fj F) hj
  have hM : Mt M (mr (Fj F)) := i3.1.1
  have h1 : mI M (mr (Fj F)) 1 = nI (pR P (Fj F)) := i3.2.2.1
  have hR1 : pR P (Fj F) ≤ 1 := i3.2.2.2.2.1
  have h58 := hM.1
  have e7 : mI M 18 7 = 0 := h.1
  have tR := ci (pR P (Fj F)) (by omega)
  by_cases z : 0 < pR P (Fj F)
  · obtain ⟨M2, e2, c2, a2⟩ := v_cpop hS h hr (by omega)
    have e72 : mI M2 18 7 = 0 := (a2.i (by unfold SH; omega)).trans e7
    unfold ans
    simp only [if_pos z]
    refine ⟨_, ?_, wrJ_s, ((((a2.mo (fun q x y => by unfold SH at y; unfold Sl; omega)).wI (r := 18) (j := 8) (x := mI M2 23 (mI M2 18 7).toNatClampNeg) (by unfold Sl; omega)).wI (r := 18) (j := 9) (x := mI M2 24 (mI M2 18 7).toNatClampNeg) (by unfold Sl; omega)).wJ (by unfold Sl; omega))⟩
    apply s_X3_leave_0 (M1 := M) (M2 := M2) (M3 := M) (x104 := Fw F (pL P (Fj F) + Fh F - 1)) hS hM
    case c6 => intros; exact e2
    case b7 => intros; rw [e72]; exact in_n (n := 0) (by omega) (by omega)
    case k11 => intros; exact ⟨rfl, rfl⟩
    case k8 => intro _ g; exact absurd e72 g
    case c9 => intro _ g; exact absurd e72 g
    case k10 => intro _ g; exact absurd e72 g
    all_goals (clear e2 c2 a2 h; intros; exfalso; simp only [lt32, le32, eq32, lt64, le64, eq64, Int32.reduceToInt, Int64.reduceToInt, h1, tR] at * <;> omega)
  · unfold ans
    simp only [if_neg z]
    refine ⟨_, ?_, wrJ_s, (((Aq.rf.wI (r := 18) (j := 8) (x := mI M 23 (mI M 18 7).toNatClampNeg) (by unfold Sl; omega)).wI (r := 18) (j := 9) (x := mI M 24 (mI M 18 7).toNatClampNeg) (by unfold Sl; omega)).wJ (by unfold Sl; omega))⟩
    apply s_X3_leave_0 (M1 := M) (M2 := M) (M3 := M) (x104 := 0) hS hM
    case b1 => intros; rw [e7]; exact in_n (n := 0) (by omega) (by omega)
    case k5 => intros; exact ⟨rfl, rfl⟩
    case k2 => intro _ g; exact absurd e7 g
    case c3 => intro _ g; exact absurd e7 g
    case k4 => intro _ g; exact absurd e7 g
    all_goals (clear h; intros; exfalso; simp only [lt32, le32, eq32, lt64, le64, eq64, Int32.reduceToInt, Int64.reduceToInt, h1, tR] at * <;> omega)
end CLS
