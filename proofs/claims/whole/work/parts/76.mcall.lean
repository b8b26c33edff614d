/-! ===== PURE: the reference's call and back ===== -/
section MDL
variable {P : PG}
theorem MFs.ag2 {S : Nat → Nat → Prop} {n : Nat} {M M' : AM} (a : Ag S M M') (hs : ∀ q k, S q k → q = 26 ∨ SM n q k) : ∀ (r : List Fr), r.length ≤ n → RmL P r → MFs P M r → MFs P M' r
  | [], _, _, _ => trivial
  | F :: r, hn, hr, h => by
    have hl : (F :: r).length = r.length + 1 := rfl
    obtain ⟨⟨g1, g2, g3, g4, g5, g6⟩, g⟩ := h
    obtain ⟨⟨q1, q2, q3⟩, hr⟩ := hr
    have k : ∀ q k, q ≠ 26 → ¬ SM n q k → ¬ S q k := fun q k z1 z2 z3 => (hs q k z3).elim z1 z2
    exact ⟨⟨(a.i (k _ _ (by omega) (by unfold SM; omega))).trans g1, (a.i (k _ _ (by omega) (by unfold SM; omega))).trans g2, (a.i (k _ _ (by omega) (by unfold SM; omega))).trans g3, fun x hx => (a.j (k _ _ (by omega) (by unfold SM; omega))).trans (g4 x hx), fun x hx => (a.j (k _ _ (by omega) (by unfold SM; omega))).trans (g5 x hx), fun x hx => (a.j (k _ _ (by omega) (by unfold SM; omega))).trans (g6 x hx)⟩, MFs.ag2 a hs r (by omega) hr g⟩
def S54 (n : Nat) : Nat → Nat → Prop := fun r k => (r = 26 ∧ k = 40) ∨ (r = 54 ∧ 16 * n ≤ k ∧ k < 16 * n + 16)
theorem l_mcall {c n na h0 ca : Nat} (hn : n + 1 < 100) (ha : na ≤ 16) (hh : h0 + na ≤ 100) : ∀ (f k : Nat) (M : AM), na - k = f → k ≤ na → St M → mI M 53 n = nI h0 → mI M 26 40 = nI ca →
    ∃ M', E K_X7_call 44 [some (aR (some 26)), some (aI (nI c)), some (aI (nI n)), some (aI (nI na)), some (aI (nI k))] [] M none M' ∧ Ag (S54 (n + 1)) M M' ∧ mI M' 26 40 = nI (ca + 1) ∧ ∀ x, x < 16 → mJ M' 54 (16 * (n + 1) + x) = if k ≤ x ∧ x < na then mJ M 55 (101 * n + h0 + x) else mJ M 54 (16 * (n + 1) + x) := by
  intro f
  induction f with
  | zero =>
    intro k M hf hk hS h53 h40
    have e : k = na := by omega
    subst e
    refine ⟨wrI M 26 40 (nI (ca + 1)), ?_, Ag.rf.wI (by unfold S54; omega), wrI_s, fun x hx => by rw [if_neg (by omega)]; rfl⟩
    have hg : nI k ≤ nI k := (nle (by omega) (by omega)).mpr (Nat.le_refl _)
    apply s_X7_call_44 hS
    case k1 => intro _; refine ⟨rfl, ?_⟩; rw [h40, nI_1]
    all_goals (intro g; exact absurd hg g)
  | succ f ih =>
    intro k M hf hk hS h53 h40
    have hg : ¬ nI na ≤ nI k := by rw [nle (by omega) (by omega)]; omega
    have a : Ag (S54 (n + 1)) M (wrJ M 54 (16 * (n + 1) + k) (mJ M 55 (101 * n + h0 + k))) := Ag.rf.wJ (by unfold S54; omega)
    obtain ⟨M', hE, hA, z1, z2⟩ := ih (k + 1) _ (by omega) (by omega) (a.st hS) (by simp (disch := omega) only [wrI_s, wrI_r, wrI_j, wrJ_s, wrJ_r, wrJ_j, wrI_J, wrJ_I, wrR_I, wrR_J]; exact h53) (by simp (disch := omega) only [wrI_s, wrI_r, wrI_j, wrJ_s, wrJ_r, wrJ_j, wrI_J, wrJ_I, wrR_I, wrR_J]; exact h40)
    have cn := cl_n (n := n) (by omega)
    have e1 : (101 : Int32) * nI n + mI M 53 n + nI k = nI (101 * n + h0 + k) := by rw [h53, ix101, nI_add]
    have e2 : (16 : Int32) * (nI n + 1) + nI k = nI (16 * (n + 1) + k) := by rw [nI_1, ix16]
    refine ⟨M', ?_, a.tr hA, z1, fun x hx => ?_⟩
    · apply s_X7_call_44 hS
      case b2 => intros; exact in_n (by omega) (by omega)
      case b3 => intros; rw [cn, e1]; exact in_n (by omega) (by omega)
      case b4 => intros; rw [e2]; exact in_n (by omega) (by omega)
      case k5 => intros; rw [cn, e1, e2, cl_n (by omega), cl_n (by omega), nI_1]; exact hE
      all_goals (intro g; exact absurd g hg)
    · rw [z2 x hx]
      by_cases q : k + 1 ≤ x ∧ x < na
      · rw [if_pos q, if_pos (by omega), wrJ_r (by omega)]
      · rw [if_neg q]
        by_cases e : x = k
        · rw [e, wrJ_s, if_pos (by omega)]
        · rw [wrJ_j (by omega), if_neg (by omega)]
theorem iI_n {n : Nat} {k : Int} (h : n < 2 ^ 31) (e : k = n) : iI k = nI n := by rw [e, nI_i h]
theorem v_mcall {M : AM} {F : Fr} {r : List Fr} {c mo ca : Nat} (hP : PD P) (hS : St M) (hA : RM M P) (hT : MSt P M F r) (hr : Rm P F r) (hl : RmL P r) (h99 : r.length < 99) (hc : c < pc P) (ha : pA P c ≤ Fh F) (hm : mI M 26 36 = nI mo) (hmo : mo ≤ 1000000) (h40 : mI M 26 40 = nI ca) :
    ∃ M', Ev K_X7_call [aR (some 26), aI (nI c)] M none M' ∧ MSt P M' (nfr P c (fun x => Fw F (pL P (Fj F) + (Fh F - pA P c) + x))) (((Fj F, Fi F, Fh F - pA P c, Fl F), Fw F, Ft F) :: r) ∧ mI M' 26 36 = nI (max mo (wd P (nfr P c (fun x => Fw F (pL P (Fj F) + (Fh F - pA P c) + x))) (((Fj F, Fi F, Fh F - pA P c, Fl F), Fw F, Ft F) :: r))) ∧ mI M' 26 40 = nI (ca + 1) ∧ Ag (fun q k => SM r.length q k ∨ (q = 26 ∧ k = 40)) M M' := by
  obtain ⟨r1, r2, r3, r4, r5, r6⟩ := hr
  obtain ⟨h1, h2, ⟨g1, g2, g3, g4, g5, g6⟩, g⟩ := hT
  have hc32 : c < 32 := Nat.lt_of_lt_of_le hc hA.2.1
  have hM := hA.2.2 c hc
  have hL : pL P c ≤ 16 := (hP.ds hc).2.1
  have hAL : pA P c ≤ pL P c := (hP c hc).2
  have e27 : mI M 27 c = nI (pA P c) := (hM.2.2.2.2.1 c hc).1
  have e29 : mI M 29 c = nI (pL P c) := hM.2.2.2.1
  have cc := cl_n (n := c) (by omega)
  have cn := cl_n (n := r.length) (by omega)
  have ef := frm1 h1
  have s53 : mI M 53 r.length - nI (pA P c) = nI (Fh F - pA P c) := by rw [g3, nI_sub ha]
  have eW : wd P F r = sz P r + (pL P (Fj F) + Fh F) + 2 * r.length := rfl
  have s35 : mI M 26 35 + (2 - nI (pA P c)) = nI (wd P F r + 2 - pA P c) := by
    rw [h2, nI_i (by omega), nI_i (n := pA P c) (by omega), show (2 : Int32) = iI 2 from rfl, iI_sub, iI_add]
    exact iI_n (by omega) (by omega)
  have a1 : Ag (SM r.length) M (wrI (wrI M 53 r.length (nI (Fh F - pA P c))) 26 35 (nI (wd P F r + 2 - pA P c))) := (Ag.rf.wI (by unfold SM; omega)).wI (by unfold SM; omega)
  obtain ⟨M1, hE1, hA1, z1, z2, z3, z4, z5, z6, z7⟩ := v_menter (P := P) (c := c) (n := r.length + 1) (W := wd P F r + 2 - pA P c) (mo := mo) (a1.st hS) hc32 (by omega) (by omega) hmo hL (by simp (disch := omega) only [wrI_s, wrI_r, wrI_j, wrJ_s, wrJ_r, wrJ_j, wrI_J, wrJ_I, wrR_I, wrR_J]; exact e29) (by simp (disch := omega) only [wrI_s, wrI_r, wrI_j, wrJ_s, wrJ_r, wrJ_j, wrI_J, wrJ_I, wrR_I, wrR_J]; exact h1) (by simp (disch := omega) only [wrI_s, wrI_r, wrI_j, wrJ_s, wrJ_r, wrJ_j, wrI_J, wrJ_I, wrR_I, wrR_J]) (by simp (disch := omega) only [wrI_s, wrI_r, wrI_j, wrJ_s, wrJ_r, wrJ_j, wrI_J, wrJ_I, wrR_I, wrR_J]; exact hm)
  have e53 : mI M1 53 r.length = nI (Fh F - pA P c) := by rw [hA1.i (by unfold SM; omega)]; simp (disch := omega) only [wrI_s, wrI_r, wrI_j, wrJ_s, wrJ_r, wrJ_j, wrI_J, wrJ_I, wrR_I, wrR_J]
  obtain ⟨M', hE, hA', y1, y2⟩ := l_mcall (c := c) (n := r.length) (na := pA P c) (h0 := Fh F - pA P c) (ca := ca) (by omega) (by omega) (by omega) _ 0 M1 rfl (by omega) (hA1.st (a1.st hS)) e53 (by rw [hA1.i (by unfold SM; omega)]; simp (disch := omega) only [wrI_s, wrI_r, wrI_j, wrJ_s, wrJ_r, wrJ_j, wrI_J, wrJ_I, wrR_I, wrR_J]; exact h40)
  have ew : wd P (nfr P c (fun x => Fw F (pL P (Fj F) + (Fh F - pA P c) + x))) (((Fj F, Fi F, Fh F - pA P c, Fl F), Fw F, Ft F) :: r) = wd P F r + 2 - pA P c + pL P c := by
    show sz P r + (pL P (Fj F) + (Fh F - pA P c)) + (pL P c + 0) + 2 * (r.length + 1) = _
    omega
  have aa : Ag (fun q k => SM r.length q k ∨ (q = 26 ∧ k = 40)) M M' := ((a1.mo (fun q k z => Or.inl z)).tr (hA1.mo (fun q k z => by unfold SM at z ⊢; omega))).tr (hA'.mo (fun q k z => by unfold S54 at z; unfold SM; omega))
  have a1' : Ag (SM (r.length + 1)) (wrI (wrI M 53 r.length (nI (Fh F - pA P c))) 26 35 (nI (wd P F r + 2 - pA P c))) M1 := hA1
  rw [ew]
  refine ⟨M', ?_, ⟨?_, ?_, ⟨?_, ?_, ?_, ?_, ?_, ?_⟩, ⟨?_, ?_, ?_, ?_, ?_, ?_⟩, ?_⟩, ?_, y1, aa⟩
  · apply s_X7_call_0 (M1 := M1) hS
    case b1 => exact in_n hc32 (by omega)
    case b2 => rw [ef]; exact in_n (by omega) (by omega)
    case c3 => rw [ef, cn, cc, e27, s53, s35]; exact hE1
    case k4 => rw [ef, cc, e27]; exact hE
  · rw [hA'.i (by unfold S54; omega), z1]; rfl
  · rw [hA'.i (by unfold S54; omega), z2, ew]
  · rw [hA'.i (by unfold S54; omega)]; exact z4
  · rw [hA'.i (by unfold S54; omega)]; exact z5
  · rw [hA'.i (by unfold S54; omega)]; exact z6
  · intro x hx
    have hx' : x < pL P c := hx
    show mJ M' 54 (16 * (r.length + 1) + x) = if x < pA P c then Fw F (pL P (Fj F) + (Fh F - pA P c) + x) else 0
    rw [y2 x (by omega)]
    by_cases e : x < pA P c
    · rw [if_pos ⟨by omega, e⟩, if_pos e, hA1.j (by unfold SM; omega)]
      simp (disch := omega) only [wrI_s, wrI_r, wrI_j, wrJ_s, wrJ_r, wrJ_j, wrI_J, wrJ_I, wrR_I, wrR_J]
      rw [Nat.add_assoc, g5 _ (by omega), Nat.add_assoc]
    · rw [if_neg (by omega), if_neg e]; exact z7 x (by omega)
  · intro x hx; exact absurd hx (Nat.not_lt_zero x)
  · intro x hx; exact absurd hx (Nat.not_lt_zero x)
  · rw [hA'.i (by unfold S54; omega), hA1.i (by unfold SM; omega)]; simp (disch := omega) only [wrI_s, wrI_r, wrI_j, wrJ_s, wrJ_r, wrJ_j, wrI_J, wrJ_I, wrR_I, wrR_J]; exact g1
  · rw [hA'.i (by unfold S54; omega), hA1.i (by unfold SM; omega)]; simp (disch := omega) only [wrI_s, wrI_r, wrI_j, wrJ_s, wrJ_r, wrJ_j, wrI_J, wrJ_I, wrR_I, wrR_J]; exact g2
  · rw [hA'.i (by unfold S54; omega)]; exact e53
  · intro x hx
    have hx' : x < pL P (Fj F) := hx
    rw [hA'.j (by unfold S54; omega), hA1.j (by unfold SM; omega)]; simp (disch := omega) only [wrI_s, wrI_r, wrI_j, wrJ_s, wrJ_r, wrJ_j, wrI_J, wrJ_I, wrR_I, wrR_J]; exact g4 x hx
  · intro x hx
    have hx' : x < Fh F - pA P c := hx
    rw [hA'.j (by unfold S54; omega), hA1.j (by unfold SM; omega)]; simp (disch := omega) only [wrI_s, wrI_r, wrI_j, wrJ_s, wrJ_r, wrJ_j, wrI_J, wrJ_I, wrR_I, wrR_J]; exact g5 x (by omega)
  · intro k hk
    have hk' : k < Fl F := hk
    rw [hA'.j (by unfold S54; omega), hA1.j (by unfold SM; omega)]; simp (disch := omega) only [wrI_s, wrI_r, wrI_j, wrJ_s, wrJ_r, wrJ_j, wrI_J, wrJ_I, wrR_I, wrR_J]; exact g6 k hk
  · exact MFs.ag2 aa (fun q k z => z.elim Or.inr (fun y => Or.inl y.1)) r (Nat.le_refl _) hl g
  · rw [hA'.i (by unfold S54; omega), z3]
theorem wr2 {M : AM} {r j : Nat} {x y : Int32} : wrI (wrI M r j x) r j y = wrI M r j y := by
  have e : up2 (up2 (mI M) r j x) r j y = up2 (mI M) r j y := by
    funext q i
    unfold up2
    by_cases e : q = r ∧ i = j
    · rw [if_pos e, if_pos e]
    · rw [if_neg e, if_neg e, if_neg e]
  show ((M.1, M.2.1, up2 (up2 (mI M) r j x) r j y, mJ M, mR M) : AM) = _
  rw [e]; rfl
theorem MSt.down {M : AM} {F G : Fr} {r : List Fr} (h : MSt P M F (G :: r)) : MSt P (wrI (wrI M 26 34 (nI (r.length + 1))) 26 35 (nI (wd P G r))) G r := by
  obtain ⟨h1, h2, h3, ⟨g1, g2, g3, g4, g5, g6⟩, g⟩ := h
  refine ⟨by simp (disch := omega) only [wrI_s, wrI_r, wrI_j, wrJ_s, wrJ_r, wrJ_j, wrI_J, wrJ_I, wrR_I, wrR_J], by simp (disch := omega) only [wrI_s, wrI_r, wrI_j, wrJ_s, wrJ_r, wrJ_j, wrI_J, wrJ_I, wrR_I, wrR_J], ⟨by simp (disch := omega) only [wrI_s, wrI_r, wrI_j, wrJ_s, wrJ_r, wrJ_j, wrI_J, wrJ_I, wrR_I, wrR_J]; exact g1, by simp (disch := omega) only [wrI_s, wrI_r, wrI_j, wrJ_s, wrJ_r, wrJ_j, wrI_J, wrJ_I, wrR_I, wrR_J]; exact g2, by simp (disch := omega) only [wrI_s, wrI_r, wrI_j, wrJ_s, wrJ_r, wrJ_j, wrI_J, wrJ_I, wrR_I, wrR_J]; exact g3, g4, g5, g6⟩, ?_⟩
  have k2 : ∀ (x y : Int32) (r : List Fr), MFs P M r → MFs P (wrI (wrI M 26 34 x) 26 35 y) r := by
    intro x y r
    induction r with
    | nil => exact fun _ => trivial
    | cons F r ih =>
      intro z
      obtain ⟨⟨g1, g2, g3, g4, g5, g6⟩, g⟩ := z
      exact ⟨⟨by simp (disch := omega) only [wrI_s, wrI_r, wrI_j, wrJ_s, wrJ_r, wrJ_j, wrI_J, wrJ_I, wrR_I, wrR_J]; exact g1, by simp (disch := omega) only [wrI_s, wrI_r, wrI_j, wrJ_s, wrJ_r, wrJ_j, wrI_J, wrJ_I, wrR_I, wrR_J]; exact g2, by simp (disch := omega) only [wrI_s, wrI_r, wrI_j, wrJ_s, wrJ_r, wrJ_j, wrI_J, wrJ_I, wrR_I, wrR_J]; exact g3, g4, g5, g6⟩, ih g⟩
  exact k2 _ _ r g
theorem v_mback1 {M : AM} {F G : Fr} {r : List Fr} {mo : Nat} (hS : St M) (hA : RM M P) (hj : Fj F < pc P) (hT : MSt P M F (G :: r)) (hr : Rm P F (G :: r)) (hr2 : Rm P G r) (hl : RmL P (G :: r)) (hR1 : pR P (Fj F) ≤ 1) (hF : pR P (Fj F) ≤ Fh F) (hG : Fh G + pR P (Fj F) ≤ 100) (hm : mI M 26 36 = nI mo) (hmo : mo ≤ 1000000) (hw : wd P F (G :: r) ≤ mo) :
    ∃ M', Ev K_X7_back [aR (some 26), aI (nI (Fj F))] M none M' ∧ MSt P M' (bf P F G) r ∧ mI M' 26 36 = nI mo ∧ Ag (SM r.length) M M' := by
  have hB := hr
  obtain ⟨r1, r2, r3, r4, r5, r6⟩ := hB
  have hc32 : Fj F < 32 := Nat.lt_of_lt_of_le hj hA.2.1
  have hM := hA.2.2 (Fj F) hj
  have e28 : mI M 28 (Fj F) = nI (pR P (Fj F)) := hM.2.2.1
  have e29 : mI M 29 (Fj F) = nI (pL P (Fj F)) := hM.2.2.2.1
  have cc := cl_n (n := Fj F) (by omega)
  have hll : (G :: r).length = r.length + 1 := rfl
  have cn := cl_n (n := r.length + 1) (by omega)
  have tR := ci (pR P (Fj F)) (by omega)
  have eW : wd P F (G :: r) = sz P r + fz P G + (pL P (Fj F) + Fh F) + 2 * (r.length + 1) := rfl
  have eG : wd P G r = sz P r + fz P G + 2 * r.length := rfl
  unfold bf
  by_cases z : 0 < pR P (Fj F)
  · obtain ⟨M2, e2, c2, m2, a2⟩ := v_mtake hS hT hr hl (by omega)
    have e282 : mI M2 28 (Fj F) = nI (pR P (Fj F)) := (a2.i (by unfold SM; omega)).trans e28
    have e292 : mI M2 29 (Fj F) = nI (pL P (Fj F)) := (a2.i (by unfold SM; omega)).trans e29
    have f34 : mI M2 26 34 - 1 = nI (r.length + 1) := frm1 c2.1
    have w35 : mI M2 26 35 - (nI (pL P (Fj F)) + mI M2 53 (r.length + 1)) - 2 = nI (wd P G r) := by
      have q53 : mI M2 53 (r.length + 1) = nI (Fh F - 1) := c2.2.2.1.2.2.1
      have q35 : mI M2 26 35 = nI (wd P (fQ F) (G :: r)) := c2.2.1
      have eQ : wd P (fQ F) (G :: r) = sz P r + fz P G + (pL P (Fj F) + (Fh F - 1)) + 2 * (r.length + 1) := rfl
      rw [q53, q35, nI_add, nI_sub (by omega)]
      show _ - nI 2 = _
      rw [nI_sub (by omega)]
      congr 1
      omega
    have hd := c2.down
    have a3 : Ag (SM r.length) M2 (wrI (wrI M2 26 34 (nI (r.length + 1))) 26 35 (nI (wd P G r))) := (Ag.rf.wI (by unfold SM; omega)).wI (by unfold SM; omega)
    obtain ⟨M3, e3, c3, m3, a4⟩ := v_mpush (x := Fw F (pL P (Fj F) + Fh F - 1)) (mo := mo) (a3.st (a2.st hS)) hd hr2 hl.2 (by omega) (by simp (disch := omega) only [wrI_s, wrI_r, wrI_j, wrJ_s, wrJ_r, wrJ_j, wrI_J, wrJ_I, wrR_I, wrR_J]; exact m2.trans hm) hmo
    have ew : max mo (wd P (fP (pL P (Fj G)) G (Fw F (pL P (Fj F) + Fh F - 1))) r) = mo := by
      have : wd P (fP (pL P (Fj G)) G (Fw F (pL P (Fj F) + Fh F - 1))) r = sz P r + (pL P (Fj G) + (Fh G + 1)) + 2 * r.length := rfl
      unfold fz at eG eW
      omega
    rw [ew] at m3
    unfold ans
    simp only [if_pos z]
    have aa : Ag (SM r.length) M M3 := ((a2.mo (fun q k z => by unfold SM at z ⊢; omega)).tr a3).tr a4
    have er2 : nI (r.length + 1) ≠ 0 := by intro y; rw [eq32, ci _ (by omega)] at y; have : (0 : Int32).toInt = 0 := rfl; omega
    have w34 : wrI (wrI (wrI M2 26 34 (nI (r.length + 1))) 26 35 (mI M2 26 35 - (nI (pL P (Fj F)) + mI M2 53 (r.length + 1)))) 26 35 (nI (wd P G r)) = wrI (wrI M2 26 34 (nI (r.length + 1))) 26 35 (nI (wd P G r)) := wr2
    refine ⟨M3, ?_, c3, m3, aa⟩
    apply s_X7_back_0 (M1 := M) (M2 := M2) (M3 := M3) (x104 := Fw F (pL P (Fj F) + Fh F - 1)) hS
    case b1 => exact in_n hc32 (by omega)
    case c7 => intros; exact e2
    case b8 => intros; rw [f34]; exact in_n (by omega) (by omega)
    case c10 => intros; rw [f34, cn, cc, e292, w35, w34]; exact e3
    case k11 => intros; exact ⟨rfl, rfl⟩
    case k9 => intro _ _ g; exfalso; rw [cc, e282, le32, tR] at g; have : (0 : Int32).toInt = 0 := rfl; omega
    case k12 => intro _ g; rw [f34] at g; exact absurd g er2
    all_goals (intro g; exfalso; rw [cc, e28, le32, tR] at g; have : (0 : Int32).toInt = 0 := rfl; omega)
  · simp only [if_neg z]
    have f34 : mI M 26 34 - 1 = nI (r.length + 1) := frm1 hT.1
    have w35 : mI M 26 35 - (nI (pL P (Fj F)) + mI M 53 (r.length + 1)) - 2 = nI (wd P G r) := by
      have q53 : mI M 53 (r.length + 1) = nI (Fh F) := hT.2.2.1.2.2.1
      rw [q53, hT.2.1, nI_add, nI_sub (by omega)]
      show _ - nI 2 = _
      rw [nI_sub (by omega)]
      congr 1
      omega
    have a3 : Ag (SM r.length) M (wrI (wrI M 26 34 (nI (r.length + 1))) 26 35 (nI (wd P G r))) := (Ag.rf.wI (by unfold SM; omega)).wI (by unfold SM; omega)
    have er2 : nI (r.length + 1) ≠ 0 := by intro y; rw [eq32, ci _ (by omega)] at y; have : (0 : Int32).toInt = 0 := rfl; omega
    have w34 : wrI (wrI (wrI M 26 34 (nI (r.length + 1))) 26 35 (mI M 26 35 - (nI (pL P (Fj F)) + mI M 53 (r.length + 1)))) 26 35 (nI (wd P G r)) = wrI (wrI M 26 34 (nI (r.length + 1))) 26 35 (nI (wd P G r)) := wr2
    refine ⟨_, ?_, hT.down, by simp (disch := omega) only [wrI_s, wrI_r, wrI_j, wrJ_s, wrJ_r, wrJ_j, wrI_J, wrJ_I, wrR_I, wrR_J]; exact hm, a3⟩
    apply s_X7_back_0 (M1 := M) (M2 := M) (M3 := M) (x104 := 0) hS
    case b1 => exact in_n hc32 (by omega)
    case b2 => intros; rw [f34]; exact in_n (by omega) (by omega)
    case k3 => intros; refine ⟨rfl, ?_⟩; rw [f34, cn, cc, e29, w35, w34]
    case k6 => intro _ g; rw [f34] at g; exact absurd g er2
    case c4 => intro _ _ g; exfalso; rw [cc, e28, le32, tR] at g; have : (0 : Int32).toInt = 0 := rfl; omega
    case k5 => intro _ _ g; exfalso; rw [cc, e28, le32, tR] at g; have : (0 : Int32).toInt = 0 := rfl; omega
    all_goals (intro g; exfalso; rw [cc, e28, le32, tR] at g; have : (0 : Int32).toInt = 0 := rfl; omega)
theorem v_mback0 {M : AM} {F : Fr} (hS : St M) (hA : RM M P) (hj : Fj F < pc P) (hT : MSt P M F []) (hr : Rm P F []) (hR1 : pR P (Fj F) ≤ 1) (hF : pR P (Fj F) ≤ Fh F) :
    ∃ M', Ev K_X7_back [aR (some 26), aI (nI (Fj F))] M none M' ∧ mI M' 26 34 = 0 ∧ mJ M' 26 37 = ans P F ∧ mI M' 26 36 = mI M 26 36 ∧ Ag (fun q k => SM 0 q k ∨ (q = 26 ∧ k = 37)) M M' := by
  have hc32 : Fj F < 32 := Nat.lt_of_lt_of_le hj hA.2.1
  have hM := hA.2.2 (Fj F) hj
  have e28 : mI M 28 (Fj F) = nI (pR P (Fj F)) := hM.2.2.1
  have cc := cl_n (n := Fj F) (by omega)
  have tR := ci (pR P (Fj F)) (by omega)
  by_cases z : 0 < pR P (Fj F)
  · obtain ⟨M2, e2, c2, m2, a2⟩ := v_mtake hS hT hr trivial (by omega)
    have e282 : mI M2 28 (Fj F) = nI (pR P (Fj F)) := (a2.i (by unfold SM; omega)).trans e28
    have f34 : mI M2 26 34 - 1 = 0 := frm1 c2.1
    have aa : Ag (fun q k => SM 0 q k ∨ (q = 26 ∧ k = 37)) M (wrJ (wrI (wrI M2 26 34 (mI M2 26 34 - 1)) 26 35 (mI M2 26 35 - (mI M2 29 (nI (Fj F)).toNatClampNeg + mI M2 53 (mI M2 26 34 - 1).toNatClampNeg))) 26 37 (Fw F (pL P (Fj F) + Fh F - 1))) := (((a2.mo (fun q k z => Or.inl z)).wI (by unfold SM; omega)).wI (by unfold SM; omega)).wJ (by omega)
    unfold ans
    simp only [if_pos z]
    refine ⟨_, ?_, ?_, wrJ_s, ?_, aa⟩
    · apply s_X7_back_0 (M1 := M) (M2 := M2) (M3 := M) (x104 := Fw F (pL P (Fj F) + Fh F - 1)) hS
      case b1 => exact in_n hc32 (by omega)
      case c7 => intros; exact e2
      case b8 => intros; rw [f34]; exact in_n (n := 0) (by omega) (by omega)
      case k12 => intros; exact ⟨rfl, rfl⟩
      case k9 => intro _ g; exact absurd f34 g
      case c10 => intro _ g; exact absurd f34 g
      case k11 => intro _ g; exact absurd f34 g
      all_goals (intro g; exfalso; rw [cc, e28, le32, tR] at g; have : (0 : Int32).toInt = 0 := rfl; omega)
    · simp (disch := omega) only [wrI_s, wrI_r, wrI_j, wrJ_s, wrJ_r, wrJ_j, wrI_J, wrJ_I, wrR_I, wrR_J]; exact f34
    · simp (disch := omega) only [wrI_s, wrI_r, wrI_j, wrJ_s, wrJ_r, wrJ_j, wrI_J, wrJ_I, wrR_I, wrR_J]; exact m2
  · have f34 : mI M 26 34 - 1 = 0 := frm1 hT.1
    have aa : Ag (fun q k => SM 0 q k ∨ (q = 26 ∧ k = 37)) M (wrJ (wrI (wrI M 26 34 (mI M 26 34 - 1)) 26 35 (mI M 26 35 - (mI M 29 (nI (Fj F)).toNatClampNeg + mI M 53 (mI M 26 34 - 1).toNatClampNeg))) 26 37 0) := ((Ag.rf.wI (by unfold SM; omega)).wI (by unfold SM; omega)).wJ (by omega)
    unfold ans
    simp only [if_neg z]
    refine ⟨_, ?_, ?_, wrJ_s, ?_, aa⟩
    · apply s_X7_back_0 (M1 := M) (M2 := M) (M3 := M) (x104 := 0) hS
      case b1 => exact in_n hc32 (by omega)
      case b2 => intros; rw [f34]; exact in_n (n := 0) (by omega) (by omega)
      case k6 => intros; exact ⟨rfl, rfl⟩
      case k3 => intro _ g; exact absurd f34 g
      case c4 => intro _ g; exact absurd f34 g
      case k5 => intro _ g; exact absurd f34 g
      all_goals (intro g; exfalso; rw [cc, e28, le32, tR] at g; have : (0 : Int32).toInt = 0 := rfl; omega)
    · simp (disch := omega) only [wrI_s, wrI_r, wrI_j, wrJ_s, wrJ_r, wrJ_j, wrI_J, wrJ_I, wrR_I, wrR_J]; exact f34
    · simp (disch := omega) only [wrI_s, wrI_r, wrI_j, wrJ_s, wrJ_r, wrJ_j, wrI_J, wrJ_I, wrR_I, wrR_J]
end MDL
