/-! ===== PURE: the class's heights ===== -/
theorem iI_add (a b : Int) : iI a + iI b = iI (a + b) := (Int32.ofInt_add a b).symm
theorem iI_sub (a b : Int) : iI a - iI b = iI (a - b) := (Int32.ofInt_sub a b).symm
section HIGH
variable {D : DD}
def tk (D : DD) (i : Nat) : Int := if dO D i = 11 then dA D i + 1 else if dO D i = 16 then cA D (dA D i).toNat else if dO D i = 17 then dR D else if dO D i = 1 ∨ dO D i = 2 ∨ dO D i = 10 ∨ dO D i = 13 then 1 else if 3 ≤ dO D i ∧ dO D i ≤ 8 then 2 else 0
def gv (D : DD) (i : Nat) : Int := if dO D i = 11 then dA D i + 2 else if dO D i = 16 then cR D (dA D i).toNat else if dO D i = 0 ∨ (4 ≤ dO D i ∧ dO D i ≤ 9) then 1 else if dO D i = 2 ∨ dO D i = 3 then 2 else 0
/-- METHODS' sizes are small -/
def Ds (D : DD) : Prop := dn D ≤ 120 ∧ dL D ≤ 16 ∧ dR D ≤ 1 ∧ dc D ≤ 32 ∧ ∀ j, j < dc D → cA D j ≤ 8 ∧ cR D j ≤ 1
theorem MC.ds {M : AM} {m : Nat} {mr : Nat → Nat} (h : MC M m D) (hp : PC M mr D) : Ds D := ⟨h.1.2.2, h.2.2.2.2.2, h.2.2.2.2.1, hp.1.2.1, fun j hj => (hp.2 j hj).2.2⟩
theorem ff0 {i : Nat} (h : ff D i = 0) : okF D i ∧ (dO D i = 14 ∨ dO D i = 15 → 0 ≤ mat D (dn D) i) ∧ (dO D i = 14 → dep D i < 8) ∧ (dO D i = 12 ∨ dO D i = 13 → ins D (dA D i).toNat = ins D i) ∧ (dO D i = 16 → 0 ≤ dA D i ∧ dA D i < dc D) := by
  unfold ff at h
  by_cases h1 : okF D i
  · rw [if_pos h1] at h
    by_cases h2 : ((dO D i = 14 ∨ dO D i = 15) ∧ mat D (dn D) i < 0) ∨ (dO D i = 14 ∧ 8 ≤ dep D i)
    · rw [if_pos h2] at h; omega
    · rw [if_neg h2] at h
      by_cases h3 : (dO D i = 12 ∨ dO D i = 13) ∧ ins D (dA D i).toNat ≠ ins D i
      · rw [if_pos h3] at h; omega
      · rw [if_neg h3] at h
        by_cases h4 : dO D i = 16 ∧ ¬ (0 ≤ dA D i ∧ dA D i < dc D)
        · rw [if_pos h4] at h; omega
        · refine ⟨h1, fun z => ?_, fun z => ?_, fun z => ?_, fun z => ?_⟩
          · omega
          · omega
          · by_cases e : ins D (dA D i).toNat = ins D i
            · exact e
            · exact absurd ⟨z, e⟩ h3
          · omega
  · rw [if_neg h1] at h; omega
theorem tk_r {i : Nat} (hd : Ds D) (hf : ff D i = 0) : 0 ≤ tk D i ∧ tk D i ≤ 101 := by
  have h := ff0 hf
  have hc := hd.2.2.2.2 (dA D i).toNat
  have := hd.2.2.1
  unfold tk
  repeat' split
  all_goals omega
theorem gv_r {i : Nat} (hd : Ds D) (hf : ff D i = 0) : 0 ≤ gv D i ∧ gv D i ≤ 102 := by
  have h := ff0 hf
  have hc := hd.2.2.2.2 (dA D i).toNat
  have := hd.2.2.1
  unfold gv
  repeat' split
  all_goals omega
theorem tkI_t : ∀ j : Nat, j < 18 → (tkI j).toInt = if j = 1 ∨ j = 2 ∨ j = 10 ∨ j = 13 then 1 else if 3 ≤ j ∧ j ≤ 8 then 2 else 0 := by decide
theorem gvI_t : ∀ j : Nat, j < 18 → (gvI j).toInt = if j = 0 ∨ (4 ≤ j ∧ j ≤ 9) then 1 else if j = 2 ∨ j = 3 then 2 else 0 := by decide
theorem v_takenBy {M : AM} {m i : Nat} {mr : Nat → Nat} (hS : St M) (h : MC M m D) (hp : PC M mr D) (hi : i < dn D) (hf : ff D i = 0) : Ev K_X2_takenBy [aR (some 7), aR (some m), aI (nI i)] M (some (aI (iI (tk D i)))) M := by
  have hn := h.1.2.2
  have ho := (h.2.1 i hi).1
  have ha := (h.2.1 i hi).2
  have ck := cl_n (n := i) (by omega)
  have h0 := ff0 hf
  have hc := v_isOp hS (mI M (m + 1) i)
  rw [ho, if_pos ⟨h0.1.1, h0.1.2.1⟩] at hc
  have hfi := v_find hS hp.1 (mJ M (m + 2) i)
  rw [ha] at hfi
  have eop : mI M (m + 1) i = nI (dO D i).toNat := by rw [eq32, ho, ci _ (by omega)]; omega
  have rr : ∀ (r : Nat), dO D i = 16 → (if 0 ≤ dA D i ∧ dA D i < dc D then some (mr (dA D i).toNat) else none) = some r → r = mr (dA D i).toNat ∧ (dA D i).toNat < dc D := fun r hq z => by
    have e := h0.2.2.2.2 hq
    rw [if_pos e] at z
    injection z with z
    exact ⟨z.symm, by omega⟩
  apply s_X2_takenBy_0 (M1 := M) (M2 := M) (x105 := 1) hS h.1.1
  case b1 => exact in_n (by omega) (by omega)
  case k2 =>
    intro g
    rw [ck, eq32, ho] at g
    have g : dO D i = 11 := g
    refine ⟨?_, rfl⟩
    unfold tk
    rw [if_pos g, ck, x_l (by omega) (by omega), ha, nI_1, nI_i (by omega)]
    congr 3
    omega
  case c3 => intros; rw [ck]; exact hfi
  case h4 =>
    intro _ g r q
    rw [ck, eq32, ho] at g
    have := rr r g q
    rw [this.1]
    exact (hp.1.2.2.1 _ this.2).2
  case k5 =>
    intro _ g r q
    rw [ck, eq32, ho] at g
    have g : dO D i = 16 := g
    have := rr r g q
    refine ⟨?_, rfl⟩
    rw [this.1, (hp.2 _ this.2).1]
    unfold tk
    rw [if_neg (by omega), if_pos g, nI_i (by have := (hp.2 _ this.2).2.2.1; omega)]
  case k6 =>
    intro _ g q
    rw [ck, eq32, ho] at g
    have e := h0.2.2.2.2 g
    rw [if_pos e] at q
    simp at q
  case k7 =>
    intro _ _ g
    rw [ck, eq32, ho] at g
    have g : dO D i = 17 := g
    refine ⟨?_, rfl⟩
    unfold tk
    rw [if_neg (by omega), if_neg (by omega), if_pos g, h.2.2.1, nI_i (by have := h.2.2.2.2.1; omega)]
  case c8 => intros; rw [ck]; exact hc
  case k9 => intros; exfalso; contradiction
  case b10 => intros; rw [ck, eop]; exact in_n (by omega) (by omega)
  case k11 =>
    intro g1 g2 g3 _
    rw [ck] at *
    refine ⟨?_, rfl⟩
    simp only [lt32, le32, eq32, lt64, le64, eq64, Int32.reduceToInt, Int64.reduceToInt, ho] at g1 g2 g3
    rw [eop, cl_n (by omega)]
    have := tkI_t (dO D i).toNat (by omega)
    congr 2
    refine iI_e (this.trans ?_)
    unfold tk
    rw [if_neg g1, if_neg g2, if_neg g3]
    repeat' split
    all_goals omega
theorem v_givenBy {M : AM} {m i : Nat} {mr : Nat → Nat} (hS : St M) (h : MC M m D) (hp : PC M mr D) (hi : i < dn D) (hf : ff D i = 0) : Ev K_X2_givenBy [aR (some 7), aR (some m), aI (nI i)] M (some (aI (iI (gv D i)))) M := by
  have hn := h.1.2.2
  have ho := (h.2.1 i hi).1
  have ha := (h.2.1 i hi).2
  have ck := cl_n (n := i) (by omega)
  have h0 := ff0 hf
  have hc := v_isOp hS (mI M (m + 1) i)
  rw [ho, if_pos ⟨h0.1.1, h0.1.2.1⟩] at hc
  have hfi := v_find hS hp.1 (mJ M (m + 2) i)
  rw [ha] at hfi
  have eop : mI M (m + 1) i = nI (dO D i).toNat := by rw [eq32, ho, ci _ (by omega)]; omega
  have rr : ∀ (r : Nat), dO D i = 16 → (if 0 ≤ dA D i ∧ dA D i < dc D then some (mr (dA D i).toNat) else none) = some r → r = mr (dA D i).toNat ∧ (dA D i).toNat < dc D := fun r hq z => by
    have e := h0.2.2.2.2 hq
    rw [if_pos e] at z
    injection z with z
    exact ⟨z.symm, by omega⟩
  apply s_X2_givenBy_0 (M1 := M) (M2 := M) (x104 := 1) hS h.1.1
  case b1 => exact in_n (by omega) (by omega)
  case k2 =>
    intro g
    rw [ck, eq32, ho] at g
    have g : dO D i = 11 := g
    refine ⟨?_, rfl⟩
    unfold gv
    rw [if_pos g, ck, x_l (by omega) (by omega), ha, nI_i (by omega)]
    congr 2
    show iI _ + iI 2 = _
    rw [iI_add]
    congr 1
    omega
  case c3 => intros; rw [ck]; exact hfi
  case h4 =>
    intro _ g r q
    rw [ck, eq32, ho] at g
    have := rr r g q
    rw [this.1]
    exact (hp.1.2.2.1 _ this.2).2
  case k5 =>
    intro _ g r q
    rw [ck, eq32, ho] at g
    have g : dO D i = 16 := g
    have := rr r g q
    refine ⟨?_, rfl⟩
    rw [this.1, (hp.2 _ this.2).2.1]
    unfold gv
    rw [if_neg (by omega), if_pos g, nI_i (by have := (hp.2 _ this.2).2.2.2; omega)]
  case k6 =>
    intro _ g q
    rw [ck, eq32, ho] at g
    have e := h0.2.2.2.2 g
    rw [if_pos e] at q
    simp at q
  case c7 => intros; rw [ck]; exact hc
  case k8 => intros; exfalso; contradiction
  case b9 => intros; rw [ck, eop]; exact in_n (by omega) (by omega)
  case k10 =>
    intro g1 g2 _
    rw [ck] at *
    refine ⟨?_, rfl⟩
    simp only [lt32, le32, eq32, lt64, le64, eq64, Int32.reduceToInt, Int64.reduceToInt, ho] at g1 g2
    rw [eop, cl_n (by omega)]
    have := gvI_t (dO D i).toNat (by omega)
    congr 2
    refine iI_e (this.trans ?_)
    unfold gv
    rw [if_neg g1, if_neg g2]
    repeat' split
    all_goals omega
def HT (M : AM) (m : Nat) (D : DD) (hh : Nat → Int) : Prop := ∀ i, i < dn D → (mI M (m + 4) i).toInt = hh i
def hhR (D : DD) (hh : Nat → Int) : Prop := ∀ i, i < dn D → -1 ≤ hh i ∧ hh i ≤ 100
def ldk (D : DD) (hh : Nat → Int) (to b : Int) : Int := if 0 ≤ to ∧ to < dn D then (if hh to.toNat ≠ -1 ∧ hh to.toNat ≠ b then 7 else 0) else 9
def ldM (D : DD) (hh : Nat → Int) (m : Nat) (to b : Int) (M : AM) : AM := if ldk D hh to b = 0 then wrI M (m + 4) to.toNat (iI b) else M
theorem v_lead {M : AM} {m : Nat} {hh : Nat → Int} (hS : St M) (h : MC M m D) (hH : HT M m D hh) {x : Int64} {to b : Int} (hx : x.toInt = to) (hb : 0 ≤ b ∧ b ≤ 100) : Ev K_X2_lead [aR (some 7), aR (some m), aJ x, aI (iI b)] M (some (aI (iI (ldk D hh to b)))) (ldM D hh m to b M) := by
  have hn := h.1.2.2
  have hc := v_has hS h.1 x
  rw [hx] at hc
  have eb := iI_t (k := b) (by omega) (by omega)
  by_cases g : 0 ≤ to ∧ to < dn D
  · rw [if_pos g] at hc
    have ex : x.toInt32.toNatClampNeg = to.toNat := by rw [x_l (by omega) (by omega), hx, cl_n (by omega)]
    have hh1 := hH to.toNat (by omega)
    by_cases g2 : hh to.toNat ≠ -1 ∧ hh to.toNat ≠ b
    · have e : ldk D hh to b = 7 := by unfold ldk; rw [if_pos g, if_pos g2]
      have e2 : ldM D hh m to b M = M := by unfold ldM; rw [e]; rfl
      rw [e, e2]
      apply s_X2_lead_0 (M1 := M) (x101 := 1) hS h.1.1
      case c1 => exact hc
      case b2 => intro _; rw [x_l (by omega) (by omega), hx]; exact in_n (by omega) (by omega)
      case k5 => intros; exact ⟨rfl, rfl⟩
      all_goals (intros; exfalso; simp only [lt32, le32, eq32, lt64, le64, eq64, Int32.reduceToInt, Int64.reduceToInt, ex, hh1, eb] at *; omega)
    · have e : ldk D hh to b = 0 := by unfold ldk; rw [if_pos g, if_neg g2]
      have e2 : ldM D hh m to b M = wrI M (m + 4) to.toNat (iI b) := by unfold ldM; rw [e]; rfl
      rw [e, e2]
      apply s_X2_lead_0 (M1 := M) (x101 := 1) hS h.1.1
      case c1 => exact hc
      case b2 => intro _; rw [x_l (by omega) (by omega), hx]; exact in_n (by omega) (by omega)
      case k3 => intros; rw [ex]; exact ⟨rfl, rfl⟩
      case k4 => intros; rw [ex]; exact ⟨rfl, rfl⟩
      all_goals (intros; exfalso; simp only [lt32, le32, eq32, lt64, le64, eq64, Int32.reduceToInt, Int64.reduceToInt, ex, hh1, eb] at *; omega)
  · rw [if_neg g] at hc
    have e : ldk D hh to b = 9 := by unfold ldk; rw [if_neg g]
    have e2 : ldM D hh m to b M = M := by unfold ldM; rw [e]; rfl
    rw [e, e2]
    apply s_X2_lead_0 (M1 := M) (x101 := 0) hS h.1.1
    case c1 => exact hc
    case k6 => intros; exact ⟨rfl, rfl⟩
    all_goals (intro z; exact absurd rfl z)
end HIGH
