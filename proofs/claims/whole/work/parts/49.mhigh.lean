/-! ===== PURE: the reference's heights ===== -/
theorem iI_neg (a : Int) : -(iI a) = iI (-a) := (Int32.ofInt_neg a).symm
section MH
variable {D : DD} {j : Nat}
theorem v_takes {M : AM} {i : Nat} (hS : St M) (h : MM M j D) (hi : i < dn D) (hf : ff D i = 0) : Ev K_X7_takes [aR (some 26), aI (nI j), aI ((120 : Int32) * nI j + nI i)] M (some (aI (iI (tk D i)))) M := by
  have hN := h.ln
  have hj := h.lj
  have cj := cl_n (n := j) (by omega)
  have bj : vp_in (nI j) 32 := in_n hj (by omega)
  have ho := (h.2.1 i hi).1
  have ha := (h.2.1 i hi).2
  have ck := cx (j := j) (i := i) (by omega) (by omega)
  have fo := ffo hf
  have hdc := h.2.2.2.2.2.2.1.2.2.2.1
  apply s_X7_takes_0 hS
  case b1 => exact bx (by omega) (by omega)
  case k2 => intro g; simp only [lt32, le32, eq32, lt64, le64, eq64, Int32.reduceToInt, Int64.reduceToInt, ck, ho] at g; refine ⟨?_, rfl⟩; unfold tk; rw [if_neg (by omega), if_neg (by omega), if_neg (by omega), if_pos g]; rfl
  case k3 => intro g1 g; simp only [lt32, le32, eq32, lt64, le64, eq64, Int32.reduceToInt, Int64.reduceToInt, ck, ho] at g g1; refine ⟨?_, rfl⟩; unfold tk; rw [if_neg (by omega), if_neg (by omega), if_neg (by omega), if_neg (by omega), if_pos (by omega)]; rfl
  case k4 =>
    intro _ _ g
    simp only [lt32, le32, eq32, lt64, le64, eq64, Int32.reduceToInt, Int64.reduceToInt, ck, ho] at g
    refine ⟨?_, rfl⟩
    have := (ff0 hf).1
    unfold tk
    rw [if_pos g, ck, x_l (by omega) (by omega), ha, nI_1, nI_i (by omega)]
    congr 3
    omega
  case b5 => intro _ _ _ g; simp only [lt32, le32, eq32, lt64, le64, eq64, Int32.reduceToInt, Int64.reduceToInt, ck, ho] at g; have := ffc hf g; rw [ck, x_l (by omega) (by omega), ha]; exact in_n (by omega) (by omega)
  case k6 =>
    intro _ _ _ g
    simp only [lt32, le32, eq32, lt64, le64, eq64, Int32.reduceToInt, Int64.reduceToInt, ck, ho] at g
    have := ffc hf g
    refine ⟨?_, rfl⟩
    rw [ck, x_l (by omega) (by omega), ha, cl_n (by omega), (h.2.2.2.2.1 _ (by omega)).1]
    unfold tk
    rw [if_neg (by omega), if_pos g, nI_i (by have := (h.2.2.2.2.2.2.1.2.2.2.2 (dA D i).toNat (by omega)).1; omega)]
  case b7 => intros; exact bj
  case k8 =>
    intro _ _ _ _ g
    simp only [lt32, le32, eq32, lt64, le64, eq64, Int32.reduceToInt, Int64.reduceToInt, ck, ho] at g
    refine ⟨?_, rfl⟩
    rw [cj, h.2.2.1]
    unfold tk
    rw [if_neg (by omega), if_neg (by omega), if_pos g, nI_i (by have := h.2.2.2.2.2.2.1.2.2.1; omega)]
  case k9 => intro g1 g2 g3 g4 g5; simp only [lt32, le32, eq32, lt64, le64, eq64, Int32.reduceToInt, Int64.reduceToInt, ck, ho] at g1 g2 g3 g4 g5; refine ⟨?_, rfl⟩; unfold tk; rw [if_neg (by omega), if_neg (by omega), if_neg (by omega), if_neg (by omega), if_neg (by omega)]; rfl
theorem v_grows {M : AM} {i : Nat} (hS : St M) (h : MM M j D) (hi : i < dn D) (hf : ff D i = 0) : Ev K_X7_grows [aR (some 26), aI (nI j), aI ((120 : Int32) * nI j + nI i)] M (some (aI (iI (gv D i - tk D i)))) M := by
  have hN := h.ln
  have hj := h.lj
  have cj := cl_n (n := j) (by omega)
  have bj : vp_in (nI j) 32 := in_n hj (by omega)
  have ho := (h.2.1 i hi).1
  have ha := (h.2.1 i hi).2
  have ck := cx (j := j) (i := i) (by omega) (by omega)
  have fo := ffo hf
  have hdc := h.2.2.2.2.2.2.1.2.2.2.1
  apply s_X7_grows_0 hS
  case b1 => exact bx (by omega) (by omega)
  case k2 => intro g; simp only [lt32, le32, eq32, lt64, le64, eq64, Int32.reduceToInt, Int64.reduceToInt, ck, ho] at g; refine ⟨?_, rfl⟩; congr 2; refine iI_e ?_; show (1 : Int) = _; unfold gv tk; repeat' split <;> omega
  case k3 => intro g1 g; simp only [lt32, le32, eq32, lt64, le64, eq64, Int32.reduceToInt, Int64.reduceToInt, ck, ho] at g g1; refine ⟨?_, rfl⟩; congr 2; refine iI_e ?_; show (-1 : Int) = _; unfold gv tk; repeat' split <;> omega
  case b4 => intro _ _ g; simp only [lt32, le32, eq32, lt64, le64, eq64, Int32.reduceToInt, Int64.reduceToInt, ck, ho] at g; have := ffc hf g; rw [ck, x_l (by omega) (by omega), ha]; exact in_n (by omega) (by omega)
  case k5 =>
    intro _ _ g
    simp only [lt32, le32, eq32, lt64, le64, eq64, Int32.reduceToInt, Int64.reduceToInt, ck, ho] at g
    have := ffc hf g
    have b := h.2.2.2.2.2.2.1.2.2.2.2 (dA D i).toNat (by omega)
    refine ⟨?_, rfl⟩
    rw [ck, x_l (by omega) (by omega), ha, cl_n (by omega), (h.2.2.2.2.1 _ (by omega)).1, (h.2.2.2.2.1 _ (by omega)).2, nI_i (by omega), nI_i (by omega), iI_sub]
    unfold tk gv
    rw [if_neg (by omega), if_pos g, if_neg (by omega), if_pos g]
  case b6 => intros; exact bj
  case k7 =>
    intro _ _ _ g
    simp only [lt32, le32, eq32, lt64, le64, eq64, Int32.reduceToInt, Int64.reduceToInt, ck, ho] at g
    refine ⟨?_, rfl⟩
    rw [cj, h.2.2.1, nI_i (by have := h.2.2.2.2.2.2.1.2.2.1; omega), iI_neg]
    unfold tk gv
    rw [if_neg (by omega), if_neg (by omega), if_neg (by omega), if_neg (by omega), if_neg (by omega), if_neg (by omega), if_pos g]
    congr 3
    omega
  case k8 => intro g1 g2 g3 g4; simp only [lt32, le32, eq32, lt64, le64, eq64, Int32.reduceToInt, Int64.reduceToInt, ck, ho] at g1 g2 g3 g4; refine ⟨?_, rfl⟩; congr 2; refine iI_e ?_; show (0 : Int) = _; unfold gv tk; repeat' split <;> omega
theorem v_onward {M : AM} {i : Nat} (hS : St M) (h : MM M j D) (hB : (mI M 36 (120 * j + i)).toInt = mat D (dn D) i) (hi : i < dn D) : Ev K_X7_onward [aR (some 26), aI (nI j), aI (nI i)] M (some (aI (iI (onw D i)))) M := by
  have hN := h.ln
  have hj := h.lj
  have ho := (h.2.1 i hi).1
  have ha := (h.2.1 i hi).2
  have ck := cx (j := j) (i := i) (by omega) (by omega)
  have e1 : nI i + 1 = iI ((i : Int) + 1) := by rw [nI_1, nI_i (by omega)]; rfl
  have e2 : mI M 36 (120 * j + i) + 1 = iI (mat D (dn D) i + 1) := by rw [iI_e hB, show (1 : Int32) = iI 1 from rfl, iI_add]
  apply s_X7_onward_0 hS
  case b1 => exact bx (by omega) (by omega)
  case k2 => intro g; simp only [lt32, le32, eq32, lt64, le64, eq64, Int32.reduceToInt, Int64.reduceToInt, ck, ho] at g; refine ⟨?_, rfl⟩; unfold onw; rw [if_pos (Or.inl g)]; rfl
  case k3 => intro g1 g2 g3; simp only [lt32, le32, eq32, lt64, le64, eq64, Int32.reduceToInt, Int64.reduceToInt, ck, ho] at g1 g2 g3; refine ⟨?_, rfl⟩; unfold onw; rw [if_neg (by omega), if_neg (by omega), e1]
  case k4 => intro g1 g2 g3 g4; simp only [lt32, le32, eq32, lt64, le64, eq64, Int32.reduceToInt, Int64.reduceToInt, ck, ho, ha] at g1 g2 g3 g4; refine ⟨?_, rfl⟩; unfold onw; rw [if_neg (by omega), if_neg (by omega), e1]
  case k5 => intro g1 g2 g3 g4; simp only [lt32, le32, eq32, lt64, le64, eq64, Int32.reduceToInt, Int64.reduceToInt, ck, ho, ha] at g1 g2 g3 g4; refine ⟨?_, rfl⟩; unfold onw; rw [if_neg (by omega), if_pos ⟨g3, g4⟩, ck, e2]
  case k6 => intro _ g; simp only [lt32, le32, eq32, lt64, le64, eq64, Int32.reduceToInt, Int64.reduceToInt, ck, ho] at g; refine ⟨?_, rfl⟩; unfold onw; rw [if_pos (Or.inr g)]; rfl
def HM (M : AM) (j : Nat) (D : DD) (hh : Nat → Int) : Prop := ∀ i, i < dn D → (mI M 34 (120 * j + i)).toInt = hh i
theorem v_isOther {M : AM} {hh : Nat → Int} {x y : Int32} {to b : Int} (hS : St M) (h : MM M j D) (hH : HM M j D hh) (hx : x.toInt = to) (h0 : 0 ≤ to) (hy : y.toInt = b) : Ev K_X7_isOther [aR (some 26), aI (nI j), aI x, aI y] M (some (aI (if oth D hh to b then 1 else 0))) M := by
  have hN := h.ln
  have hj := h.lj
  have cj := cl_n (n := j) (by omega)
  have bj : vp_in (nI j) 32 := in_n hj (by omega)
  have en := ci (dn D) (by omega)
  have e30 := h.1
  have ex : x = nI to.toNat := by rw [← hx]; exact x_n (by omega)
  by_cases g : to < dn D
  · have ck := cx (j := j) (i := to.toNat) (by omega) (by omega)
    have hh' := hH to.toNat (by omega)
    rw [ex]
    rw [ex] at hx
    by_cases o : oth D hh to b
    · rw [if_pos o]
      apply s_X7_isOther_0 hS
      case b1 => exact bj
      case b3 => intros; exact bx (by omega) (by omega)
      all_goals (intros; first | exact ⟨rfl, rfl⟩ | (exfalso; simp only [lt32, le32, eq32, lt64, le64, eq64, Int32.reduceToInt, Int64.reduceToInt, ck, cj, e30, en, hx, hy, hh'] at *; omega))
    · rw [if_neg o]
      apply s_X7_isOther_0 hS
      case b1 => exact bj
      case b3 => intros; exact bx (by omega) (by omega)
      all_goals (intros; first | exact ⟨rfl, rfl⟩ | (exfalso; simp only [lt32, le32, eq32, lt64, le64, eq64, Int32.reduceToInt, Int64.reduceToInt, ck, cj, e30, en, hx, hy, hh'] at *; omega))
  · rw [if_neg (by omega)]
    apply s_X7_isOther_0 hS
    case b1 => exact bj
    case k2 => intros; exact ⟨rfl, rfl⟩
    all_goals (intro g; exfalso; simp only [lt32, le32, eq32, lt64, le64, eq64, Int32.reduceToInt, Int64.reduceToInt, cj, e30, en, hx] at g; omega)
theorem v_tell {M : AM} {x y : Int32} {to : Int} (hS : St M) (h : MM M j D) (hx : x.toInt = to) (h0 : 0 ≤ to) (h1 : to < dn D) : Ev K_X7_tell [aR (some 26), aI (nI j), aI x, aI y] M none (wrI M 34 (120 * j + to.toNat) y) := by
  have hN := h.ln
  have hj := h.lj
  have cj := cl_n (n := j) (by omega)
  have bj : vp_in (nI j) 32 := in_n hj (by omega)
  have en := ci (dn D) (by omega)
  have e30 := h.1
  have ex : x = nI to.toNat := by rw [← hx]; exact x_n (by omega)
  have ck := cx (j := j) (i := to.toNat) (by omega) (by omega)
  rw [ex]
  rw [ex] at hx
  apply s_X7_tell_0 hS
  case b1 => exact bj
  case k2 => intro g; exfalso; simp only [lt32, le32, eq32, lt64, le64, eq64, Int32.reduceToInt, Int64.reduceToInt, cj, e30, en, hx] at g; omega
  case b3 => intros; exact bx (by omega) (by omega)
  case k4 => intros; rw [ck]; exact ⟨rfl, rfl⟩
theorem HM.up {M : AM} {hh : Nat → Int} {b : Int} {t : Nat} (h : HM M j D hh) (hb : -1 ≤ b ∧ b ≤ 100) : HM (wrI M 34 (120 * j + t) (iI b)) j D (up1 hh t b) := fun i hi => by
  simp only [up1]
  by_cases e : i = t
  · rw [e, wrI_s, if_pos rfl]; exact iI_t (by omega) (by omega)
  · rw [wrI_j (by omega), if_neg e]; exact h i hi
def S34 (j : Nat) : Nat → Nat → Prop := fun r i => (r = 34 ∧ 120 * j ≤ i ∧ i < 120 * j + 120) ∨ ((r = 38 ∨ r = 39) ∧ i = j)
theorem MM.s34 {M M' : AM} (h : MM M j D) (a : Ag (S34 j) M M') : MM M' j D := h.ag a (fun i => by unfold S34; omega)
theorem BRi.ag {S : Nat → Nat → Prop} {k : Nat} {M M' : AM} (h : BRi D j k M) (a : Ag S M M') (hs : ∀ i, ¬ S 35 i ∧ ¬ S 36 i ∧ ¬ S 37 i) : BRi D j k M' := fun i hi => by
  rw [a.i (hs _).1, a.i (hs _).2.1, a.i (hs _).2.2]; exact h i hi
theorem BRi.s34 {k : Nat} {M M' : AM} (h : BRi D j k M) (a : Ag (S34 j) M M') : BRi D j k M' := h.ag a (fun i => by unfold S34; omega)
/-- the state at 163, 236, 376 -/
abbrev LH (j k : Nat) (h b o y t w : Option AV) : LVs := [some (aR (some 26)), some (aI (nI j)), some (aI (nI k)), some (aI ((120 : Int32) * nI j + nI k)), h, b, o, y, t, w]
abbrev Qo (D : DD) (k : Nat) (hh : Nat → Int) : Prop := oth D hh (onw D k) (bhd D k hh) ∨ ((dO D k = 12 ∨ dO D k = 13) ∧ oth D hh (dA D k) (bhd D k hh)) ∨ (dO D k = 15 ∧ hh (mat D (dn D) k).toNat ≠ hh k)
theorem mh163 {M M' : AM} {k : Nat} {hh : Nat → Int} {x4 x5 x6 y t : Int32} (hS : St M) (h : MM M j D) (hB : BRi D j (dn D) M) (hH : HM M j D hh) (hk' : k < dn D) (hf : ff D k = 0) (e4 : x4.toInt = hh k) (e5 : x5.toInt = bhd D k hh) (e6 : x6.toInt = onw D k) (hy : y = 0 ↔ ¬ (dO D k = 12 ∨ dO D k = 13)) (ht : dO D k = 12 ∨ dO D k = 13 → t.toInt = dA D k)
    (kk : ∀ w : Int32, (w = 0 ↔ ¬ Qo D k hh) → E K_X7_heights 236 (LH j k (some (aI x4)) (some (aI x5)) (some (aI x6)) (some (aI y)) (some (aI t)) none) [aI w] M none M') :
    E K_X7_heights 163 (LH j k (some (aI x4)) (some (aI x5)) (some (aI x6)) (some (aI y)) none none) [aI t] M none M' := by
  have hN := h.ln
  have hj := h.lj
  have ho := (h.2.1 k hk').1
  have ck := cx (j := j) (i := k) (by omega) (by omega)
  have b3 := bx (j := j) (i := k) (by omega) (by omega)
  have h36 := (hB k hk').2.2
  have mg := mat_ge (D := D) (dn D) k
  have end_ : dO D k = 15 → (120 : Int32) * nI j + mI M 36 ((120 : Int32) * nI j + nI k).toNatClampNeg = nI (120 * j + (mat D (dn D) k).toNat) ∧ (mat D (dn D) k).toNat < dn D ∧ (mI M 34 (120 * j + (mat D (dn D) k).toNat)).toInt = hh (mat D (dn D) k).toNat := fun z => by
    have := ffe hf z
    have hlt : (mat D (dn D) k).toNat < dn D := by omega
    refine ⟨?_, hlt, hH _ hlt⟩
    rw [ck, x_n (x := mI M 36 (120 * j + k)) (by omega), ix, h36]
  have y1 : ¬ y = 0 → dO D k = 12 ∨ dO D k = 13 := fun g => by
    by_cases z : dO D k = 12 ∨ dO D k = 13
    · exact z
    · exact absurd (hy.mpr z) g
  have one : ∀ (P : Prop), Qo D k hh → E K_X7_heights 236 (LH j k (some (aI x4)) (some (aI x5)) (some (aI x6)) (some (aI y)) (some (aI t)) none) [aI 1] M none M' := fun _ q => kk 1 ⟨fun z => absurd z (by decide), fun z => absurd q z⟩
  have zero : ¬ Qo D k hh → E K_X7_heights 236 (LH j k (some (aI x4)) (some (aI x5)) (some (aI x6)) (some (aI y)) (some (aI t)) none) [aI 0] M none M' := fun q => kk 0 ⟨fun _ => q, fun _ => rfl⟩
  have hj' : dO D k = 12 ∨ dO D k = 13 → 0 ≤ dA D k := fun z => by have := ffj hf z; omega
  -- the last disjunct
  have q3 : ∀ g : ¬ (mI M 31 ((120 : Int32) * nI j + nI k).toNatClampNeg) = 15, dO D k ≠ 15 := fun g => by rw [ck, eq32, ho] at g; exact g
  have q4 : ∀ g : (mI M 31 ((120 : Int32) * nI j + nI k).toNatClampNeg) = 15, dO D k = 15 := fun g => by rw [ck, eq32, ho] at g; exact g
  have b5 : ∀ g : (mI M 31 ((120 : Int32) * nI j + nI k).toNatClampNeg) = 15, vp_in ((120 : Int32) * nI j + mI M 36 ((120 : Int32) * nI j + nI k).toNatClampNeg) 3840 := fun g => by
    have := end_ (q4 g)
    rw [this.1]
    exact in_n (by omega) (by omega)
  have q5 : ∀ g : (mI M 31 ((120 : Int32) * nI j + nI k).toNatClampNeg) = 15, ((mI M 34 ((120 : Int32) * nI j + mI M 36 ((120 : Int32) * nI j + nI k).toNatClampNeg).toNatClampNeg) = x4 ↔ hh (mat D (dn D) k).toNat = hh k) := fun g => by
    have := end_ (q4 g)
    rw [this.1, cl_n (by omega), eq32, this.2.2, e4]
  by_cases c6 : onw D k < 0
  · have g1 : x6 < 0 := by rw [lt32, e6]; exact c6
    have n1 : ¬ oth D hh (onw D k) (bhd D k hh) := by omega
    by_cases c7 : dO D k = 12 ∨ dO D k = 13
    · have io := v_isOther hS h hH (ht c7) (hj' c7) e5
      by_cases c8 : oth D hh (dA D k) (bhd D k hh)
      · rw [if_pos c8] at io
        apply s_X7_heights_163 (M1 := M) (M2 := M) (M3 := M) (x105 := 1) (x109 := 0) (x114 := 0) hS
        case c6 => intros; exact io
        case k7 => intros; exact one True (Or.inr (Or.inl ⟨c7, c8⟩))
        case b1 => intros; exact b3
        case k2 => intro _ g; exact absurd c7 (hy.mp g)
        case b3 => intro _ g; exact absurd c7 (hy.mp g)
        case k4 => intro _ g; exact absurd c7 (hy.mp g)
        case k5 => intro _ g; exact absurd c7 (hy.mp g)
        case b8 => intros; exact b3
        case k9 => intro _ _ g; exact absurd g (by decide)
        case b10 => intro _ _ g; exact absurd g (by decide)
        case k11 => intro _ _ g; exact absurd g (by decide)
        case k12 => intro _ _ g; exact absurd g (by decide)
        all_goals (intro g; exact absurd g1 g)
      · rw [if_neg c8] at io
        have n15 : dO D k ≠ 15 := by omega
        apply s_X7_heights_163 (M1 := M) (M2 := M) (M3 := M) (x105 := 0) (x109 := 0) (x114 := 0) hS
        case c6 => intros; exact io
        case k7 => intro _ _ g; exact absurd rfl g
        case b1 => intros; exact b3
        case k2 => intro _ g; exact absurd c7 (hy.mp g)
        case b3 => intro _ g; exact absurd c7 (hy.mp g)
        case k4 => intro _ g; exact absurd c7 (hy.mp g)
        case k5 => intro _ g; exact absurd c7 (hy.mp g)
        case b8 => intros; exact b3
        case k9 => intros; exact zero (fun z => z.elim n1 (fun z => z.elim (fun z => c8 z.2) (fun z => n15 z.1)))
        case b10 => intro _ _ _ g; exact b5 g
        case k11 => intro _ _ _ g; exact absurd (q4 g) n15
        case k12 => intro _ _ _ g; exact absurd (q4 g) n15
        all_goals (intro g; exact absurd g1 g)
    · have y0 := hy.mpr c7
      apply s_X7_heights_163 (M1 := M) (M2 := M) (M3 := M) (x105 := 0) (x109 := 0) (x114 := 0) hS
      case b1 => intros; exact b3
      case k2 => intro _ _ g; exact zero (fun z => z.elim n1 (fun z => z.elim (fun z => c7 z.1) (fun z => q3 g z.1)))
      case b3 => intro _ _ g; exact b5 g
      case k4 => intro _ _ g g2; exact zero (fun z => z.elim n1 (fun z => z.elim (fun z => c7 z.1) (fun z => z.2 ((q5 g).mp g2))))
      case k5 => intro _ _ g g2; exact one True (Or.inr (Or.inr ⟨q4 g, fun z => g2 ((q5 g).mpr z)⟩))
      case c6 => intro _ g; exact absurd y0 g
      case k7 => intro _ g; exact absurd y0 g
      case b8 => intros; exact b3
      case k9 => intro _ g; exact absurd y0 g
      case b10 => intro _ g; exact absurd y0 g
      case k11 => intro _ g; exact absurd y0 g
      case k12 => intro _ g; exact absurd y0 g
      all_goals (intro g; exact absurd g1 g)
  · have g1 : ¬ x6 < 0 := by rw [lt32, e6]; exact c6
    have io := v_isOther hS h hH e6 (by omega) e5
    by_cases c8 : oth D hh (onw D k) (bhd D k hh)
    · rw [if_pos c8] at io
      apply s_X7_heights_163 (M1 := M) (M2 := M) (M3 := M) (x105 := 0) (x109 := 1) (x114 := 0) hS
      case c13 => intros; exact io
      case k14 => intros; exact one True (Or.inl c8)
      case b15 => intros; exact b3
      case b22 => intros; exact b3
      case k16 => intro _ g; exact absurd g (by decide)
      case b17 => intro _ g; exact absurd g (by decide)
      case k18 => intro _ g; exact absurd g (by decide)
      case k19 => intro _ g; exact absurd g (by decide)
      case c20 => intro _ g; exact absurd g (by decide)
      case k21 => intro _ g; exact absurd g (by decide)
      case k23 => intro _ g; exact absurd g (by decide)
      case b24 => intro _ g; exact absurd g (by decide)
      case k25 => intro _ g; exact absurd g (by decide)
      case k26 => intro _ g; exact absurd g (by decide)
      all_goals (intro g; exact absurd g g1)
    · rw [if_neg c8] at io
      by_cases c7 : dO D k = 12 ∨ dO D k = 13
      · have io2 := v_isOther hS h hH (ht c7) (hj' c7) e5
        have n15 : dO D k ≠ 15 := by omega
        by_cases c9 : oth D hh (dA D k) (bhd D k hh)
        · rw [if_pos c9] at io2
          apply s_X7_heights_163 (M1 := M) (M2 := M) (M3 := M) (x105 := 0) (x109 := 0) (x114 := 1) hS
          case c13 => intros; exact io
          case k14 => intro _ g; exact absurd rfl g
          case b15 => intros; exact b3
          case b22 => intros; exact b3
          case k16 => intro _ _ g; exact absurd c7 (hy.mp g)
          case b17 => intro _ _ g; exact absurd c7 (hy.mp g)
          case k18 => intro _ _ g; exact absurd c7 (hy.mp g)
          case k19 => intro _ _ g; exact absurd c7 (hy.mp g)
          case c20 => intros; exact io2
          case k21 => intros; exact one True (Or.inr (Or.inl ⟨c7, c9⟩))
          case k23 => intro _ _ _ g; exact absurd g (by decide)
          case b24 => intro _ _ _ g; exact absurd g (by decide)
          case k25 => intro _ _ _ g; exact absurd g (by decide)
          case k26 => intro _ _ _ g; exact absurd g (by decide)
          all_goals (intro g; exact absurd g g1)
        · rw [if_neg c9] at io2
          apply s_X7_heights_163 (M1 := M) (M2 := M) (M3 := M) (x105 := 0) (x109 := 0) (x114 := 0) hS
          case c13 => intros; exact io
          case k14 => intro _ g; exact absurd rfl g
          case b15 => intros; exact b3
          case b22 => intros; exact b3
          case k16 => intro _ _ g; exact absurd c7 (hy.mp g)
          case b17 => intro _ _ g; exact absurd c7 (hy.mp g)
          case k18 => intro _ _ g; exact absurd c7 (hy.mp g)
          case k19 => intro _ _ g; exact absurd c7 (hy.mp g)
          case c20 => intros; exact io2
          case k21 => intro _ _ _ g; exact absurd rfl g
          case k23 => intros; exact zero (fun z => z.elim c8 (fun z => z.elim (fun z => c9 z.2) (fun z => n15 z.1)))
          case b24 => intro _ _ _ _ g; exact b5 g
          case k25 => intro _ _ _ _ g; exact absurd (q4 g) n15
          case k26 => intro _ _ _ _ g; exact absurd (q4 g) n15
          all_goals (intro g; exact absurd g g1)
      · have y0 := hy.mpr c7
        apply s_X7_heights_163 (M1 := M) (M2 := M) (M3 := M) (x105 := 0) (x109 := 0) (x114 := 0) hS
        case c13 => intros; exact io
        case k14 => intro _ g; exact absurd rfl g
        case b15 => intros; exact b3
        case b22 => intros; exact b3
        case k16 => intro _ _ _ g; exact zero (fun z => z.elim c8 (fun z => z.elim (fun z => c7 z.1) (fun z => q3 g z.1)))
        case b17 => intro _ _ _ g; exact b5 g
        case k18 => intro _ _ _ g g2; exact zero (fun z => z.elim c8 (fun z => z.elim (fun z => c7 z.1) (fun z => z.2 ((q5 g).mp g2))))
        case k19 => intro _ _ _ g g2; exact one True (Or.inr (Or.inr ⟨q4 g, fun z => g2 ((q5 g).mpr z)⟩))
        case c20 => intro _ _ g; exact absurd y0 g
        case k21 => intro _ _ g; exact absurd y0 g
        case k23 => intro _ _ g; exact absurd y0 g
        case b24 => intro _ _ g; exact absurd y0 g
        case k25 => intro _ _ g; exact absurd y0 g
        case k26 => intro _ _ g; exact absurd y0 g
        all_goals (intro g; exact absurd g g1)
end MH
