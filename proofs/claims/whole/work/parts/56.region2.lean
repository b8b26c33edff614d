/-! ===== PURE: the reference's region, step by step ===== -/
section REG2
variable {D : DD} {j : Nat}
theorem r151 {M M' : AM} {L : Int} {bk wh w : Int64} {i : Nat} {v : Option AV} (hS : St M) (h : MM M j D) (hB : BRi D j (dn D) M) (hi : i < dn D) (hff : ff D i = 0)
    (k17 : dO D i = 17 → E K_X7_region 50 (LR j L (fgr bk w) wh (i + 1) none none none none none none) [] M v M')
    (k15 : dO D i = 15 → E K_X7_region 50 (LR j L bk (fgr wh w) (i + 1) none none none none none none) [] M v M')
    (k14 : dO D i = 14 → 0 < dA D i → E K_X7_region 50 (LR j L (rgb D i M bk w) wh (i + 1) none none none none none none) [] (rgm D i M w) v M')
    (ko : dO D i ≠ 17 → dO D i ≠ 15 → ¬ (dO D i = 14 ∧ 0 < dA D i) → E K_X7_region 50 (LR j L bk wh (i + 1) none none none none none none) [] (rgo D i M w) v M') :
    E K_X7_region 151 (LR j L bk wh i (some (aI ((120 : Int32) * nI j + nI i))) (some (aJ w)) none none none none) [] M v M' := by
  have hN := h.ln
  have hj := h.lj
  have ck := cx (j := j) (i := i) (by omega) (by omega)
  have c1 := cl_n (n := i) (by omega)
  have b3 := bx (j := j) (i := i) (by omega) (by omega)
  have ho := (h.2.1 i hi).1
  have ha := (h.2.1 i hi).2
  have co := v_onward hS h (hB i hi).2.2 hi
  have mg := mat_ge (D := D) (dn D) i
  have onr : -1 ≤ onw D i ∧ onw D i ≤ 120 := by unfold onw; repeat' split <;> omega
  have to := iI_t (k := onw D i) (by omega) (by omega)
  by_cases o17 : dO D i = 17
  · apply s_X7_region_151 (M1 := M) (M2 := M) (M3 := M) (M4 := M) (M5 := M) (M6 := M) (M7 := M) (M8 := M) (M9 := M) (M10 := M) (M11 := M) (M12 := M) (M13 := M) (M14 := M) (x104 := 0) (x111 := 0) (x118 := 0) (x119 := fgr bk w) hS
    case b1 => exact b3
    case c31 => intros; exact v_greater7 hS _ _
    case k32 => intros; exact r411 hS (k17 o17)
    all_goals (clear k17 k15 k14 ko co; intro g; exfalso; simp only [lt32, le32, eq32, lt64, le64, eq64, Int32.reduceToInt, Int64.reduceToInt, ck, ho] at g; omega)
  have g17 : ¬ mI M 31 ((120 : Int32) * nI j + nI i).toNatClampNeg = 17 := by rw [ck, eq32, ho]; exact o17
  by_cases o15 : dO D i = 15
  · apply s_X7_region_151 (M1 := M) (M2 := M) (M3 := M) (M4 := M) (M5 := M) (M6 := M) (M7 := M) (M8 := M) (M9 := M) (M10 := M) (M11 := M) (M12 := M) (M13 := M) (M14 := M) (x104 := 0) (x111 := 0) (x118 := fgr wh w) (x119 := 0) hS
    case b1 => exact b3
    case c29 => intros; exact v_greater7 hS _ _
    case k30 => intros; exact r411 hS (k15 o15)
    case c31 => intro g; exact absurd g g17
    case k32 => intro g; exact absurd g g17
    all_goals (clear k17 k15 k14 ko co; intro _ g; exfalso; simp only [lt32, le32, eq32, lt64, le64, eq64, Int32.reduceToInt, Int64.reduceToInt, ck, ho] at g; omega)
  have g15 : ¬ mI M 31 ((120 : Int32) * nI j + nI i).toNatClampNeg = 15 := by rw [ck, eq32, ho]; exact o15
  by_cases o14 : dO D i = 14
  · have g14 : mI M 31 ((120 : Int32) * nI j + nI i).toNatClampNeg = 14 := by rw [ck, eq32, ho]; exact o14
    by_cases a0 : 0 < dA D i
    · have k14' := k14 o14 a0
      apply s_X7_region_151 (M1 := M) (M2 := M) (M3 := M) (M4 := M) (M5 := M) (M6 := M) (M7 := M) (M8 := M) (M9 := M) (M10 := M) (M11 := M) (M12 := M) (M13 := M) (M14 := M) (x104 := 0) (x111 := 0) (x118 := 0) (x119 := 0) hS
      case b1 => exact b3
      case b26 => intros; exact in_n (by omega) (by omega)
      case k27 => intro _ _ _ _ g; rw [c1] at g; exact r240 hS h hB hi hff o14 ⟨fun _ => g, fun _ => rfl⟩ k14'
      case k28 => intro _ _ _ _ g; rw [c1] at g; exact r240 hS h hB hi hff o14 ⟨fun z => absurd z (by decide), fun z => absurd z g⟩ k14'
      case c31 => intro g; exact absurd g g17
      case k32 => intro g; exact absurd g g17
      case c29 => intro _ g; exact absurd g g15
      case k30 => intro _ g; exact absurd g g15
      all_goals (clear k17 k15 k14 k14' ko co; intros; exfalso; simp only [lt32, le32, eq32, lt64, le64, eq64, Int32.reduceToInt, Int64.reduceToInt, ck, ho, ha] at *; omega)
    · have ko' := ko o17 o15 (by omega)
      have fl := ffl hff o14
      have bg := beh_gt hff o14
      have eo : onw D i = mat D (dn D) i + 1 := by unfold onw; rw [if_neg (by omega), if_pos ⟨o14, by omega⟩]
      have e : rgo D i M w = rch M (onw D i).toNat w := by unfold rgo; rw [if_neg (by omega), if_pos (by omega)]
      rw [e] at ko'
      have en : iI (onw D i) = nI (onw D i).toNat := by rw [nI_i (by omega)]; congr 1; omega
      apply s_X7_region_151 (M1 := M) (M2 := M) (M3 := M) (M4 := M) (M5 := M) (M6 := M) (M7 := M) (M8 := M) (M9 := M) (M10 := rch M (onw D i).toNat w) (M11 := M) (M12 := M) (M13 := M) (M14 := M) (x104 := 0) (x111 := iI (onw D i)) (x118 := 0) (x119 := 0) hS
      case b1 => exact b3
      case c14 => intros; exact co
      case c20 => intros; rw [en]; exact v_reach7 hS (by omega) _
      case k23 => intros; exact r411 (rch_ag.st hS) ko'
      case c31 => intro g; exact absurd g g17
      case k32 => intro g; exact absurd g g17
      case c29 => intro _ g; exact absurd g g15
      case k30 => intro _ g; exact absurd g g15
      case c2 => intro _ _ g; exact absurd g14 g
      case c3 => intro _ _ g; exact absurd g14 g
      case k4 => intro _ _ g; exact absurd g14 g
      case k5 => intro _ _ g; exact absurd g14 g
      case c6 => intro _ _ g; exact absurd g14 g
      case k7 => intro _ _ g; exact absurd g14 g
      case c8 => intro _ _ g; exact absurd g14 g
      case c9 => intro _ _ g; exact absurd g14 g
      case k10 => intro _ _ g; exact absurd g14 g
      case k11 => intro _ _ g; exact absurd g14 g
      case c12 => intro _ _ g; exact absurd g14 g
      case k13 => intro _ _ g; exact absurd g14 g
      all_goals (clear k17 k15 k14 ko ko' co; have r1 : mI (rch M (onw D i).toNat w) = mI M := rfl; intros; exfalso; simp only [r1] at *; simp only [lt32, le32, eq32, lt64, le64, eq64, Int32.reduceToInt, Int64.reduceToInt, ck, ho, ha, to] at *; omega)
  have g14 : ¬ mI M 31 ((120 : Int32) * nI j + nI i).toNatClampNeg = 14 := by rw [ck, eq32, ho]; exact o14
  have ko' := ko o17 o15 (by omega)
  by_cases o12 : dO D i = 12
  · have fj := ffj hff (Or.inl o12)
    have eo : onw D i = -1 := by unfold onw; rw [if_pos (Or.inl o12)]
    have e : rgo D i M w = rch M (dA D i).toNat w := by unfold rgo; rw [if_pos (Or.inl o12), if_neg (by omega)]
    rw [e] at ko'
    apply s_X7_region_151 (M1 := M) (M2 := rch M (dA D i).toNat w) (M3 := M) (M4 := M) (M5 := M) (M6 := M) (M7 := M) (M8 := M) (M9 := M) (M10 := M) (M11 := M) (M12 := M) (M13 := M) (M14 := M) (x104 := iI (onw D i)) (x111 := 0) (x118 := 0) (x119 := 0) hS
    case b1 => exact b3
    case c2 => intros; exact co
    case c3 => intros; rw [ck, x_l (by omega) (by omega), ha]; exact v_reach7 hS (by omega) _
    case k4 => intros; exact r411 (rch_ag.st hS) ko'
    case c31 => intro g; exact absurd g g17
    case k32 => intro g; exact absurd g g17
    case c29 => intro _ g; exact absurd g g15
    case k30 => intro _ g; exact absurd g g15
    all_goals (clear k17 k15 k14 ko ko' co; intros; exfalso; simp only [lt32, le32, eq32, lt64, le64, eq64, Int32.reduceToInt, Int64.reduceToInt, ck, ho, ha, to] at *; omega)
  by_cases o13 : dO D i = 13
  · have fj := ffj hff (Or.inr o13)
    have eo : onw D i = i + 1 := by unfold onw; rw [if_neg (by omega), if_neg (by omega)]
    have e : rgo D i M w = rch (rch M (onw D i).toNat w) (dA D i).toNat w := by unfold rgo; rw [if_pos (Or.inr o13), if_pos (by omega)]
    rw [e] at ko'
    have en : iI (onw D i) = nI (onw D i).toNat := by rw [nI_i (by omega)]; congr 1; omega
    have r1 : mI (rch M (onw D i).toNat w) = mI M := rfl
    have r2 : mJ (rch M (onw D i).toNat w) 32 (120 * j + i) = mJ M 32 (120 * j + i) := by unfold rch; simp (disch := omega) only [wrI_s, wrI_r, wrI_j, wrJ_s, wrJ_r, wrJ_j, wrI_J, wrJ_I, wrR_I, wrR_J]
    apply s_X7_region_151 (M1 := M) (M2 := M) (M3 := M) (M4 := rch M (onw D i).toNat w) (M5 := M) (M6 := rch (rch M (onw D i).toNat w) (dA D i).toNat w) (M7 := M) (M8 := M) (M9 := M) (M10 := M) (M11 := M) (M12 := M) (M13 := M) (M14 := M) (x104 := iI (onw D i)) (x111 := 0) (x118 := 0) (x119 := 0) hS
    case b1 => exact b3
    case c2 => intros; exact co
    case c8 => intros; rw [en]; exact v_reach7 hS (by omega) _
    case c12 => intros; rw [ck, r2, x_l (by omega) (by omega), ha]; exact v_reach7 (rch_ag.st hS) (by omega) _
    case k13 => intros; exact r411 ((rch_ag.tr rch_ag).st hS) ko'
    case c31 => intro g; exact absurd g g17
    case k32 => intro g; exact absurd g g17
    case c29 => intro _ g; exact absurd g g15
    case k30 => intro _ g; exact absurd g g15
    all_goals (clear k17 k15 k14 ko ko' co; intros; exfalso; simp only [r1] at *; simp only [lt32, le32, eq32, lt64, le64, eq64, Int32.reduceToInt, Int64.reduceToInt, ck, ho, ha, to] at *; omega)
  · have eo : onw D i = i + 1 := by unfold onw; rw [if_neg (by omega), if_neg (by omega)]
    have e : rgo D i M w = rch M (onw D i).toNat w := by unfold rgo; rw [if_neg (by omega), if_pos (by omega)]
    rw [e] at ko'
    have en : iI (onw D i) = nI (onw D i).toNat := by rw [nI_i (by omega)]; congr 1; omega
    have r1 : mI (rch M (onw D i).toNat w) = mI M := rfl
    apply s_X7_region_151 (M1 := M) (M2 := M) (M3 := M) (M4 := rch M (onw D i).toNat w) (M5 := M) (M6 := M) (M7 := M) (M8 := M) (M9 := M) (M10 := M) (M11 := M) (M12 := M) (M13 := M) (M14 := M) (x104 := iI (onw D i)) (x111 := 0) (x118 := 0) (x119 := 0) hS
    case b1 => exact b3
    case c2 => intros; exact co
    case c8 => intros; rw [en]; exact v_reach7 hS (by omega) _
    case k11 => intros; exact r411 (rch_ag.st hS) ko'
    case c31 => intro g; exact absurd g g17
    case k32 => intro g; exact absurd g g17
    case c29 => intro _ g; exact absurd g g15
    case k30 => intro _ g; exact absurd g g15
    all_goals (clear k17 k15 k14 ko ko' co; intros; exfalso; simp only [r1] at *; simp only [lt32, le32, eq32, lt64, le64, eq64, Int32.reduceToInt, Int64.reduceToInt, ck, ho, ha, to] at *; omega)
theorem rst_ag {L : Int} {i : Nat} {M : AM} {bk wh : Int64} : Ag S46 M (rst D j L i M bk wh).1 := by
  unfold rst rgm rgo
  repeat' split
  all_goals first | exact Ag.rf | exact rch_ag | exact rch_ag.tr rch_ag
theorem r50 {M M' : AM} {L : Int} {bk wh : Int64} {i : Nat} {v : Option AV} (hS : St M) (h : MM M j D) (hB : BRi D j (dn D) M) (hi : i < dn D) (hff : ff D i = 0) (hL : -1 ≤ L ∧ L < 120)
    (kk : E K_X7_region 50 (LR j L (rst D j L i M bk wh).2.1 (rst D j L i M bk wh).2.2 (i + 1) none none none none none none) [] (rst D j L i M bk wh).1 v M') :
    E K_X7_region 50 (LR j L bk wh i none none none none none none) [] M v M' := by
  have hN := h.ln
  have hj := h.lj
  have cj := cl_n (n := j) (by omega)
  have bj : vp_in (nI j) 32 := in_n hj (by omega)
  have ck := cx (j := j) (i := i) (by omega) (by omega)
  have c1 := cl_n (n := i) (by omega)
  have b3 := bx (j := j) (i := i) (by omega) (by omega)
  have ho := (h.2.1 i hi).1
  have ha := (h.2.1 i hi).2
  have h35 := (hB i hi).1
  have fo := ffo hff
  have hg : ¬ mI M 30 (nI j).toNatClampNeg ≤ nI i := by rw [cj, h.1, le32, ci _ (by omega), ci _ (by omega)]; omega
  have tL := iI_t (k := L) (by omega) (by omega)
  have eop : mI M 31 (120 * j + i) = nI (dO D i).toNat := by rw [eq32, ho, ci _ (by omega)]; omega
  have hdc := h.2.2.2.2.2.2.1.2.2.2.1
  by_cases cc : ins D i = L ∧ mJ M 46 i ≠ -1
  · have er : rst D j L i M bk wh = (if dO D i = 17 then (M, fgr bk (rgv D j i M), wh) else if dO D i = 15 then (M, bk, fgr wh (rgv D j i M)) else if dO D i = 14 ∧ 0 < dA D i then (rgm D i M (rgv D j i M), rgb D i M bk (rgv D j i M), wh) else (rgo D i M (rgv D j i M), bk, wh)) := by unfold rst; rw [if_pos cc]
    rw [er] at kk
    have fin : E K_X7_region 151 (LR j L bk wh i (some (aI ((120 : Int32) * nI j + nI i))) (some (aJ (rgv D j i M))) none none none none) [] M v M' := by
      refine r151 hS h hB hi hff (fun o => ?_) (fun o => ?_) (fun o a => ?_) (fun o1 o2 o3 => ?_)
      · rw [if_pos o] at kk; exact kk
      · rw [if_neg (by omega), if_pos o] at kk; exact kk
      · rw [if_neg (by omega), if_neg (by omega), if_pos ⟨o, a⟩] at kk; exact kk
      · rw [if_neg o1, if_neg o2, if_neg o3] at kk; exact kk
    apply s_X7_region_50 (M1 := M) (M2 := M) (x105 := fpl (mJ M 46 i) (mJ M 33 (dO D i).toNat)) (x107 := fpl (fpl (mJ M 46 i) (mJ M 33 (dO D i).toNat)) (mJ M 45 (dA D i).toNat)) hS
    case b1 => exact bj
    case k2 => intro g; exact absurd g hg
    case b3 => intro g; exact absurd g hg
    case k4 => intro g; exact absurd g hg
    case b5 => intros; exact b3
    case k6 => intro _ g; rw [ck, eq32, h35, tL] at g; exact absurd cc.1 g
    case b7 => intros; exact in_n (by omega) (by omega)
    case k8 => intro _ _ g; rw [c1] at g; exact absurd g cc.2
    case b9 => intros; rw [ck, eop]; exact in_n (by omega) (by omega)
    case c10 => intros; rw [c1, ck, eop, cl_n (by omega)]; exact v_plus7 hS _ _
    case k11 =>
      intro _ _ _ g
      rw [ck, eq32, ho] at g
      have g : ¬ dO D i = 16 := g
      have e : rgv D j i M = fpl (mJ M 46 i) (mJ M 33 (dO D i).toNat) := by unfold rgv; rw [if_neg g]
      rw [e] at fin
      exact fin
    case b12 =>
      intro _ _ _ g
      rw [ck, eq32, ho] at g
      have fc := ffc hff g
      rw [ck, x_l (by omega) (by omega), ha]
      exact in_n (by omega) (by omega)
    case c13 =>
      intro _ _ _ g
      rw [ck, eq32, ho] at g
      have fc := ffc hff g
      rw [ck, x_l (by omega) (by omega), ha, cl_n (by omega)]
      exact v_plus7 hS _ _
    case k14 =>
      intro _ _ _ g
      rw [ck, eq32, ho] at g
      have g : dO D i = 16 := g
      have e : rgv D j i M = fpl (fpl (mJ M 46 i) (mJ M 33 (dO D i).toNat)) (mJ M 45 (dA D i).toNat) := by unfold rgv; rw [if_pos g]
      rw [e] at fin
      exact fin
  · have er : rst D j L i M bk wh = (M, bk, wh) := by unfold rst; rw [if_neg cc]
    rw [er] at kk
    apply s_X7_region_50 (M1 := M) (M2 := M) (x105 := 0) (x107 := 0) hS
    case b1 => exact bj
    case k2 => intro g; exact absurd g hg
    case b3 => intro g; exact absurd g hg
    case k4 => intro g; exact absurd g hg
    case b5 => intros; exact b3
    case k6 => intros; exact r411 hS kk
    case b7 => intros; exact in_n (by omega) (by omega)
    case k8 => intros; exact r411 hS kk
    all_goals (intro _ g g2; rw [ck, eq32, h35, tL] at g; rw [c1] at g2; exact absurd ⟨g, g2⟩ cc)
end REG2
