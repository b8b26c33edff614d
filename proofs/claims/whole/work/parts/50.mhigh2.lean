/-! ===== PURE: the reference's heights, its look at all METHODS ===== -/
section MH2
variable {D : DD} {j : Nat}
theorem mh376 {M M' : AM} {k : Nat} {x4 x5 x6 y t w : Int32} (hS : St M) (kk : E K_X7_heights 60 [some (aR (some 26)), some (aI (nI j)), some (aI (nI (k + 1))), none, none, none, none, none, none, none] [] M none M') : E K_X7_heights 376 (LH j k (some (aI x4)) (some (aI x5)) (some (aI x6)) (some (aI y)) (some (aI t)) (some (aI w))) [] M none M' := by
  have := s_X7_heights_376 (x1 := nI j) (x2 := nI k) (x3 := (120 : Int32) * nI j + nI k) (x4 := x4) (v := none) (M' := M') hS (by rw [nI_1]; exact kk.fg ⟨Or.inr rfl, Or.inr rfl, Or.inr rfl, Or.inl rfl, Or.inl rfl, Or.inr rfl, Or.inr rfl, Or.inr rfl, Or.inr rfl, Or.inr rfl, trivial⟩)
  exact this.fg ⟨Or.inr rfl, Or.inr rfl, Or.inr rfl, Or.inr rfl, Or.inr rfl, Or.inl rfl, Or.inl rfl, Or.inl rfl, Or.inl rfl, Or.inl rfl, trivial⟩
theorem mh60 {M : AM} {k q : Nat} (hS : St M) (hj : j < 32) (hq : mI M 38 j ≠ 0) : E K_X7_heights 60 [some (aR (some 26)), some (aI (nI j)), some (aI (nI k)), none, none, none, none, none, none, none] [] M none M := by
  have cj := cl_n (n := j) (by omega)
  apply s_X7_heights_60 (M1 := M) (M2 := M) (x104 := 0) (x105 := 0) hS
  case b1 => exact in_n hj (by omega)
  case k2 => intros; exact ⟨rfl, rfl⟩
  case k3 => intros; exact ⟨rfl, rfl⟩
  all_goals (intro _ g; rw [cj] at g; exact absurd g hq)
theorem mh236 {M : AM} {k : Nat} {hh : Nat → Int} {x4 x5 x6 : Int32} (hS : St M) (h : MM M j D) (hH : HM M j D hh) (hR : hhR D hh) (hk' : k < dn D) (h0 : 0 ≤ hh k) (hf : ff D k = 0) (h38 : mI M 38 j = 0) (e4 : x4.toInt = hh k) (e5 : x5.toInt = bhd D k hh) (e6 : x6.toInt = onw D k) :
    ∃ M1, Ag (S34 j) M M1 ∧ (hk D k hh = 0 → HM M1 j D (hn D k hh) ∧ mI M1 38 j = 0 ∧ mI M1 39 j = mI M 39 j) ∧ (hk D k hh ≠ 0 → mI M1 38 j = iI (hk D k hh) ∧ mI M1 39 j = iI k) ∧
    ∀ (M' : AM) (y t w : Int32), (y = 0 ↔ ¬ (dO D k = 12 ∨ dO D k = 13)) → (dO D k = 12 ∨ dO D k = 13 → t.toInt = dA D k) → (w = 0 ↔ ¬ Qo D k hh) → E K_X7_heights 60 [some (aR (some 26)), some (aI (nI j)), some (aI (nI (k + 1))), none, none, none, none, none, none, none] [] M1 none M' → E K_X7_heights 236 (LH j k (some (aI x4)) (some (aI x5)) (some (aI x6)) (some (aI y)) (some (aI t)) none) [aI w] M none M' := by
  have hN := h.ln
  have hj := h.lj
  have cj := cl_n (n := j) (by omega)
  have bj : vp_in (nI j) 32 := in_n hj (by omega)
  have ho := (h.2.1 k hk').1
  have ck := cx (j := j) (i := k) (by omega) (by omega)
  have b3 := bx (j := j) (i := k) (by omega) (by omega)
  have hd := h.2.2.2.2.2.2.1
  have rt := tk_r hd hf
  have rg := gv_r hd hf
  have hri := hR k hk'
  have et := v_takes hS h hk' hf
  have ett := iI_t (k := tk D k) (by omega) (by omega)
  have e28 := h.2.2.1
  have e30 := h.1
  have eR := ci (dR D) (by have := hd.2.2.1; omega)
  have en := ci (dn D) (by omega)
  have fA : ∀ q : Int, Ag (S34 j) M (wrI (wrI M 38 j (iI q)) 39 j (nI k)) := fun q => (Ag.rf.wI (Or.inr ⟨Or.inl rfl, rfl⟩)).wI (Or.inr ⟨Or.inr rfl, rfl⟩)
  have fF : ∀ q : Int, hk D k hh = q → q ≠ 0 → (hk D k hh = 0 → HM (wrI (wrI M 38 j (iI q)) 39 j (nI k)) j D (hn D k hh) ∧ mI (wrI (wrI M 38 j (iI q)) 39 j (nI k)) 38 j = 0 ∧ mI (wrI (wrI M 38 j (iI q)) 39 j (nI k)) 39 j = mI M 39 j) ∧ (hk D k hh ≠ 0 → mI (wrI (wrI M 38 j (iI q)) 39 j (nI k)) 38 j = iI (hk D k hh) ∧ mI (wrI (wrI M 38 j (iI q)) 39 j (nI k)) 39 j = iI k) := fun q e z => by
    refine ⟨fun z2 => absurd (e.symm.trans z2) z, fun _ => ⟨?_, ?_⟩⟩
    · rw [e]; simp (disch := omega) only [wrI_s, wrI_r, wrI_j, wrJ_s, wrJ_r, wrJ_j, wrI_J, wrJ_I, wrR_I, wrR_J]
    · rw [wrI_s, nI_i (by omega)]
  by_cases c5 : hh k < tk D k
  · have ek : hk D k hh = 5 := by unfold hk; rw [if_pos c5]
    refine ⟨wrI (wrI M 38 j (iI 5)) 39 j (nI k), fA 5, (fF 5 ek (by omega)).1, (fF 5 ek (by omega)).2, fun M' y t w hy ht hw hE => ?_⟩
    apply s_X7_heights_236 (M1 := M) (M2 := M) (M3 := M) (M4 := M) (M5 := M) (M6 := M) (M7 := M) (M8 := M) (M9 := M) (M10 := M) (M11 := M) (M12 := M) (M13 := wrI (wrI M 38 j (iI 5)) 39 j (nI k)) (x101 := iI (tk D k)) hS
    case c1 => exact et
    case c29 => intros; exact v_fault hS hj h38
    case k30 => intros; exact mh376 ((fA 5).st hS) hE
    all_goals (intro g; exfalso; simp only [lt32, le32, eq32, lt64, le64, eq64, Int32.reduceToInt, Int64.reduceToInt, ett, e4] at g; omega)
  have gle : iI (tk D k) ≤ x4 := by rw [le32, ett, e4]; omega
  by_cases c6 : 100 < bhd D k hh
  · have ek : hk D k hh = 6 := by unfold hk; rw [if_neg c5, if_pos c6]
    refine ⟨wrI (wrI M 38 j (iI 6)) 39 j (nI k), fA 6, (fF 6 ek (by omega)).1, (fF 6 ek (by omega)).2, fun M' y t w hy ht hw hE => ?_⟩
    apply s_X7_heights_236 (M1 := M) (M2 := M) (M3 := M) (M4 := M) (M5 := M) (M6 := M) (M7 := M) (M8 := M) (M9 := M) (M10 := M) (M11 := M) (M12 := wrI (wrI M 38 j (iI 6)) 39 j (nI k)) (M13 := M) (x101 := iI (tk D k)) hS
    case c1 => exact et
    case c27 => intros; exact v_fault hS hj h38
    case k28 => intros; exact mh376 ((fA 6).st hS) hE
    case c29 => intro g; exact absurd gle g
    case k30 => intro g; exact absurd gle g
    all_goals (intro _ g; exfalso; simp only [lt32, le32, eq32, lt64, le64, eq64, Int32.reduceToInt, Int64.reduceToInt, e5] at g; omega)
  have g100 : x5 ≤ 100 := by rw [le32, e5]; show _ ≤ (100 : Int); omega
  by_cases c7 : Qo D k hh
  · have ek : hk D k hh = 7 := by unfold hk; rw [if_neg c5, if_neg c6, if_pos c7]
    refine ⟨wrI (wrI M 38 j (iI 7)) 39 j (nI k), fA 7, (fF 7 ek (by omega)).1, (fF 7 ek (by omega)).2, fun M' y t w hy ht hw hE => ?_⟩
    apply s_X7_heights_236 (M1 := M) (M2 := M) (M3 := M) (M4 := M) (M5 := M) (M6 := M) (M7 := M) (M8 := M) (M9 := M) (M10 := M) (M11 := wrI (wrI M 38 j (iI 7)) 39 j (nI k)) (M12 := M) (M13 := M) (x101 := iI (tk D k)) hS
    case c1 => exact et
    case c25 => intros; exact v_fault hS hj h38
    case k26 => intros; exact mh376 ((fA 7).st hS) hE
    case c27 => intro _ g; exact absurd g100 g
    case k28 => intro _ g; exact absurd g100 g
    case c29 => intro g; exact absurd gle g
    case k30 => intro g; exact absurd gle g
    all_goals (intro _ _ g; exact absurd c7 (hw.mp g))
  have ek0 : hk D k hh = if dO D k = 17 ∧ dR D < hh k then 8 else if dn D ≤ onw D k then 9 else 0 := by unfold hk; rw [if_neg c5, if_neg c6, if_neg c7]
  have hb : -1 ≤ bhd D k hh ∧ bhd D k hh ≤ 100 := by unfold bhd at *; omega
  have e5' : x5 = iI (bhd D k hh) := iI_e e5
  by_cases c8 : dO D k = 17 ∧ dR D < hh k
  · have ek : hk D k hh = 8 := by rw [ek0, if_pos c8]
    refine ⟨wrI (wrI M 38 j (iI 8)) 39 j (nI k), fA 8, (fF 8 ek (by omega)).1, (fF 8 ek (by omega)).2, fun M' y t w hy ht hw hE => ?_⟩
    apply s_X7_heights_236 (M1 := M) (M2 := M) (M3 := M) (M4 := M) (M5 := M) (M6 := M) (M7 := M) (M8 := M) (M9 := M) (M10 := wrI (wrI M 38 j (iI 8)) 39 j (nI k)) (M11 := M) (M12 := M) (M13 := M) (x101 := iI (tk D k)) hS
    case c1 => exact et
    case b2 => intros; exact b3
    case b3 => intros; exact bj
    case b13 => intros; exact bj
    case c23 => intros; exact v_fault hS hj h38
    case k24 => intros; exact mh376 ((fA 8).st hS) hE
    case c25 => intro _ _ g; exact absurd (hw.mpr c7) g
    case k26 => intro _ _ g; exact absurd (hw.mpr c7) g
    case c27 => intro _ g; exact absurd g100 g
    case k28 => intro _ g; exact absurd g100 g
    case c29 => intro g; exact absurd gle g
    case k30 => intro g; exact absurd gle g
    all_goals (clear et hE fF fA; intros; exfalso; simp only [lt32, le32, eq32, lt64, le64, eq64, Int32.reduceToInt, Int64.reduceToInt, ck, cj, ho, e4, e28, eR] at *; omega)
  rw [if_neg c8] at ek0
  by_cases c9 : dn D ≤ onw D k
  · have ek : hk D k hh = 9 := by rw [ek0, if_pos c9]
    refine ⟨wrI (wrI M 38 j (iI 9)) 39 j (nI k), fA 9, (fF 9 ek (by omega)).1, (fF 9 ek (by omega)).2, fun M' y t w hy ht hw hE => ?_⟩
    have n17 : dO D k ≠ 17 := fun z => by unfold onw at c9; rw [if_pos (Or.inr z)] at c9; omega
    apply s_X7_heights_236 (M1 := M) (M2 := M) (M3 := M) (M4 := M) (M5 := wrI (wrI M 38 j (iI 9)) 39 j (nI k)) (M6 := M) (M7 := M) (M8 := M) (M9 := M) (M10 := M) (M11 := M) (M12 := M) (M13 := M) (x101 := iI (tk D k)) hS
    case c1 => exact et
    case b2 => intros; exact b3
    case b3 => intros; exact bj
    case b13 => intros; exact bj
    case c11 => intros; exact v_fault hS hj h38
    case k12 => intros; exact mh376 ((fA 9).st hS) hE
    case c25 => intro _ _ g; exact absurd (hw.mpr c7) g
    case k26 => intro _ _ g; exact absurd (hw.mpr c7) g
    case c27 => intro _ g; exact absurd g100 g
    case k28 => intro _ g; exact absurd g100 g
    case c29 => intro g; exact absurd gle g
    case k30 => intro g; exact absurd gle g
    all_goals (clear et hE fF fA; intros; exfalso; simp only [lt32, le32, eq32, lt64, le64, eq64, Int32.reduceToInt, Int64.reduceToInt, ck, cj, ho, e4, e6, e28, e30, eR, en] at *; omega)
  rw [if_neg c9] at ek0
  by_cases o17 : dO D k = 17
  · have eo : onw D k = -1 := by unfold onw; rw [if_pos (Or.inr o17)]
    have en' : hn D k hh = hh := by unfold hn; rw [if_neg (by omega), eo, if_neg (by omega)]
    refine ⟨M, Ag.rf, fun _ => ⟨by rw [en']; exact hH, h38, rfl⟩, fun z => absurd ek0 z, fun M' y t w hy ht hw hE => ?_⟩
    apply s_X7_heights_236 (M1 := M) (M2 := M) (M3 := M) (M4 := M) (M5 := M) (M6 := M) (M7 := M) (M8 := M) (M9 := M) (M10 := M) (M11 := M) (M12 := M) (M13 := M) (x101 := iI (tk D k)) hS
    case c1 => exact et
    case b2 => intros; exact b3
    case b3 => intros; exact bj
    case b13 => intros; exact bj
    case k14 => intros; exact mh376 hS hE
    case c15 => intro _ _ _ _ _ _ _ g; exact absurd (hy.mpr (by omega)) g
    case k16 => intro _ _ _ _ _ _ _ g; exact absurd (hy.mpr (by omega)) g
    case c25 => intro _ _ g; exact absurd (hw.mpr c7) g
    case k26 => intro _ _ g; exact absurd (hw.mpr c7) g
    case c27 => intro _ g; exact absurd g100 g
    case k28 => intro _ g; exact absurd g100 g
    case c29 => intro g; exact absurd gle g
    case k30 => intro g; exact absurd gle g
    all_goals (clear et hE fF fA; intros; exfalso; simp only [lt32, le32, eq32, lt64, le64, eq64, Int32.reduceToInt, Int64.reduceToInt, ck, cj, ho, e4, e6, e28, e30, eR, en] at *; omega)
  by_cases jm : dO D k = 12 ∨ dO D k = 13
  · have fj := ffj hf jm
    by_cases o12 : dO D k = 12
    · have eo : onw D k = -1 := by unfold onw; rw [if_pos (Or.inl o12)]
      have en' : hn D k hh = up1 hh (dA D k).toNat (bhd D k hh) := by unfold hn; rw [if_pos jm, eo, if_neg (by omega)]
      have hA : Ag (S34 j) M (wrI M 34 (120 * j + (dA D k).toNat) (iI (bhd D k hh))) := Ag.rf.wI (Or.inl ⟨rfl, by omega, by omega⟩)
      refine ⟨_, hA, fun _ => ⟨by rw [en']; exact hH.up hb, by simp (disch := omega) only [wrI_s, wrI_r, wrI_j, wrJ_s, wrJ_r, wrJ_j, wrI_J, wrJ_I, wrR_I, wrR_J]; exact h38, by simp (disch := omega) only [wrI_s, wrI_r, wrI_j, wrJ_s, wrJ_r, wrJ_j, wrI_J, wrJ_I, wrR_I, wrR_J]⟩, fun z => absurd ek0 z, fun M' y t w hy ht hw hE => ?_⟩
      apply s_X7_heights_236 (M1 := M) (M2 := wrI M 34 (120 * j + (dA D k).toNat) (iI (bhd D k hh))) (M3 := M) (M4 := M) (M5 := M) (M6 := M) (M7 := M) (M8 := M) (M9 := M) (M10 := M) (M11 := M) (M12 := M) (M13 := M) (x101 := iI (tk D k)) hS
      case c1 => exact et
      case b2 => intros; exact b3
      case b3 => intros; exact bj
      case b13 => intros; exact bj
      case c5 => intros; rw [e5']; exact v_tell hS h (ht jm) (by omega) (by omega)
      case k6 => intros; exact mh376 (hA.st hS) hE
      case k4 => intro _ _ _ _ _ _ g; exact absurd jm (hy.mp g)
      case c25 => intro _ _ g; exact absurd (hw.mpr c7) g
      case k26 => intro _ _ g; exact absurd (hw.mpr c7) g
      case c27 => intro _ g; exact absurd g100 g
      case k28 => intro _ g; exact absurd g100 g
      case c29 => intro g; exact absurd gle g
      case k30 => intro g; exact absurd gle g
      all_goals (clear et hE fF fA; intros; exfalso; simp only [lt32, le32, eq32, lt64, le64, eq64, Int32.reduceToInt, Int64.reduceToInt, ck, cj, ho, e4, e6, e28, e30, eR, en] at *; omega)
    · have eo : onw D k = k + 1 := by unfold onw; rw [if_neg (by omega), if_neg (by omega)]
      have en' : hn D k hh = up1 (up1 hh (onw D k).toNat (bhd D k hh)) (dA D k).toNat (bhd D k hh) := by unfold hn; rw [if_pos jm, if_pos (by omega)]
      have hA1 : Ag (S34 j) M (wrI M 34 (120 * j + (onw D k).toNat) (iI (bhd D k hh))) := Ag.rf.wI (Or.inl ⟨rfl, by omega, by omega⟩)
      have hA : Ag (S34 j) M (wrI (wrI M 34 (120 * j + (onw D k).toNat) (iI (bhd D k hh))) 34 (120 * j + (dA D k).toNat) (iI (bhd D k hh))) := hA1.wI (Or.inl ⟨rfl, by omega, by omega⟩)
      refine ⟨_, hA, fun _ => ⟨by rw [en']; exact (hH.up hb).up hb, by simp (disch := omega) only [wrI_s, wrI_r, wrI_j, wrJ_s, wrJ_r, wrJ_j, wrI_J, wrJ_I, wrR_I, wrR_J]; exact h38, by simp (disch := omega) only [wrI_s, wrI_r, wrI_j, wrJ_s, wrJ_r, wrJ_j, wrI_J, wrJ_I, wrR_I, wrR_J]⟩, fun z => absurd ek0 z, fun M' y t w hy ht hw hE => ?_⟩
      apply s_X7_heights_236 (M1 := M) (M2 := M) (M3 := wrI M 34 (120 * j + (onw D k).toNat) (iI (bhd D k hh))) (M4 := wrI (wrI M 34 (120 * j + (onw D k).toNat) (iI (bhd D k hh))) 34 (120 * j + (dA D k).toNat) (iI (bhd D k hh))) (M5 := M) (M6 := M) (M7 := M) (M8 := M) (M9 := M) (M10 := M) (M11 := M) (M12 := M) (M13 := M) (x101 := iI (tk D k)) hS
      case c1 => exact et
      case b2 => intros; exact b3
      case b3 => intros; exact bj
      case b13 => intros; exact bj
      case c7 => intros; rw [e5']; exact v_tell hS h e6 (by omega) (by omega)
      case c9 => intros; rw [e5']; exact v_tell (hA1.st hS) (h.s34 hA1) (ht jm) (by omega) (by omega)
      case k10 => intros; exact mh376 (hA.st hS) hE
      case k8 => intro _ _ _ _ _ _ g; exact absurd jm (hy.mp g)
      case c25 => intro _ _ g; exact absurd (hw.mpr c7) g
      case k26 => intro _ _ g; exact absurd (hw.mpr c7) g
      case c27 => intro _ g; exact absurd g100 g
      case k28 => intro _ g; exact absurd g100 g
      case c29 => intro g; exact absurd gle g
      case k30 => intro g; exact absurd gle g
      all_goals (clear et hE fF fA; intros; exfalso; simp only [lt32, le32, eq32, lt64, le64, eq64, Int32.reduceToInt, Int64.reduceToInt, ck, cj, ho, e4, e6, e28, e30, eR, en] at *; omega)
  · have eo : 0 ≤ onw D k := by
      unfold onw
      rw [if_neg (by omega)]
      by_cases q : dO D k = 14 ∧ dA D k = 0
      · have := ffl hf q.1
        rw [if_pos q]; omega
      · rw [if_neg q]; omega
    have en' : hn D k hh = up1 hh (onw D k).toNat (bhd D k hh) := by unfold hn; rw [if_neg jm, if_pos eo]
    have hA : Ag (S34 j) M (wrI M 34 (120 * j + (onw D k).toNat) (iI (bhd D k hh))) := Ag.rf.wI (Or.inl ⟨rfl, by omega, by omega⟩)
    refine ⟨_, hA, fun _ => ⟨by rw [en']; exact hH.up hb, by simp (disch := omega) only [wrI_s, wrI_r, wrI_j, wrJ_s, wrJ_r, wrJ_j, wrI_J, wrJ_I, wrR_I, wrR_J]; exact h38, by simp (disch := omega) only [wrI_s, wrI_r, wrI_j, wrJ_s, wrJ_r, wrJ_j, wrI_J, wrJ_I, wrR_I, wrR_J]⟩, fun z => absurd ek0 z, fun M' y t w hy ht hw hE => ?_⟩
    apply s_X7_heights_236 (M1 := M) (M2 := M) (M3 := wrI M 34 (120 * j + (onw D k).toNat) (iI (bhd D k hh))) (M4 := M) (M5 := M) (M6 := M) (M7 := M) (M8 := M) (M9 := M) (M10 := M) (M11 := M) (M12 := M) (M13 := M) (x101 := iI (tk D k)) hS
    case c1 => exact et
    case b2 => intros; exact b3
    case b3 => intros; exact bj
    case b13 => intros; exact bj
    case c7 => intros; rw [e5']; exact v_tell hS h e6 (by omega) (by omega)
    case k8 => intros; exact mh376 (hA.st hS) hE
    case c9 => intro _ _ _ _ _ _ g; exact absurd (hy.mpr (by omega)) g
    case k10 => intro _ _ _ _ _ _ g; exact absurd (hy.mpr (by omega)) g
    case c25 => intro _ _ g; exact absurd (hw.mpr c7) g
    case k26 => intro _ _ g; exact absurd (hw.mpr c7) g
    case c27 => intro _ g; exact absurd g100 g
    case k28 => intro _ g; exact absurd g100 g
    case c29 => intro g; exact absurd gle g
    case k30 => intro g; exact absurd gle g
    all_goals (clear et hE fF fA; intros; exfalso; simp only [lt32, le32, eq32, lt64, le64, eq64, Int32.reduceToInt, Int64.reduceToInt, ck, cj, ho, e4, e6, e28, e30, eR, en] at *; omega)

theorem l_mheights (hff : ∀ i, i < dn D → ff D i = 0) : ∀ (f k : Nat) (M : AM), dn D - k = f → k ≤ dn D → St M → MM M j D → BRi D j (dn D) M → HM M j D (hp D k).1 → (hp D k).2 = (0, -1) → mI M 38 j = 0 → mI M 39 j = -1 →
    ∃ M', E K_X7_heights 60 [some (aR (some 26)), some (aI (nI j)), some (aI (nI k)), none, none, none, none, none, none, none] [] M none M' ∧ Ag (S34 j) M M' ∧ mI M' 38 j = iI (hp D (dn D)).2.1 ∧ mI M' 39 j = iI (hp D (dn D)).2.2 ∧ ((hp D (dn D)).2.1 = 0 → HM M' j D (hp D (dn D)).1) := by
  intro f
  induction f with
  | zero =>
    intro k M hf hkn hS h hB hH h0 h8 h9
    have e : k = dn D := by omega
    subst e
    have hN := h.ln
    have hj := h.lj
    have cj := cl_n (n := j) (by omega)
    refine ⟨M, ?_, Ag.rf, by rw [h0]; exact h8, by rw [h0]; exact h9, fun _ => hH⟩
    have hg : mI M 30 (nI j).toNatClampNeg ≤ nI (dn D) := by rw [cj, h.1, le32]; omega
    apply s_X7_heights_60 (M1 := M) (M2 := M) (x104 := 0) (x105 := 0) hS
    case b1 => exact in_n hj (by omega)
    case k2 => exact fun _ => ⟨rfl, rfl⟩
    all_goals (intro g; exact absurd hg g)
  | succ f ih =>
    intro k M hf hkn hS h hB hH h0 h8 h9
    have hN := h.ln
    have hj := h.lj
    have cj := cl_n (n := j) (by omega)
    have bj : vp_in (nI j) 32 := in_n hj (by omega)
    have hk' : k < dn D := by omega
    have hd := h.2.2.2.2.2.2.1
    have hR := hp_r hd hff k (by omega)
    have hRk := hR k hk'
    have hg : ¬ mI M 30 (nI j).toNatClampNeg ≤ nI k := by rw [cj, h.1, le32, ci _ (by omega), ci _ (by omega)]; omega
    have ho := (h.2.1 k hk').1
    have ck := cx (j := j) (i := k) (by omega) (by omega)
    have b3 := bx (j := j) (i := k) (by omega) (by omega)
    have hHk := hH k hk'
    have h01 : (hp D k).2.1 = 0 := by rw [h0]
    have g38 : mI M 38 (nI j).toNatClampNeg = 0 := by rw [cj]; exact h8
    by_cases c : (hp D k).1 k < 0
    · have es : hp D (k + 1) = hp D k := by rw [hp, if_pos h01, if_pos c]
      obtain ⟨M', hE, hr⟩ := ih (k + 1) M (by omega) (by omega) hS h hB (by rw [es]; exact hH) (by rw [es]; exact h0) h8 h9
      refine ⟨M', ?_, hr⟩
      apply s_X7_heights_60 (M1 := M) (M2 := M) (x104 := 0) (x105 := 0) hS
      case b1 => exact bj
      case k2 => exact fun g => absurd g hg
      case k3 => exact fun _ g => absurd g38 g
      case b4 => intros; exact b3
      case k5 =>
        intros
        refine s_X7_heights_376 hS ?_
        rw [nI_1]
        exact hE.fg ⟨Or.inr rfl, Or.inr rfl, Or.inr rfl, Or.inl rfl, Or.inl rfl, Or.inr rfl, Or.inr rfl, Or.inr rfl, Or.inr rfl, Or.inr rfl, trivial⟩
      all_goals (clear hE hr; intro _ _ g; exfalso; simp only [lt32, le32, eq32, lt64, le64, eq64, Int32.reduceToInt, Int64.reduceToInt, ck, hHk] at g; omega)
    · have hf' := hff k hk'
      have rt := tk_r hd hf'
      have rg := gv_r hd hf'
      have mg := mat_ge (D := D) (dn D) k
      have e34 : mI M 34 (120 * j + k) = iI ((hp D k).1 k) := iI_e hHk
      have eb : mI M 34 (120 * j + k) + iI (gv D k - tk D k) = iI (bhd D k (hp D k).1) := by
        rw [e34, iI_add]
        unfold bhd
        congr 1
        omega
      have onr : -1 ≤ onw D k ∧ onw D k ≤ 121 := by unfold onw; repeat' split <;> omega
      have t5 : (iI (bhd D k (hp D k).1)).toInt = bhd D k (hp D k).1 := iI_t (by unfold bhd; omega) (by unfold bhd; omega)
      have t6 := iI_t (k := onw D k) (by omega) (by omega)
      have cg := v_grows hS h hk' hf'
      have co := v_onward hS h (hB k hk').2.2 hk'
      obtain ⟨M1, a1, z1, z2, hE1⟩ := mh236 (x4 := iI ((hp D k).1 k)) (x5 := iI (bhd D k (hp D k).1)) (x6 := iI (onw D k)) hS h hH hR hk' (by omega) hf' h8 (by rw [← e34]; exact hHk) t5 t6
      obtain ⟨M', hE, hr⟩ : ∃ M', E K_X7_heights 60 [some (aR (some 26)), some (aI (nI j)), some (aI (nI (k + 1))), none, none, none, none, none, none, none] [] M1 none M' ∧ Ag (S34 j) M M' ∧ mI M' 38 j = iI (hp D (dn D)).2.1 ∧ mI M' 39 j = iI (hp D (dn D)).2.2 ∧ ((hp D (dn D)).2.1 = 0 → HM M' j D (hp D (dn D)).1) := by
        by_cases c2 : hk D k (hp D k).1 = 0
        · have es : hp D (k + 1) = (hn D k (hp D k).1, 0, -1) := by rw [hp, if_pos h01, if_neg c, if_pos c2]
          obtain ⟨q1, q2, q3⟩ := z1 c2
          obtain ⟨M', hE, hA', hr'⟩ := ih (k + 1) M1 (by omega) (by omega) (a1.st hS) (h.s34 a1) (hB.s34 a1) (by rw [es]; exact q1) (by rw [es]) q2 (q3.trans h9)
          exact ⟨M', hE, a1.tr hA', hr'⟩
        · have es : hp D (k + 1) = ((hp D k).1, hk D k (hp D k).1, (k : Int)) := by rw [hp, if_pos h01, if_neg c, if_neg c2]
          have est := hp_stop (D := D) (k := k + 1) (by rw [es]; exact c2) (dn D - (k + 1))
          rw [show k + 1 + (dn D - (k + 1)) = dn D by omega, es] at est
          obtain ⟨q1, q2⟩ := z2 c2
          have hr := hk_r (D := D) k (hp D k).1
          exact ⟨M1, mh60 (q := 0) (a1.st hS) hj (by rw [q1, ne_eq, eq32, iI_t (by omega) (by omega)]; exact c2), a1, by rw [est]; exact q1, by rw [est]; exact q2, fun z => by rw [est] at z; exact absurd z c2⟩
      refine ⟨M', ?_, hr⟩
      have e4' : (iI ((hp D k).1 k)).toInt = (hp D k).1 k := iI_t (by omega) (by omega)
      have ta : dO D k = 12 ∨ dO D k = 13 → ((mJ M 32 ((120 : Int32) * nI j + nI k).toNatClampNeg).toInt32).toInt = dA D k := fun jm => by
        have fj := ffj hf' jm
        have ha := (h.2.1 k hk').2
        rw [ck, x_l (by omega) (by omega), ci _ (by omega), ha]
        omega
      have p145 : ∀ y : Int32, (y = 0 ↔ ¬ (dO D k = 12 ∨ dO D k = 13)) → E K_X7_heights 145 [some (aR (some 26)), some (aI (nI j)), some (aI (nI k)), some (aI ((120 : Int32) * nI j + nI k)), some (aI (iI ((hp D k).1 k))), some (aI (iI (bhd D k (hp D k).1))), some (aI (iI (onw D k))), none, none, none] [aI y] M none M' := fun y hy => by
        apply s_X7_heights_145 hS
        case k1 => intro g; exact mh163 hS h hB hH hk' hf' e4' t5 t6 hy (fun z => absurd z (hy.mp g)) (fun w hw => hE1 M' y _ w hy (fun z => absurd z (hy.mp g)) hw hE)
        case b2 => intros; exact b3
        case k3 => intro _; exact mh163 hS h hB hH hk' hf' e4' t5 t6 hy ta (fun w hw => hE1 M' y _ w hy ta hw hE)
      apply s_X7_heights_60 (M1 := M) (M2 := M) (x104 := iI (gv D k - tk D k)) (x105 := iI (onw D k)) hS
      case b1 => exact bj
      case k2 => exact fun g => absurd g hg
      case k3 => exact fun _ g => absurd g38 g
      case b4 => intros; exact b3
      case k5 => intro _ _ g; exfalso; simp only [lt32, le32, eq32, lt64, le64, eq64, Int32.reduceToInt, Int64.reduceToInt, ck, hHk] at g; omega
      case c6 => intros; exact cg
      case c7 => intros; exact co
      case k8 => intro _ _ _ g; simp only [lt32, le32, eq32, lt64, le64, eq64, Int32.reduceToInt, Int64.reduceToInt, ck, ho] at g; rw [ck, eb, e34]; exact p145 1 ⟨fun z => absurd z (by decide), fun z => absurd (Or.inl g) z⟩
      case k9 => intro _ _ _ g g2; simp only [lt32, le32, eq32, lt64, le64, eq64, Int32.reduceToInt, Int64.reduceToInt, ck, ho] at g g2; rw [ck, eb, e34]; exact p145 0 ⟨fun _ => by omega, fun _ => rfl⟩
      case k10 => intro _ _ _ g g2; simp only [lt32, le32, eq32, lt64, le64, eq64, Int32.reduceToInt, Int64.reduceToInt, ck, ho] at g g2; rw [ck, eb, e34]; exact p145 1 ⟨fun z => absurd z (by decide), fun z => absurd (Or.inr g2) z⟩
theorem l_mclear : ∀ (f k : Nat) (M : AM), dn D - k = f → k ≤ dn D → St M → MM M j D → (∀ i, i < k → mI M 34 (120 * j + i) = -1) → ∃ M1, Ag (S34 j) M M1 ∧ (∀ i, i < dn D → mI M1 34 (120 * j + i) = -1) ∧ mI M1 38 j = mI M 38 j ∧ mI M1 39 j = mI M 39 j ∧
    ∀ M', (dn D = 0 → ∃ M2, Ev K_X7_fault [aR (some 26), aI (nI j), aI 9, aI 0] M1 none M2 ∧ M' = M2) → (dn D ≠ 0 → E K_X7_heights 60 [some (aR (some 26)), some (aI (nI j)), some (aI 0), none, none, none, none, none, none, none] [] (wrI M1 34 (120 * j) 0) none M') → E K_X7_heights 2 [some (aR (some 26)), some (aI (nI j)), some (aI (nI k)), none, none, none, none, none, none, none] [] M none M' := by
  intro f
  induction f with
  | zero =>
    intro k M hf hkn hS h hI
    have e : k = dn D := by omega
    subst e
    have hN := h.ln
    have hj := h.lj
    have cj := cl_n (n := j) (by omega)
    have bj : vp_in (nI j) 32 := in_n hj (by omega)
    have c120 : ((120 : Int32) * nI j).toNatClampNeg = 120 * j := by show (nI 120 * nI j).toNatClampNeg = _; rw [nI_mul, cl_n (by omega)]
    have hg : mI M 30 (nI j).toNatClampNeg ≤ nI (dn D) := by rw [cj, h.1, le32]; omega
    have e30 := h.1
    have en := ci (dn D) (by omega)
    refine ⟨M, Ag.rf, hI, rfl, rfl, fun M' k1 k2 => ?_⟩
    by_cases z : dn D = 0
    · obtain ⟨M2, c, e⟩ := k1 z
      apply s_X7_heights_2 (M1 := M2) hS
      case b1 => exact bj
      case b2 => intro _ g; exfalso; simp only [lt32, le32, eq32, lt64, le64, eq64, Int32.reduceToInt, Int64.reduceToInt, cj, e30, en] at g; omega
      case k3 => intro _ g; exfalso; simp only [lt32, le32, eq32, lt64, le64, eq64, Int32.reduceToInt, Int64.reduceToInt, cj, e30, en] at g; omega
      case c4 => intros; exact c
      case k5 => intros; exact ⟨rfl, e.symm⟩
      all_goals (intro g; exact absurd hg g)
    · apply s_X7_heights_2 (M1 := M) hS
      case b1 => exact bj
      case b2 => intros; show vp_in (nI 120 * nI j) 3840; rw [nI_mul]; exact in_n (by omega) (by omega)
      case k3 => intros; rw [c120]; exact k2 z
      case c4 => intro _ g; exfalso; simp only [lt32, le32, eq32, lt64, le64, eq64, Int32.reduceToInt, Int64.reduceToInt, cj, e30, en] at g; omega
      case k5 => intro _ g; exfalso; simp only [lt32, le32, eq32, lt64, le64, eq64, Int32.reduceToInt, Int64.reduceToInt, cj, e30, en] at g; omega
      all_goals (intro g; exact absurd hg g)
  | succ f ih =>
    intro k M hf hkn hS h hI
    have hN := h.ln
    have hj := h.lj
    have cj := cl_n (n := j) (by omega)
    have bj : vp_in (nI j) 32 := in_n hj (by omega)
    have hk' : k < dn D := by omega
    have ck := cx (j := j) (i := k) (by omega) (by omega)
    have b3 := bx (j := j) (i := k) (by omega) (by omega)
    have hg : ¬ mI M 30 (nI j).toNatClampNeg ≤ nI k := by rw [cj, h.1, le32, ci _ (by omega), ci _ (by omega)]; omega
    have hA : Ag (S34 j) M (wrI M 34 (120 * j + k) (-1)) := Ag.rf.wI (Or.inl ⟨rfl, by omega, by omega⟩)
    obtain ⟨M1, a1, i1, i2, i3, kk⟩ := ih (k + 1) (wrI M 34 (120 * j + k) (-1)) (by omega) (by omega) (hA.st hS) (h.s34 hA) (fun i hi => by
      by_cases e : i = k
      · rw [e, wrI_s]
      · rw [wrI_j (by omega)]; exact hI i (by omega))
    refine ⟨M1, hA.tr a1, i1, i2.trans (by simp (disch := omega) only [wrI_s, wrI_r, wrI_j, wrJ_s, wrJ_r, wrJ_j, wrI_J, wrJ_I, wrR_I, wrR_J]), i3.trans (by simp (disch := omega) only [wrI_s, wrI_r, wrI_j, wrJ_s, wrJ_r, wrJ_j, wrI_J, wrJ_I, wrR_I, wrR_J]), fun M' k1 k2 => ?_⟩
    apply s_X7_heights_2 (M1 := M) hS
    case b1 => exact bj
    case b6 => intros; exact b3
    case k7 => intros; rw [ck, nI_1]; exact kk M' k1 k2
    all_goals (intro g; exact absurd g hg)
theorem v_mheights {M : AM} (hS : St M) (h : MM M j D) (hB : BRi D j (dn D) M) (hff : ∀ i, i < dn D → ff D i = 0) (h8 : mI M 38 j = 0) (h9 : mI M 39 j = -1) : ∃ M', Ev K_X7_heights [aR (some 26), aI (nI j)] M none M' ∧ Ag (S34 j) M M' ∧ mI M' 38 j = iI (if dn D = 0 then (9, 0) else (hp D (dn D)).2).1 ∧ mI M' 39 j = iI (if dn D = 0 then (9, 0) else (hp D (dn D)).2).2 ∧ (dn D ≠ 0 → (hp D (dn D)).2.1 = 0 → HM M' j D (hp D (dn D)).1) := by
  obtain ⟨M1, a1, i1, i2, i3, kk⟩ := l_mclear (D := D) (j := j) _ 0 M rfl (by omega) hS h (fun i hi => by omega)
  have hj := h.lj
  have hN := h.ln
  by_cases e : dn D = 0
  · rw [if_pos e]
    have hA : Ag (S34 j) M1 (wrI (wrI M1 38 j 9) 39 j 0) := (Ag.rf.wI (Or.inr ⟨Or.inl rfl, rfl⟩)).wI (Or.inr ⟨Or.inr rfl, rfl⟩)
    refine ⟨_, s_X7_heights_0 hS (kk _ (fun _ => ⟨_, v_fault (a1.st hS) hj (i2.trans h8), rfl⟩) (fun z => absurd e z)), a1.tr hA, by simp (disch := omega) only [wrI_s, wrI_r, wrI_j, wrJ_s, wrJ_r, wrJ_j, wrI_J, wrJ_I, wrR_I, wrR_J]; rfl, by simp (disch := omega) only [wrI_s, wrI_r, wrI_j, wrJ_s, wrJ_r, wrJ_j, wrI_J, wrJ_I, wrR_I, wrR_J]; rfl, fun z => absurd e z⟩
  · rw [if_neg e]
    have hA : Ag (S34 j) M1 (wrI M1 34 (120 * j) 0) := Ag.rf.wI (Or.inl ⟨rfl, by omega, by omega⟩)
    have a2 := a1.tr hA
    have hHM : HM (wrI M1 34 (120 * j) 0) j D (hp D 0).1 := fun i hi => by
      show _ = h0f i
      unfold h0f
      by_cases z : i = 0
      · rw [z, Nat.add_zero, wrI_s, if_pos rfl]; rfl
      · rw [wrI_j (by omega), if_neg z, i1 i (by omega)]; rfl
    obtain ⟨M', hE, hA', hr⟩ := l_mheights hff _ 0 _ rfl (by omega) (a2.st hS) (h.s34 a2) (hB.s34 a2) hHM rfl (by simp (disch := omega) only [wrI_s, wrI_r, wrI_j, wrJ_s, wrJ_r, wrJ_j, wrI_J, wrJ_I, wrR_I, wrR_J]; exact i2.trans h8) (by simp (disch := omega) only [wrI_s, wrI_r, wrI_j, wrJ_s, wrJ_r, wrJ_j, wrI_J, wrJ_I, wrR_I, wrR_J]; exact i3.trans h9)
    exact ⟨M', s_X7_heights_0 hS (kk _ (fun z => absurd z e) (fun _ => hE)), a2.tr hA', hr.1, hr.2.1, fun _ => hr.2.2⟩
/-- what was found of the METHOD D stands in the reference's arrays -/
def MG (M : AM) (j : Nat) (D : DD) : Prop := mI M 38 j = iI (chk D).1 ∧ mI M 39 j = iI (chk D).2 ∧ ((chk D).1 = 0 → HM M j D (HH D) ∧ BRi D j (dn D) M)
def SX (j : Nat) : Nat → Nat → Prop := fun r i => (34 ≤ r ∧ r ≤ 37 ∧ 120 * j ≤ i ∧ i < 120 * j + 120) ∨ ((r = 38 ∨ r = 39) ∧ i = j)
theorem MM.sx {M M' : AM} {i : Nat} (h : MM M j D) (a : Ag (SX i) M M') : MM M' j D := h.ag a (fun i => by unfold SX; omega)
theorem v_examine {M : AM} (hS : St M) (h : MM M j D) : ∃ M', Ev K_X7_examine [aR (some 26), aI (nI j)] M none M' ∧ Ag (SX j) M M' ∧ MG M' j D := by
  have hj := h.lj
  have cj := cl_n (n := j) (by omega)
  have bj : vp_in (nI j) 32 := in_n hj (by omega)
  have hA : Ag (SX j) M (wrI (wrI M 38 j 0) 39 j (-1)) := (Ag.rf.wI (Or.inr ⟨Or.inl rfl, rfl⟩)).wI (Or.inr ⟨Or.inr rfl, rfl⟩)
  obtain ⟨M1, c1, a1, hB⟩ := v_forms (hA.st hS) (h.sx hA) (by simp (disch := omega) only [wrI_s, wrI_r, wrI_j, wrJ_s, wrJ_r, wrJ_j, wrI_J, wrJ_I, wrR_I, wrR_J])
  have a1' : Ag (SX j) _ M1 := a1.mo (fun r i z => by unfold Sb at z; unfold SX; omega)
  have e8 : mI M1 38 j = 0 := by rw [a1.i (by unfold Sb; omega)]; simp (disch := omega) only [wrI_s, wrI_r, wrI_j, wrJ_s, wrJ_r, wrJ_j, wrI_J, wrJ_I, wrR_I, wrR_J]
  have e9 : mI M1 39 j = -1 := by rw [a1.i (by unfold Sb; omega)]; simp (disch := omega) only [wrI_s, wrI_r, wrI_j, wrJ_s, wrJ_r, wrJ_j, wrI_J, wrJ_I, wrR_I, wrR_J]
  have a01 := hA.tr a1'
  by_cases z : (fsc (ff D) (dn D)).1 = 0
  · have e3 : wG M1 j (fsc (ff D) (dn D)) = M1 := by unfold wG; rw [if_pos z]
    rw [e3] at c1
    obtain ⟨M2, c2, a2, r8, r9, rh⟩ := v_mheights (a01.st hS) (h.sx a01) hB (fsc_zero z) e8 e9
    have a2' : Ag (SX j) M1 M2 := a2.mo (fun r i z => by unfold S34 at z; unfold SX; omega)
    have ech : chk D = if dn D = 0 then (9, 0) else (hp D (dn D)).2 := by unfold chk; rw [if_pos z]
    refine ⟨M2, ?_, a01.tr a2', by rw [ech]; exact r8, by rw [ech]; exact r9, fun q => ?_⟩
    · apply s_X7_examine_0 (M1 := M1) (M2 := M2) hS
      case b1 => exact bj
      case c2 => rw [cj]; exact c1
      case k3 => intro g; rw [cj] at g; exact absurd e8 g
      case c4 => intros; exact c2
      case k5 => intros; exact ⟨rfl, rfl⟩
    · by_cases n0 : dn D = 0
      · rw [ech, if_pos n0] at q
        exact absurd q (by show ¬ (9 : Int) = 0; omega)
      · rw [ech, if_neg n0] at q
        exact ⟨rh n0 q, hB.s34 a2⟩
  · have e3 : wG M1 j (fsc (ff D) (dn D)) = wrI (wrI M1 38 j (iI (fsc (ff D) (dn D)).1)) 39 j (iI (fsc (ff D) (dn D)).2) := by unfold wG; rw [if_neg z]
    rw [e3] at c1
    have a3 : Ag (SX j) M1 (wrI (wrI M1 38 j (iI (fsc (ff D) (dn D)).1)) 39 j (iI (fsc (ff D) (dn D)).2)) := (Ag.rf.wI (Or.inr ⟨Or.inl rfl, rfl⟩)).wI (Or.inr ⟨Or.inr rfl, rfl⟩)
    have ech : chk D = fsc (ff D) (dn D) := by unfold chk; rw [if_neg z]
    have fr : 0 ≤ (fsc (ff D) (dn D)).1 ∧ (fsc (ff D) (dn D)).1 ≤ 4 := by
      generalize dn D = n
      induction n with
      | zero => exact ⟨Int.le_refl _, by show (0 : Int) ≤ 4; omega⟩
      | succ n ih =>
        have := ff_r (D := D) n
        unfold fsc
        repeat' split
        · exact ⟨Int.le_refl _, by show (0 : Int) ≤ 4; omega⟩
        · exact this
        · exact ih
    have ez := iI_t (k := (fsc (ff D) (dn D)).1) (by omega) (by omega)
    have e38 : mI (wrI (wrI M1 38 j (iI (fsc (ff D) (dn D)).1)) 39 j (iI (fsc (ff D) (dn D)).2)) 38 j = iI (fsc (ff D) (dn D)).1 := by simp (disch := omega) only [wrI_s, wrI_r, wrI_j, wrJ_s, wrJ_r, wrJ_j, wrI_J, wrJ_I, wrR_I, wrR_J]
    refine ⟨_, ?_, a01.tr a3, by rw [ech]; exact e38, by rw [ech]; simp (disch := omega) only [wrI_s, wrI_r, wrI_j, wrJ_s, wrJ_r, wrJ_j, wrI_J, wrJ_I, wrR_I, wrR_J], fun q => absurd (by rw [← ech]; exact q) z⟩
    apply s_X7_examine_0 (M1 := wrI (wrI M1 38 j (iI (fsc (ff D) (dn D)).1)) 39 j (iI (fsc (ff D) (dn D)).2)) (M2 := M) hS
    case b1 => exact bj
    case c2 => rw [cj]; exact c1
    case k3 => intros; exact ⟨rfl, rfl⟩
    all_goals (intro g; rw [cj, e38, eq32, ez] at g; exact absurd g z)
end MH2
