set_option maxRecDepth 20000 in
theorem s_X7_forms_0 {M M' : AM} {v : Option AV} {x1 : Int32} {M1 : AM} (hS : St M)
    (c1 : Ev K_X7_brackets [aR (some 26), aI x1] M (none) M1)
    (k2 : E K_X7_forms 7 [some (aR (some 26)), some (aI x1), some (aI 0), none, none] [] M1 v M') :
    Ev K_X7_forms [aR (some 26), aI x1] M v M' := by
  refine ⟨Nat.le_of_ble_eq_true rfl, ?_⟩
  show E K_X7_forms 0 [some (aR (some 26)), some (aI x1), none, none, none] [] M v M'
  refine e_aload_n dX7_forms_0 rfl ?_
  refine e_iload_n dX7_forms_1 rfl ?_
  refine e_callV (As := [aI x1]) (rest := []) vk_X7_brackets hS.l26 w997 ⟨by decide, by decide⟩ (Nat.le_of_ble_eq_true rfl) dX7_forms_2 c1 ?_
  show E K_X7_forms 5 [some (aR (some 26)), some (aI x1), none, none, none] [] M1 v M'
  have hS_1 : St M1 := St.sh (M := M) c1.2.1 hS
  refine e_iconst (u := 0) dX7_forms_5 (by decide) ?_
  refine e_istore_n dX7_forms_6 (Nat.le_of_ble_eq_true rfl) ?_
  show E K_X7_forms 7 [some (aR (some 26)), some (aI x1), some (aI 0), none, none] [] M1 v M'
  exact k2

set_option maxRecDepth 20000 in
theorem s_X7_forms_7 {M M' : AM} {v : Option AV} {x1 : Int32} {x2 : Int32} (hS : St M)
    (b1 : vp_in x1 32)
    (k2 : ∀ (g1 : (mI M 30 x1.toNatClampNeg) ≤ x2), none = v ∧ M = M')
    (k3 : ∀ (g1 : ¬ ((mI M 30 x1.toNatClampNeg) ≤ x2)) (g2 : ¬ (mI M 38 x1.toNatClampNeg) = 0), none = v ∧ M = M')
    (b4 : ∀ (g1 : ¬ ((mI M 30 x1.toNatClampNeg) ≤ x2)) (g2 : (mI M 38 x1.toNatClampNeg) = 0), vp_in ((120 * x1) + x2) 3840)
    (k5 : ∀ (g1 : ¬ ((mI M 30 x1.toNatClampNeg) ≤ x2)) (g2 : (mI M 38 x1.toNatClampNeg) = 0) (g3 : (mI M 31 ((120 * x1) + x2).toNatClampNeg) = 12), E K_X7_forms 60 [some (aR (some 26)), some (aI x1), some (aI x2), some (aI ((120 * x1) + x2)), none] [aI 1] M v M')
    (k6 : ∀ (g1 : ¬ ((mI M 30 x1.toNatClampNeg) ≤ x2)) (g2 : (mI M 38 x1.toNatClampNeg) = 0) (g3 : ¬ (mI M 31 ((120 * x1) + x2).toNatClampNeg) = 12) (g4 : ¬ (mI M 31 ((120 * x1) + x2).toNatClampNeg) = 13), E K_X7_forms 60 [some (aR (some 26)), some (aI x1), some (aI x2), some (aI ((120 * x1) + x2)), none] [aI 0] M v M')
    (k7 : ∀ (g1 : ¬ ((mI M 30 x1.toNatClampNeg) ≤ x2)) (g2 : (mI M 38 x1.toNatClampNeg) = 0) (g3 : ¬ (mI M 31 ((120 * x1) + x2).toNatClampNeg) = 12) (g4 : (mI M 31 ((120 * x1) + x2).toNatClampNeg) = 13), E K_X7_forms 60 [some (aR (some 26)), some (aI x1), some (aI x2), some (aI ((120 * x1) + x2)), none] [aI 1] M v M') :
    E K_X7_forms 7 [some (aR (some 26)), some (aI x1), some (aI x2), none, none] [] M v M' := by
  refine e_iload_n dX7_forms_7 rfl ?_
  refine e_aload_n dX7_forms_8 rfl ?_
  refine e_get ff_7_3 hS.l26 w838 dX7_forms_9 (w := aR (some 30)) hS.f26_3 ?_
  refine e_iload_n dX7_forms_12 rfl ?_
  refine e_iald hS.l30 (hS.b30 b1) dX7_forms_13 ?_
  refine e_icmp_ge (tgt := 255) dX7_forms_14 rfl (fun g1 => ?_) (fun g1 => ?_)
  ·
    exact e_vret rfl dX7_forms_255 (k2 g1)
  ·
    refine e_aload_n dX7_forms_17 rfl ?_
    refine e_get ff_7_14 hS.l26 w849 dX7_forms_18 (w := aR (some 38)) hS.f26_14 ?_
    refine e_iload_n dX7_forms_21 rfl ?_
    refine e_iald hS.l38 (hS.b38 b1) dX7_forms_22 ?_
    refine e_if_ne (tgt := 255) dX7_forms_23 rfl (fun g2 => ?_) (fun g2 => ?_)
    ·
      exact e_vret rfl dX7_forms_255 (k3 g1 g2)
    ·
      refine e_bipush (u := 120) dX7_forms_26 (by decide) ?_
      refine e_iload_n dX7_forms_28 rfl ?_
      refine e_imul dX7_forms_29 ?_
      refine e_iload_n dX7_forms_30 rfl ?_
      refine e_iadd dX7_forms_31 ?_
      refine e_istore_n dX7_forms_32 (Nat.le_of_ble_eq_true rfl) ?_
      show E K_X7_forms 33 [some (aR (some 26)), some (aI x1), some (aI x2), some (aI ((120 * x1) + x2)), none] [] M v M'
      refine e_aload_n dX7_forms_33 rfl ?_
      refine e_get ff_7_5 hS.l26 w840 dX7_forms_34 (w := aR (some 31)) hS.f26_5 ?_
      refine e_iload_n dX7_forms_37 rfl ?_
      refine e_iald hS.l31 (hS.b31 (b4 g1 g2)) dX7_forms_38 ?_
      refine e_bipush (u := 12) dX7_forms_39 (by decide) ?_
      refine e_icmp_eq (tgt := 55) dX7_forms_41 rfl (fun g3 => ?_) (fun g3 => ?_)
      ·
        refine e_iconst (u := 1) dX7_forms_55 (by decide) ?_
        refine e_goto (tgt := 60) dX7_forms_56 rfl ?_
        exact (k5 g1 g2 g3)
      ·
        refine e_aload_n dX7_forms_44 rfl ?_
        refine e_get ff_7_5 hS.l26 w840 dX7_forms_45 (w := aR (some 31)) hS.f26_5 ?_
        refine e_iload_n dX7_forms_48 rfl ?_
        refine e_iald hS.l31 (hS.b31 (b4 g1 g2)) dX7_forms_49 ?_
        refine e_bipush (u := 13) dX7_forms_50 (by decide) ?_
        refine e_icmp_ne (tgt := 59) dX7_forms_52 rfl (fun g4 => ?_) (fun g4 => ?_)
        ·
          refine e_iconst (u := 0) dX7_forms_59 (by decide) ?_
          exact (k6 g1 g2 g3 g4)
        ·
          refine e_iconst (u := 1) dX7_forms_55 (by decide) ?_
          refine e_goto (tgt := 60) dX7_forms_56 rfl ?_
          exact (k7 g1 g2 g3 g4)

set_option maxRecDepth 20000 in
theorem s_X7_forms_60 {M M' : AM} {v : Option AV} {x1 : Int32} {x2 : Int32} {x3 : Int32} {y50 : Int32} {M1 : AM} {M2 : AM} {M3 : AM} {x103 : Int32} {M4 : AM} (hS : St M)
    (b1 : vp_in x3 3840)
    (c2 : ∀ (g1 : (mI M 31 x3.toNatClampNeg) < 0), Ev K_X7_fault [aR (some 26), aI x1, aI 1, aI x2] M (none) M1)
    (k3 : ∀ (g1 : (mI M 31 x3.toNatClampNeg) < 0), E K_X7_forms 249 [some (aR (some 26)), some (aI x1), some (aI x2), some (aI x3), some (aI y50)] [] M1 v M')
    (c4 : ∀ (g1 : ¬ ((mI M 31 x3.toNatClampNeg) < 0)) (g2 : 18 ≤ (mI M 31 x3.toNatClampNeg)), Ev K_X7_fault [aR (some 26), aI x1, aI 1, aI x2] M (none) M2)
    (k5 : ∀ (g1 : ¬ ((mI M 31 x3.toNatClampNeg) < 0)) (g2 : 18 ≤ (mI M 31 x3.toNatClampNeg)), E K_X7_forms 249 [some (aR (some 26)), some (aI x1), some (aI x2), some (aI x3), some (aI y50)] [] M2 v M')
    (c6 : ∀ (g1 : ¬ ((mI M 31 x3.toNatClampNeg) < 0)) (g2 : ¬ (18 ≤ (mI M 31 x3.toNatClampNeg))), Ev K_X7_badArg [aR (some 26), aI x1, aI x2] M (some (aI x103)) M3)
    (k7 : ∀ (g1 : ¬ ((mI M 31 x3.toNatClampNeg) < 0)) (g2 : ¬ (18 ≤ (mI M 31 x3.toNatClampNeg))) (g4 : x103 = 0), E K_X7_forms 101 [some (aR (some 26)), some (aI x1), some (aI x2), some (aI x3), some (aI y50)] [] M3 v M')
    (c8 : ∀ (g1 : ¬ ((mI M 31 x3.toNatClampNeg) < 0)) (g2 : ¬ (18 ≤ (mI M 31 x3.toNatClampNeg))) (g4 : ¬ x103 = 0), Ev K_X7_fault [aR (some 26), aI x1, aI 1, aI x2] M3 (none) M4)
    (k9 : ∀ (g1 : ¬ ((mI M 31 x3.toNatClampNeg) < 0)) (g2 : ¬ (18 ≤ (mI M 31 x3.toNatClampNeg))) (g4 : ¬ x103 = 0), E K_X7_forms 249 [some (aR (some 26)), some (aI x1), some (aI x2), some (aI x3), some (aI y50)] [] M4 v M') :
    E K_X7_forms 60 [some (aR (some 26)), some (aI x1), some (aI x2), some (aI x3), none] [aI y50] M v M' := by
  refine e_istore dX7_forms_60 (Nat.le_of_ble_eq_true rfl) ?_
  show E K_X7_forms 62 [some (aR (some 26)), some (aI x1), some (aI x2), some (aI x3), some (aI y50)] [] M v M'
  refine e_aload_n dX7_forms_62 rfl ?_
  refine e_get ff_7_5 hS.l26 w840 dX7_forms_63 (w := aR (some 31)) hS.f26_5 ?_
  refine e_iload_n dX7_forms_66 rfl ?_
  refine e_iald hS.l31 (hS.b31 b1) dX7_forms_67 ?_
  refine e_if_lt (tgt := 91) dX7_forms_68 rfl (fun g1 => ?_) (fun g1 => ?_)
  ·
    refine e_aload_n dX7_forms_91 rfl ?_
    refine e_iload_n dX7_forms_92 rfl ?_
    refine e_iconst (u := 1) dX7_forms_93 (by decide) ?_
    refine e_iload_n dX7_forms_94 rfl ?_
    refine e_callV (As := [aI x1, aI 1, aI x2]) (rest := []) vk_X7_fault hS.l26 w1007 ⟨by decide, by decide⟩ (Nat.le_of_ble_eq_true rfl) dX7_forms_95 (c2 g1) ?_
    show E K_X7_forms 98 [some (aR (some 26)), some (aI x1), some (aI x2), some (aI x3), some (aI y50)] [] M1 v M'
    have hS_1 : St M1 := St.sh (M := M) (c2 g1).2.1 hS
    refine e_goto (tgt := 249) dX7_forms_98 rfl ?_
    exact (k3 g1)
  ·
    refine e_aload_n dX7_forms_71 rfl ?_
    refine e_get ff_7_5 hS.l26 w840 dX7_forms_72 (w := aR (some 31)) hS.f26_5 ?_
    refine e_iload_n dX7_forms_75 rfl ?_
    refine e_iald hS.l31 (hS.b31 b1) dX7_forms_76 ?_
    refine e_bipush (u := 18) dX7_forms_77 (by decide) ?_
    refine e_icmp_ge (tgt := 91) dX7_forms_79 rfl (fun g2 => ?_) (fun g2 => ?_)
    ·
      refine e_aload_n dX7_forms_91 rfl ?_
      refine e_iload_n dX7_forms_92 rfl ?_
      refine e_iconst (u := 1) dX7_forms_93 (by decide) ?_
      refine e_iload_n dX7_forms_94 rfl ?_
      refine e_callV (As := [aI x1, aI 1, aI x2]) (rest := []) vk_X7_fault hS.l26 w1007 ⟨by decide, by decide⟩ (Nat.le_of_ble_eq_true rfl) dX7_forms_95 (c4 g1 g2) ?_
      show E K_X7_forms 98 [some (aR (some 26)), some (aI x1), some (aI x2), some (aI x3), some (aI y50)] [] M2 v M'
      have hS_2 : St M2 := St.sh (M := M) (c4 g1 g2).2.1 hS
      refine e_goto (tgt := 249) dX7_forms_98 rfl ?_
      exact (k5 g1 g2)
    ·
      refine e_aload_n dX7_forms_82 rfl ?_
      refine e_iload_n dX7_forms_83 rfl ?_
      refine e_iload_n dX7_forms_84 rfl ?_
      refine e_callV (As := [aI x1, aI x2]) (rest := []) vk_X7_badArg hS.l26 w1001 ⟨by decide, by decide⟩ (Nat.le_of_ble_eq_true rfl) dX7_forms_85 (c6 g1 g2) ?_
      show E K_X7_forms 88 [some (aR (some 26)), some (aI x1), some (aI x2), some (aI x3), some (aI y50)] [aI x103] M3 v M'
      have hS_3 : St M3 := St.sh (M := M) (c6 g1 g2).2.1 hS
      refine e_if_eq (tgt := 101) dX7_forms_88 rfl (fun g4 => ?_) (fun g4 => ?_)
      ·
        exact (k7 g1 g2 g4)
      ·
        refine e_aload_n dX7_forms_91 rfl ?_
        refine e_iload_n dX7_forms_92 rfl ?_
        refine e_iconst (u := 1) dX7_forms_93 (by decide) ?_
        refine e_iload_n dX7_forms_94 rfl ?_
        refine e_callV (As := [aI x1, aI 1, aI x2]) (rest := []) vk_X7_fault hS_3.l26 w1007 ⟨by decide, by decide⟩ (Nat.le_of_ble_eq_true rfl) dX7_forms_95 (c8 g1 g2 g4) ?_
        show E K_X7_forms 98 [some (aR (some 26)), some (aI x1), some (aI x2), some (aI x3), some (aI y50)] [] M4 v M'
        have hS_4 : St M4 := St.sh (M := M3) (c8 g1 g2 g4).2.1 hS_3
        refine e_goto (tgt := 249) dX7_forms_98 rfl ?_
        exact (k9 g1 g2 g4)

set_option maxRecDepth 20000 in
theorem s_X7_forms_101 {M M' : AM} {v : Option AV} {x1 : Int32} {x2 : Int32} {x3 : Int32} {x4 : Int32} {M1 : AM} {M2 : AM} (hS : St M)
    (b1 : vp_in x3 3840)
    (c2 : ∀ (g1 : (mI M 31 x3.toNatClampNeg) = 14) (g2 : (mI M 36 x3.toNatClampNeg) < 0), Ev K_X7_fault [aR (some 26), aI x1, aI 2, aI x2] M (none) M1)
    (k3 : ∀ (g1 : (mI M 31 x3.toNatClampNeg) = 14) (g2 : (mI M 36 x3.toNatClampNeg) < 0), E K_X7_forms 249 [some (aR (some 26)), some (aI x1), some (aI x2), some (aI x3), some (aI x4)] [] M1 v M')
    (k4 : ∀ (g1 : (mI M 31 x3.toNatClampNeg) = 14) (g2 : ¬ ((mI M 36 x3.toNatClampNeg) < 0)), E K_X7_forms 132 [some (aR (some 26)), some (aI x1), some (aI x2), some (aI x3), some (aI x4)] [] M v M')
    (k5 : ∀ (g1 : ¬ (mI M 31 x3.toNatClampNeg) = 14) (g3 : ¬ (mI M 31 x3.toNatClampNeg) = 15), E K_X7_forms 132 [some (aR (some 26)), some (aI x1), some (aI x2), some (aI x3), some (aI x4)] [] M v M')
    (c6 : ∀ (g1 : ¬ (mI M 31 x3.toNatClampNeg) = 14) (g3 : (mI M 31 x3.toNatClampNeg) = 15) (g4 : (mI M 36 x3.toNatClampNeg) < 0), Ev K_X7_fault [aR (some 26), aI x1, aI 2, aI x2] M (none) M2)
    (k7 : ∀ (g1 : ¬ (mI M 31 x3.toNatClampNeg) = 14) (g3 : (mI M 31 x3.toNatClampNeg) = 15) (g4 : (mI M 36 x3.toNatClampNeg) < 0), E K_X7_forms 249 [some (aR (some 26)), some (aI x1), some (aI x2), some (aI x3), some (aI x4)] [] M2 v M')
    (k8 : ∀ (g1 : ¬ (mI M 31 x3.toNatClampNeg) = 14) (g3 : (mI M 31 x3.toNatClampNeg) = 15) (g4 : ¬ ((mI M 36 x3.toNatClampNeg) < 0)), E K_X7_forms 132 [some (aR (some 26)), some (aI x1), some (aI x2), some (aI x3), some (aI x4)] [] M v M') :
    E K_X7_forms 101 [some (aR (some 26)), some (aI x1), some (aI x2), some (aI x3), some (aI x4)] [] M v M' := by
  refine e_aload_n dX7_forms_101 rfl ?_
  refine e_get ff_7_5 hS.l26 w840 dX7_forms_102 (w := aR (some 31)) hS.f26_5 ?_
  refine e_iload_n dX7_forms_105 rfl ?_
  refine e_iald hS.l31 (hS.b31 b1) dX7_forms_106 ?_
  refine e_bipush (u := 14) dX7_forms_107 (by decide) ?_
  refine e_icmp_eq (tgt := 123) dX7_forms_109 rfl (fun g1 => ?_) (fun g1 => ?_)
  ·
    refine e_aload_n dX7_forms_123 rfl ?_
    refine e_get ff_7_12 hS.l26 w847 dX7_forms_124 (w := aR (some 36)) hS.f26_12 ?_
    refine e_iload_n dX7_forms_127 rfl ?_
    refine e_iald hS.l36 (hS.b36 b1) dX7_forms_128 ?_
    refine e_if_lt (tgt := 154) dX7_forms_129 rfl (fun g2 => ?_) (fun g2 => ?_)
    ·
      refine e_aload_n dX7_forms_154 rfl ?_
      refine e_iload_n dX7_forms_155 rfl ?_
      refine e_iconst (u := 2) dX7_forms_156 (by decide) ?_
      refine e_iload_n dX7_forms_157 rfl ?_
      refine e_callV (As := [aI x1, aI 2, aI x2]) (rest := []) vk_X7_fault hS.l26 w1007 ⟨by decide, by decide⟩ (Nat.le_of_ble_eq_true rfl) dX7_forms_158 (c2 g1 g2) ?_
      show E K_X7_forms 161 [some (aR (some 26)), some (aI x1), some (aI x2), some (aI x3), some (aI x4)] [] M1 v M'
      have hS_1 : St M1 := St.sh (M := M) (c2 g1 g2).2.1 hS
      refine e_goto (tgt := 249) dX7_forms_161 rfl ?_
      exact (k3 g1 g2)
    ·
      exact (k4 g1 g2)
  ·
    refine e_aload_n dX7_forms_112 rfl ?_
    refine e_get ff_7_5 hS.l26 w840 dX7_forms_113 (w := aR (some 31)) hS.f26_5 ?_
    refine e_iload_n dX7_forms_116 rfl ?_
    refine e_iald hS.l31 (hS.b31 b1) dX7_forms_117 ?_
    refine e_bipush (u := 15) dX7_forms_118 (by decide) ?_
    refine e_icmp_ne (tgt := 132) dX7_forms_120 rfl (fun g3 => ?_) (fun g3 => ?_)
    ·
      exact (k5 g1 g3)
    ·
      refine e_aload_n dX7_forms_123 rfl ?_
      refine e_get ff_7_12 hS.l26 w847 dX7_forms_124 (w := aR (some 36)) hS.f26_12 ?_
      refine e_iload_n dX7_forms_127 rfl ?_
      refine e_iald hS.l36 (hS.b36 b1) dX7_forms_128 ?_
      refine e_if_lt (tgt := 154) dX7_forms_129 rfl (fun g4 => ?_) (fun g4 => ?_)
      ·
        refine e_aload_n dX7_forms_154 rfl ?_
        refine e_iload_n dX7_forms_155 rfl ?_
        refine e_iconst (u := 2) dX7_forms_156 (by decide) ?_
        refine e_iload_n dX7_forms_157 rfl ?_
        refine e_callV (As := [aI x1, aI 2, aI x2]) (rest := []) vk_X7_fault hS.l26 w1007 ⟨by decide, by decide⟩ (Nat.le_of_ble_eq_true rfl) dX7_forms_158 (c6 g1 g3 g4) ?_
        show E K_X7_forms 161 [some (aR (some 26)), some (aI x1), some (aI x2), some (aI x3), some (aI x4)] [] M2 v M'
        have hS_2 : St M2 := St.sh (M := M) (c6 g1 g3 g4).2.1 hS
        refine e_goto (tgt := 249) dX7_forms_161 rfl ?_
        exact (k7 g1 g3 g4)
      ·
        exact (k8 g1 g3 g4)

set_option maxRecDepth 20000 in
theorem s_X7_forms_132 {M M' : AM} {v : Option AV} {x1 : Int32} {x2 : Int32} {x3 : Int32} {x4 : Int32} {M1 : AM} (hS : St M)
    (b1 : vp_in x3 3840)
    (k2 : ∀ (g1 : ¬ (mI M 31 x3.toNatClampNeg) = 14), E K_X7_forms 164 [some (aR (some 26)), some (aI x1), some (aI x2), some (aI x3), some (aI x4)] [] M v M')
    (k3 : ∀ (g1 : (mI M 31 x3.toNatClampNeg) = 14) (g2 : (mI M 37 x3.toNatClampNeg) < 8), E K_X7_forms 164 [some (aR (some 26)), some (aI x1), some (aI x2), some (aI x3), some (aI x4)] [] M v M')
    (c4 : ∀ (g1 : (mI M 31 x3.toNatClampNeg) = 14) (g2 : ¬ ((mI M 37 x3.toNatClampNeg) < 8)), Ev K_X7_fault [aR (some 26), aI x1, aI 2, aI x2] M (none) M1)
    (k5 : ∀ (g1 : (mI M 31 x3.toNatClampNeg) = 14) (g2 : ¬ ((mI M 37 x3.toNatClampNeg) < 8)), E K_X7_forms 249 [some (aR (some 26)), some (aI x1), some (aI x2), some (aI x3), some (aI x4)] [] M1 v M') :
    E K_X7_forms 132 [some (aR (some 26)), some (aI x1), some (aI x2), some (aI x3), some (aI x4)] [] M v M' := by
  refine e_aload_n dX7_forms_132 rfl ?_
  refine e_get ff_7_5 hS.l26 w840 dX7_forms_133 (w := aR (some 31)) hS.f26_5 ?_
  refine e_iload_n dX7_forms_136 rfl ?_
  refine e_iald hS.l31 (hS.b31 b1) dX7_forms_137 ?_
  refine e_bipush (u := 14) dX7_forms_138 (by decide) ?_
  refine e_icmp_ne (tgt := 164) dX7_forms_140 rfl (fun g1 => ?_) (fun g1 => ?_)
  ·
    exact (k2 g1)
  ·
    refine e_aload_n dX7_forms_143 rfl ?_
    refine e_get ff_7_13 hS.l26 w848 dX7_forms_144 (w := aR (some 37)) hS.f26_13 ?_
    refine e_iload_n dX7_forms_147 rfl ?_
    refine e_iald hS.l37 (hS.b37 b1) dX7_forms_148 ?_
    refine e_bipush (u := 8) dX7_forms_149 (by decide) ?_
    refine e_icmp_lt (tgt := 164) dX7_forms_151 rfl (fun g2 => ?_) (fun g2 => ?_)
    ·
      exact (k3 g1 g2)
    ·
      refine e_aload_n dX7_forms_154 rfl ?_
      refine e_iload_n dX7_forms_155 rfl ?_
      refine e_iconst (u := 2) dX7_forms_156 (by decide) ?_
      refine e_iload_n dX7_forms_157 rfl ?_
      refine e_callV (As := [aI x1, aI 2, aI x2]) (rest := []) vk_X7_fault hS.l26 w1007 ⟨by decide, by decide⟩ (Nat.le_of_ble_eq_true rfl) dX7_forms_158 (c4 g1 g2) ?_
      show E K_X7_forms 161 [some (aR (some 26)), some (aI x1), some (aI x2), some (aI x3), some (aI x4)] [] M1 v M'
      have hS_1 : St M1 := St.sh (M := M) (c4 g1 g2).2.1 hS
      refine e_goto (tgt := 249) dX7_forms_161 rfl ?_
      exact (k5 g1 g2)

set_option maxRecDepth 20000 in
theorem s_X7_forms_164 {M M' : AM} {v : Option AV} {x1 : Int32} {x2 : Int32} {x3 : Int32} {x4 : Int32} {M1 : AM} (hS : St M)
    (k1 : ∀ (g1 : x4 = 0), E K_X7_forms 205 [some (aR (some 26)), some (aI x1), some (aI x2), some (aI x3), some (aI x4)] [] M v M')
    (b2 : ∀ (g1 : ¬ x4 = 0), vp_in x3 3840)
    (b3 : ∀ (g1 : ¬ x4 = 0), vp_in ((120 * x1) + ((mJ M 32 x3.toNatClampNeg : Int64).toInt32)) 3840)
    (k4 : ∀ (g1 : ¬ x4 = 0) (g2 : (mI M 35 ((120 * x1) + ((mJ M 32 x3.toNatClampNeg : Int64).toInt32)).toNatClampNeg) = (mI M 35 x3.toNatClampNeg)), E K_X7_forms 205 [some (aR (some 26)), some (aI x1), some (aI x2), some (aI x3), some (aI x4)] [] M v M')
    (c5 : ∀ (g1 : ¬ x4 = 0) (g2 : ¬ (mI M 35 ((120 * x1) + ((mJ M 32 x3.toNatClampNeg : Int64).toInt32)).toNatClampNeg) = (mI M 35 x3.toNatClampNeg)), Ev K_X7_fault [aR (some 26), aI x1, aI 3, aI x2] M (none) M1)
    (k6 : ∀ (g1 : ¬ x4 = 0) (g2 : ¬ (mI M 35 ((120 * x1) + ((mJ M 32 x3.toNatClampNeg : Int64).toInt32)).toNatClampNeg) = (mI M 35 x3.toNatClampNeg)), E K_X7_forms 249 [some (aR (some 26)), some (aI x1), some (aI x2), some (aI x3), some (aI x4)] [] M1 v M') :
    E K_X7_forms 164 [some (aR (some 26)), some (aI x1), some (aI x2), some (aI x3), some (aI x4)] [] M v M' := by
  refine e_iload dX7_forms_164 rfl ?_
  refine e_if_eq (tgt := 205) dX7_forms_166 rfl (fun g1 => ?_) (fun g1 => ?_)
  ·
    exact (k1 g1)
  ·
    refine e_aload_n dX7_forms_169 rfl ?_
    refine e_get ff_7_11 hS.l26 w846 dX7_forms_170 (w := aR (some 35)) hS.f26_11 ?_
    refine e_bipush (u := 120) dX7_forms_173 (by decide) ?_
    refine e_iload_n dX7_forms_175 rfl ?_
    refine e_imul dX7_forms_176 ?_
    refine e_aload_n dX7_forms_177 rfl ?_
    refine e_get ff_7_6 hS.l26 w841 dX7_forms_178 (w := aR (some 32)) hS.f26_6 ?_
    refine e_iload_n dX7_forms_181 rfl ?_
    refine e_lald hS.l32 (hS.b32 (b2 g1)) dX7_forms_182 ?_
    refine e_l2i dX7_forms_183 ?_
    refine e_iadd dX7_forms_184 ?_
    refine e_iald hS.l35 (hS.b35 (b3 g1)) dX7_forms_185 ?_
    refine e_aload_n dX7_forms_186 rfl ?_
    refine e_get ff_7_11 hS.l26 w846 dX7_forms_187 (w := aR (some 35)) hS.f26_11 ?_
    refine e_iload_n dX7_forms_190 rfl ?_
    refine e_iald hS.l35 (hS.b35 (b2 g1)) dX7_forms_191 ?_
    refine e_icmp_eq (tgt := 205) dX7_forms_192 rfl (fun g2 => ?_) (fun g2 => ?_)
    ·
      exact (k4 g1 g2)
    ·
      refine e_aload_n dX7_forms_195 rfl ?_
      refine e_iload_n dX7_forms_196 rfl ?_
      refine e_iconst (u := 3) dX7_forms_197 (by decide) ?_
      refine e_iload_n dX7_forms_198 rfl ?_
      refine e_callV (As := [aI x1, aI 3, aI x2]) (rest := []) vk_X7_fault hS.l26 w1007 ⟨by decide, by decide⟩ (Nat.le_of_ble_eq_true rfl) dX7_forms_199 (c5 g1 g2) ?_
      show E K_X7_forms 202 [some (aR (some 26)), some (aI x1), some (aI x2), some (aI x3), some (aI x4)] [] M1 v M'
      have hS_1 : St M1 := St.sh (M := M) (c5 g1 g2).2.1 hS
      refine e_goto (tgt := 249) dX7_forms_202 rfl ?_
      exact (k6 g1 g2)

set_option maxRecDepth 20000 in
theorem s_X7_forms_205 {M M' : AM} {v : Option AV} {x1 : Int32} {x2 : Int32} {x3 : Int32} {x4 : Int32} {M1 : AM} {M2 : AM} (hS : St M)
    (b1 : vp_in x3 3840)
    (k2 : ∀ (g1 : ¬ (mI M 31 x3.toNatClampNeg) = 16), E K_X7_forms 249 [some (aR (some 26)), some (aI x1), some (aI x2), some (aI x3), some (aI x4)] [] M v M')
    (c3 : ∀ (g1 : (mI M 31 x3.toNatClampNeg) = 16) (g2 : (mJ M 32 x3.toNatClampNeg) < 0), Ev K_X7_fault [aR (some 26), aI x1, aI 4, aI x2] M (none) M1)
    (k4 : ∀ (g1 : (mI M 31 x3.toNatClampNeg) = 16) (g2 : (mJ M 32 x3.toNatClampNeg) < 0), E K_X7_forms 249 [some (aR (some 26)), some (aI x1), some (aI x2), some (aI x3), some (aI x4)] [] M1 v M')
    (k5 : ∀ (g1 : (mI M 31 x3.toNatClampNeg) = 16) (g2 : ¬ ((mJ M 32 x3.toNatClampNeg) < 0)) (g3 : (mJ M 32 x3.toNatClampNeg) < ((mI M 26 4 : Int32).toInt64)), E K_X7_forms 249 [some (aR (some 26)), some (aI x1), some (aI x2), some (aI x3), some (aI x4)] [] M v M')
    (c6 : ∀ (g1 : (mI M 31 x3.toNatClampNeg) = 16) (g2 : ¬ ((mJ M 32 x3.toNatClampNeg) < 0)) (g3 : ¬ ((mJ M 32 x3.toNatClampNeg) < ((mI M 26 4 : Int32).toInt64))), Ev K_X7_fault [aR (some 26), aI x1, aI 4, aI x2] M (none) M2)
    (k7 : ∀ (g1 : (mI M 31 x3.toNatClampNeg) = 16) (g2 : ¬ ((mJ M 32 x3.toNatClampNeg) < 0)) (g3 : ¬ ((mJ M 32 x3.toNatClampNeg) < ((mI M 26 4 : Int32).toInt64))), E K_X7_forms 249 [some (aR (some 26)), some (aI x1), some (aI x2), some (aI x3), some (aI x4)] [] M2 v M') :
    E K_X7_forms 205 [some (aR (some 26)), some (aI x1), some (aI x2), some (aI x3), some (aI x4)] [] M v M' := by
  refine e_aload_n dX7_forms_205 rfl ?_
  refine e_get ff_7_5 hS.l26 w840 dX7_forms_206 (w := aR (some 31)) hS.f26_5 ?_
  refine e_iload_n dX7_forms_209 rfl ?_
  refine e_iald hS.l31 (hS.b31 b1) dX7_forms_210 ?_
  refine e_bipush (u := 16) dX7_forms_211 (by decide) ?_
  refine e_icmp_ne (tgt := 249) dX7_forms_213 rfl (fun g1 => ?_) (fun g1 => ?_)
  ·
    exact (k2 g1)
  ·
    refine e_aload_n dX7_forms_216 rfl ?_
    refine e_get ff_7_6 hS.l26 w841 dX7_forms_217 (w := aR (some 32)) hS.f26_6 ?_
    refine e_iload_n dX7_forms_220 rfl ?_
    refine e_lald hS.l32 (hS.b32 b1) dX7_forms_221 ?_
    refine e_lconst (u := 0) dX7_forms_222 (by decide) ?_
    refine e_lcmp_lt (tgt := 242) dX7_forms_223 dX7_forms_224 rfl (fun g2 => ?_) (fun g2 => ?_)
    ·
      refine e_aload_n dX7_forms_242 rfl ?_
      refine e_iload_n dX7_forms_243 rfl ?_
      refine e_iconst (u := 4) dX7_forms_244 (by decide) ?_
      refine e_iload_n dX7_forms_245 rfl ?_
      refine e_callV (As := [aI x1, aI 4, aI x2]) (rest := []) vk_X7_fault hS.l26 w1007 ⟨by decide, by decide⟩ (Nat.le_of_ble_eq_true rfl) dX7_forms_246 (c3 g1 g2) ?_
      show E K_X7_forms 249 [some (aR (some 26)), some (aI x1), some (aI x2), some (aI x3), some (aI x4)] [] M1 v M'
      have hS_1 : St M1 := St.sh (M := M) (c3 g1 g2).2.1 hS
      exact (k4 g1 g2)
    ·
      refine e_aload_n dX7_forms_227 rfl ?_
      refine e_get ff_7_6 hS.l26 w841 dX7_forms_228 (w := aR (some 32)) hS.f26_6 ?_
      refine e_iload_n dX7_forms_231 rfl ?_
      refine e_lald hS.l32 (hS.b32 b1) dX7_forms_232 ?_
      refine e_aload_n dX7_forms_233 rfl ?_
      refine e_get ff_7_4 hS.l26 w839 dX7_forms_234 (w := aI (mI M 26 4)) rfl ?_
      refine e_i2l dX7_forms_237 ?_
      refine e_lcmp_lt (tgt := 249) dX7_forms_238 dX7_forms_239 rfl (fun g3 => ?_) (fun g3 => ?_)
      ·
        exact (k5 g1 g2 g3)
      ·
        refine e_aload_n dX7_forms_242 rfl ?_
        refine e_iload_n dX7_forms_243 rfl ?_
        refine e_iconst (u := 4) dX7_forms_244 (by decide) ?_
        refine e_iload_n dX7_forms_245 rfl ?_
        refine e_callV (As := [aI x1, aI 4, aI x2]) (rest := []) vk_X7_fault hS.l26 w1007 ⟨by decide, by decide⟩ (Nat.le_of_ble_eq_true rfl) dX7_forms_246 (c6 g1 g2 g3) ?_
        show E K_X7_forms 249 [some (aR (some 26)), some (aI x1), some (aI x2), some (aI x3), some (aI x4)] [] M2 v M'
        have hS_2 : St M2 := St.sh (M := M) (c6 g1 g2 g3).2.1 hS
        exact (k7 g1 g2 g3)

set_option maxRecDepth 20000 in
theorem s_X7_forms_249 {M M' : AM} {v : Option AV} {x1 : Int32} {x2 : Int32} {x3 : Int32} {x4 : Int32} (hS : St M)
    (k1 : E K_X7_forms 7 [some (aR (some 26)), some (aI x1), some (aI (x2 + 1)), some (aI x3), some (aI x4)] [] M v M') :
    E K_X7_forms 249 [some (aR (some 26)), some (aI x1), some (aI x2), some (aI x3), some (aI x4)] [] M v M' := by
  refine e_iinc dX7_forms_249 rfl ?_
  show E K_X7_forms 252 [some (aR (some 26)), some (aI x1), some (aI (x2 + 1)), some (aI x3), some (aI x4)] [] M v M'
  refine e_goto (tgt := 7) dX7_forms_252 rfl ?_
  exact k1

set_option maxRecDepth 20000 in
theorem s_X7_heights_0 {M M' : AM} {v : Option AV} {x1 : Int32} (hS : St M)
    (k1 : E K_X7_heights 2 [some (aR (some 26)), some (aI x1), some (aI 0), none, none, none, none, none, none, none] [] M v M') :
    Ev K_X7_heights [aR (some 26), aI x1] M v M' := by
  refine ⟨Nat.le_of_ble_eq_true rfl, ?_⟩
  show E K_X7_heights 0 [some (aR (some 26)), some (aI x1), none, none, none, none, none, none, none, none] [] M v M'
  refine e_iconst (u := 0) dX7_heights_0 (by decide) ?_
  refine e_istore_n dX7_heights_1 (Nat.le_of_ble_eq_true rfl) ?_
  show E K_X7_heights 2 [some (aR (some 26)), some (aI x1), some (aI 0), none, none, none, none, none, none, none] [] M v M'
  exact k1

set_option maxRecDepth 20000 in
theorem s_X7_heights_2 {M M' : AM} {v : Option AV} {x1 : Int32} {x2 : Int32} {M1 : AM} (hS : St M)
    (b1 : vp_in x1 32)
    (b2 : ∀ (g1 : (mI M 30 x1.toNatClampNeg) ≤ x2) (g2 : ¬ (mI M 30 x1.toNatClampNeg) = 0), vp_in (120 * x1) 3840)
    (k3 : ∀ (g1 : (mI M 30 x1.toNatClampNeg) ≤ x2) (g2 : ¬ (mI M 30 x1.toNatClampNeg) = 0), E K_X7_heights 60 [some (aR (some 26)), some (aI x1), some (aI 0), none, none, none, none, none, none, none] [] (wrI M 34 (120 * x1).toNatClampNeg 0) v M')
    (c4 : ∀ (g1 : (mI M 30 x1.toNatClampNeg) ≤ x2) (g2 : (mI M 30 x1.toNatClampNeg) = 0), Ev K_X7_fault [aR (some 26), aI x1, aI 9, aI 0] M (none) M1)
    (k5 : ∀ (g1 : (mI M 30 x1.toNatClampNeg) ≤ x2) (g2 : (mI M 30 x1.toNatClampNeg) = 0), none = v ∧ M1 = M')
    (b6 : ∀ (g1 : ¬ ((mI M 30 x1.toNatClampNeg) ≤ x2)), vp_in ((120 * x1) + x2) 3840)
    (k7 : ∀ (g1 : ¬ ((mI M 30 x1.toNatClampNeg) ≤ x2)), E K_X7_heights 2 [some (aR (some 26)), some (aI x1), some (aI (x2 + 1)), none, none, none, none, none, none, none] [] (wrI M 34 ((120 * x1) + x2).toNatClampNeg (-1)) v M') :
    E K_X7_heights 2 [some (aR (some 26)), some (aI x1), some (aI x2), none, none, none, none, none, none, none] [] M v M' := by
  refine e_iload_n dX7_heights_2 rfl ?_
  refine e_aload_n dX7_heights_3 rfl ?_
  refine e_get ff_7_3 hS.l26 w838 dX7_heights_4 (w := aR (some 30)) hS.f26_3 ?_
  refine e_iload_n dX7_heights_7 rfl ?_
  refine e_iald hS.l30 (hS.b30 b1) dX7_heights_8 ?_
  refine e_icmp_ge (tgt := 30) dX7_heights_9 rfl (fun g1 => ?_) (fun g1 => ?_)
  ·
    refine e_aload_n dX7_heights_30 rfl ?_
    refine e_get ff_7_3 hS.l26 w838 dX7_heights_31 (w := aR (some 30)) hS.f26_3 ?_
    refine e_iload_n dX7_heights_34 rfl ?_
    refine e_iald hS.l30 (hS.b30 b1) dX7_heights_35 ?_
    refine e_if_ne (tgt := 48) dX7_heights_36 rfl (fun g2 => ?_) (fun g2 => ?_)
    ·
      refine e_aload_n dX7_heights_48 rfl ?_
      refine e_get ff_7_10 hS.l26 w845 dX7_heights_49 (w := aR (some 34)) hS.f26_10 ?_
      refine e_bipush (u := 120) dX7_heights_52 (by decide) ?_
      refine e_iload_n dX7_heights_54 rfl ?_
      refine e_imul dX7_heights_55 ?_
      refine e_iconst (u := 0) dX7_heights_56 (by decide) ?_
      refine e_iast hS.l34 (hS.b34 (b2 g1 g2)) dX7_heights_57 ?_
      refine e_iconst (u := 0) dX7_heights_58 (by decide) ?_
      refine e_istore_n dX7_heights_59 (Nat.le_of_ble_eq_true rfl) ?_
      show E K_X7_heights 60 [some (aR (some 26)), some (aI x1), some (aI 0), none, none, none, none, none, none, none] [] (wrI M 34 (120 * x1).toNatClampNeg 0) v M'
      exact (k3 g1 g2)
    ·
      refine e_aload_n dX7_heights_39 rfl ?_
      refine e_iload_n dX7_heights_40 rfl ?_
      refine e_bipush (u := 9) dX7_heights_41 (by decide) ?_
      refine e_iconst (u := 0) dX7_heights_43 (by decide) ?_
      refine e_callV (As := [aI x1, aI 9, aI 0]) (rest := []) vk_X7_fault hS.l26 w1007 ⟨by decide, by decide⟩ (Nat.le_of_ble_eq_true rfl) dX7_heights_44 (c4 g1 g2) ?_
      show E K_X7_heights 47 [some (aR (some 26)), some (aI x1), some (aI x2), none, none, none, none, none, none, none] [] M1 v M'
      have hS_1 : St M1 := St.sh (M := M) (c4 g1 g2).2.1 hS
      exact e_vret rfl dX7_heights_47 (k5 g1 g2)
  ·
    refine e_aload_n dX7_heights_12 rfl ?_
    refine e_get ff_7_10 hS.l26 w845 dX7_heights_13 (w := aR (some 34)) hS.f26_10 ?_
    refine e_bipush (u := 120) dX7_heights_16 (by decide) ?_
    refine e_iload_n dX7_heights_18 rfl ?_
    refine e_imul dX7_heights_19 ?_
    refine e_iload_n dX7_heights_20 rfl ?_
    refine e_iadd dX7_heights_21 ?_
    refine e_iconst (u := (-1)) dX7_heights_22 (by decide) ?_
    refine e_iast hS.l34 (hS.b34 (b6 g1)) dX7_heights_23 ?_
    refine e_iinc dX7_heights_24 rfl ?_
    show E K_X7_heights 27 [some (aR (some 26)), some (aI x1), some (aI (x2 + 1)), none, none, none, none, none, none, none] [] (wrI M 34 ((120 * x1) + x2).toNatClampNeg (-1)) v M'
    refine e_goto (tgt := 2) dX7_heights_27 rfl ?_
    exact (k7 g1)

set_option maxRecDepth 20000 in
theorem s_X7_heights_60 {M M' : AM} {v : Option AV} {x1 : Int32} {x2 : Int32} {M1 : AM} {x104 : Int32} {M2 : AM} {x105 : Int32} (hS : St M)
    (b1 : vp_in x1 32)
    (k2 : ∀ (g1 : (mI M 30 x1.toNatClampNeg) ≤ x2), none = v ∧ M = M')
    (k3 : ∀ (g1 : ¬ ((mI M 30 x1.toNatClampNeg) ≤ x2)) (g2 : ¬ (mI M 38 x1.toNatClampNeg) = 0), none = v ∧ M = M')
    (b4 : ∀ (g1 : ¬ ((mI M 30 x1.toNatClampNeg) ≤ x2)) (g2 : (mI M 38 x1.toNatClampNeg) = 0), vp_in ((120 * x1) + x2) 3840)
    (k5 : ∀ (g1 : ¬ ((mI M 30 x1.toNatClampNeg) ≤ x2)) (g2 : (mI M 38 x1.toNatClampNeg) = 0) (g3 : (mI M 34 ((120 * x1) + x2).toNatClampNeg) < 0), E K_X7_heights 376 [some (aR (some 26)), some (aI x1), some (aI x2), some (aI ((120 * x1) + x2)), some (aI (mI M 34 ((120 * x1) + x2).toNatClampNeg)), none, none, none, none, none] [] M v M')
    (c6 : ∀ (g1 : ¬ ((mI M 30 x1.toNatClampNeg) ≤ x2)) (g2 : (mI M 38 x1.toNatClampNeg) = 0) (g3 : ¬ ((mI M 34 ((120 * x1) + x2).toNatClampNeg) < 0)), Ev K_X7_grows [aR (some 26), aI x1, aI ((120 * x1) + x2)] M (some (aI x104)) M1)
    (c7 : ∀ (g1 : ¬ ((mI M 30 x1.toNatClampNeg) ≤ x2)) (g2 : (mI M 38 x1.toNatClampNeg) = 0) (g3 : ¬ ((mI M 34 ((120 * x1) + x2).toNatClampNeg) < 0)), Ev K_X7_onward [aR (some 26), aI x1, aI x2] M1 (some (aI x105)) M2)
    (k8 : ∀ (g1 : ¬ ((mI M 30 x1.toNatClampNeg) ≤ x2)) (g2 : (mI M 38 x1.toNatClampNeg) = 0) (g3 : ¬ ((mI M 34 ((120 * x1) + x2).toNatClampNeg) < 0)) (g6 : (mI M2 31 ((120 * x1) + x2).toNatClampNeg) = 12), E K_X7_heights 145 [some (aR (some 26)), some (aI x1), some (aI x2), some (aI ((120 * x1) + x2)), some (aI (mI M 34 ((120 * x1) + x2).toNatClampNeg)), some (aI ((mI M 34 ((120 * x1) + x2).toNatClampNeg) + x104)), some (aI x105), none, none, none] [aI 1] M2 v M')
    (k9 : ∀ (g1 : ¬ ((mI M 30 x1.toNatClampNeg) ≤ x2)) (g2 : (mI M 38 x1.toNatClampNeg) = 0) (g3 : ¬ ((mI M 34 ((120 * x1) + x2).toNatClampNeg) < 0)) (g6 : ¬ (mI M2 31 ((120 * x1) + x2).toNatClampNeg) = 12) (g7 : ¬ (mI M2 31 ((120 * x1) + x2).toNatClampNeg) = 13), E K_X7_heights 145 [some (aR (some 26)), some (aI x1), some (aI x2), some (aI ((120 * x1) + x2)), some (aI (mI M 34 ((120 * x1) + x2).toNatClampNeg)), some (aI ((mI M 34 ((120 * x1) + x2).toNatClampNeg) + x104)), some (aI x105), none, none, none] [aI 0] M2 v M')
    (k10 : ∀ (g1 : ¬ ((mI M 30 x1.toNatClampNeg) ≤ x2)) (g2 : (mI M 38 x1.toNatClampNeg) = 0) (g3 : ¬ ((mI M 34 ((120 * x1) + x2).toNatClampNeg) < 0)) (g6 : ¬ (mI M2 31 ((120 * x1) + x2).toNatClampNeg) = 12) (g7 : (mI M2 31 ((120 * x1) + x2).toNatClampNeg) = 13), E K_X7_heights 145 [some (aR (some 26)), some (aI x1), some (aI x2), some (aI ((120 * x1) + x2)), some (aI (mI M 34 ((120 * x1) + x2).toNatClampNeg)), some (aI ((mI M 34 ((120 * x1) + x2).toNatClampNeg) + x104)), some (aI x105), none, none, none] [aI 1] M2 v M') :
    E K_X7_heights 60 [some (aR (some 26)), some (aI x1), some (aI x2), none, none, none, none, none, none, none] [] M v M' := by
  refine e_iload_n dX7_heights_60 rfl ?_
  refine e_aload_n dX7_heights_61 rfl ?_
  refine e_get ff_7_3 hS.l26 w838 dX7_heights_62 (w := aR (some 30)) hS.f26_3 ?_
  refine e_iload_n dX7_heights_65 rfl ?_
  refine e_iald hS.l30 (hS.b30 b1) dX7_heights_66 ?_
  refine e_icmp_ge (tgt := 382) dX7_heights_67 rfl (fun g1 => ?_) (fun g1 => ?_)
  ·
    exact e_vret rfl dX7_heights_382 (k2 g1)
  ·
    refine e_aload_n dX7_heights_70 rfl ?_
    refine e_get ff_7_14 hS.l26 w849 dX7_heights_71 (w := aR (some 38)) hS.f26_14 ?_
    refine e_iload_n dX7_heights_74 rfl ?_
    refine e_iald hS.l38 (hS.b38 b1) dX7_heights_75 ?_
    refine e_if_ne (tgt := 382) dX7_heights_76 rfl (fun g2 => ?_) (fun g2 => ?_)
    ·
      exact e_vret rfl dX7_heights_382 (k3 g1 g2)
    ·
      refine e_bipush (u := 120) dX7_heights_79 (by decide) ?_
      refine e_iload_n dX7_heights_81 rfl ?_
      refine e_imul dX7_heights_82 ?_
      refine e_iload_n dX7_heights_83 rfl ?_
      refine e_iadd dX7_heights_84 ?_
      refine e_istore_n dX7_heights_85 (Nat.le_of_ble_eq_true rfl) ?_
      show E K_X7_heights 86 [some (aR (some 26)), some (aI x1), some (aI x2), some (aI ((120 * x1) + x2)), none, none, none, none, none, none] [] M v M'
      refine e_aload_n dX7_heights_86 rfl ?_
      refine e_get ff_7_10 hS.l26 w845 dX7_heights_87 (w := aR (some 34)) hS.f26_10 ?_
      refine e_iload_n dX7_heights_90 rfl ?_
      refine e_iald hS.l34 (hS.b34 (b4 g1 g2)) dX7_heights_91 ?_
      refine e_istore dX7_heights_92 (Nat.le_of_ble_eq_true rfl) ?_
      show E K_X7_heights 94 [some (aR (some 26)), some (aI x1), some (aI x2), some (aI ((120 * x1) + x2)), some (aI (mI M 34 ((120 * x1) + x2).toNatClampNeg)), none, none, none, none, none] [] M v M'
      refine e_iload dX7_heights_94 rfl ?_
      refine e_if_lt (tgt := 376) dX7_heights_96 rfl (fun g3 => ?_) (fun g3 => ?_)
      ·
        exact (k5 g1 g2 g3)
      ·
        refine e_iload dX7_heights_99 rfl ?_
        refine e_aload_n dX7_heights_101 rfl ?_
        refine e_iload_n dX7_heights_102 rfl ?_
        refine e_iload_n dX7_heights_103 rfl ?_
        refine e_callV (As := [aI x1, aI ((120 * x1) + x2)]) (rest := [aI (mI M 34 ((120 * x1) + x2).toNatClampNeg)]) vk_X7_grows hS.l26 w1015 ⟨by decide, by decide⟩ (Nat.le_of_ble_eq_true rfl) dX7_heights_104 (c6 g1 g2 g3) ?_
        show E K_X7_heights 107 [some (aR (some 26)), some (aI x1), some (aI x2), some (aI ((120 * x1) + x2)), some (aI (mI M 34 ((120 * x1) + x2).toNatClampNeg)), none, none, none, none, none] [aI x104, aI (mI M 34 ((120 * x1) + x2).toNatClampNeg)] M1 v M'
        have hS_1 : St M1 := St.sh (M := M) (c6 g1 g2 g3).2.1 hS
        refine e_iadd dX7_heights_107 ?_
        refine e_istore dX7_heights_108 (Nat.le_of_ble_eq_true rfl) ?_
        show E K_X7_heights 110 [some (aR (some 26)), some (aI x1), some (aI x2), some (aI ((120 * x1) + x2)), some (aI (mI M 34 ((120 * x1) + x2).toNatClampNeg)), some (aI ((mI M 34 ((120 * x1) + x2).toNatClampNeg) + x104)), none, none, none, none] [] M1 v M'
        refine e_aload_n dX7_heights_110 rfl ?_
        refine e_iload_n dX7_heights_111 rfl ?_
        refine e_iload_n dX7_heights_112 rfl ?_
        refine e_callV (As := [aI x1, aI x2]) (rest := []) vk_X7_onward hS_1.l26 w1019 ⟨by decide, by decide⟩ (Nat.le_of_ble_eq_true rfl) dX7_heights_113 (c7 g1 g2 g3) ?_
        show E K_X7_heights 116 [some (aR (some 26)), some (aI x1), some (aI x2), some (aI ((120 * x1) + x2)), some (aI (mI M 34 ((120 * x1) + x2).toNatClampNeg)), some (aI ((mI M 34 ((120 * x1) + x2).toNatClampNeg) + x104)), none, none, none, none] [aI x105] M2 v M'
        have hS_2 : St M2 := St.sh (M := M1) (c7 g1 g2 g3).2.1 hS_1
        refine e_istore dX7_heights_116 (Nat.le_of_ble_eq_true rfl) ?_
        show E K_X7_heights 118 [some (aR (some 26)), some (aI x1), some (aI x2), some (aI ((120 * x1) + x2)), some (aI (mI M 34 ((120 * x1) + x2).toNatClampNeg)), some (aI ((mI M 34 ((120 * x1) + x2).toNatClampNeg) + x104)), some (aI x105), none, none, none] [] M2 v M'
        refine e_aload_n dX7_heights_118 rfl ?_
        refine e_get ff_7_5 hS_2.l26 w840 dX7_heights_119 (w := aR (some 31)) hS_2.f26_5 ?_
        refine e_iload_n dX7_heights_122 rfl ?_
        refine e_iald hS_2.l31 (hS_2.b31 (b4 g1 g2)) dX7_heights_123 ?_
        refine e_bipush (u := 12) dX7_heights_124 (by decide) ?_
        refine e_icmp_eq (tgt := 140) dX7_heights_126 rfl (fun g6 => ?_) (fun g6 => ?_)
        ·
          refine e_iconst (u := 1) dX7_heights_140 (by decide) ?_
          refine e_goto (tgt := 145) dX7_heights_141 rfl ?_
          exact (k8 g1 g2 g3 g6)
        ·
          refine e_aload_n dX7_heights_129 rfl ?_
          refine e_get ff_7_5 hS_2.l26 w840 dX7_heights_130 (w := aR (some 31)) hS_2.f26_5 ?_
          refine e_iload_n dX7_heights_133 rfl ?_
          refine e_iald hS_2.l31 (hS_2.b31 (b4 g1 g2)) dX7_heights_134 ?_
          refine e_bipush (u := 13) dX7_heights_135 (by decide) ?_
          refine e_icmp_ne (tgt := 144) dX7_heights_137 rfl (fun g7 => ?_) (fun g7 => ?_)
          ·
            refine e_iconst (u := 0) dX7_heights_144 (by decide) ?_
            exact (k9 g1 g2 g3 g6 g7)
          ·
            refine e_iconst (u := 1) dX7_heights_140 (by decide) ?_
            refine e_goto (tgt := 145) dX7_heights_141 rfl ?_
            exact (k10 g1 g2 g3 g6 g7)

set_option maxRecDepth 20000 in
theorem s_X7_heights_145 {M M' : AM} {v : Option AV} {x1 : Int32} {x2 : Int32} {x3 : Int32} {x4 : Int32} {x5 : Int32} {x6 : Int32} {y50 : Int32} (hS : St M)
    (k1 : ∀ (g1 : y50 = 0), E K_X7_heights 163 [some (aR (some 26)), some (aI x1), some (aI x2), some (aI x3), some (aI x4), some (aI x5), some (aI x6), some (aI y50), none, none] [aI (-1)] M v M')
    (b2 : ∀ (g1 : ¬ y50 = 0), vp_in x3 3840)
    (k3 : ∀ (g1 : ¬ y50 = 0), E K_X7_heights 163 [some (aR (some 26)), some (aI x1), some (aI x2), some (aI x3), some (aI x4), some (aI x5), some (aI x6), some (aI y50), none, none] [aI ((mJ M 32 x3.toNatClampNeg : Int64).toInt32)] M v M') :
    E K_X7_heights 145 [some (aR (some 26)), some (aI x1), some (aI x2), some (aI x3), some (aI x4), some (aI x5), some (aI x6), none, none, none] [aI y50] M v M' := by
  refine e_istore dX7_heights_145 (Nat.le_of_ble_eq_true rfl) ?_
  show E K_X7_heights 147 [some (aR (some 26)), some (aI x1), some (aI x2), some (aI x3), some (aI x4), some (aI x5), some (aI x6), some (aI y50), none, none] [] M v M'
  refine e_iload dX7_heights_147 rfl ?_
  refine e_if_eq (tgt := 162) dX7_heights_149 rfl (fun g1 => ?_) (fun g1 => ?_)
  ·
    refine e_iconst (u := (-1)) dX7_heights_162 (by decide) ?_
    exact (k1 g1)
  ·
    refine e_aload_n dX7_heights_152 rfl ?_
    refine e_get ff_7_6 hS.l26 w841 dX7_heights_153 (w := aR (some 32)) hS.f26_6 ?_
    refine e_iload_n dX7_heights_156 rfl ?_
    refine e_lald hS.l32 (hS.b32 (b2 g1)) dX7_heights_157 ?_
    refine e_l2i dX7_heights_158 ?_
    refine e_goto (tgt := 163) dX7_heights_159 rfl ?_
    exact (k3 g1)

set_option maxRecDepth 20000 in
theorem s_X7_heights_163 {M M' : AM} {v : Option AV} {x1 : Int32} {x2 : Int32} {x3 : Int32} {x4 : Int32} {x5 : Int32} {x6 : Int32} {x7 : Int32} {y50 : Int32} {M1 : AM} {x105 : Int32} {M2 : AM} {x109 : Int32} {M3 : AM} {x114 : Int32} (hS : St M)
    (b1 : ∀ (g1 : x6 < 0) (g2 : x7 = 0), vp_in x3 3840)
    (k2 : ∀ (g1 : x6 < 0) (g2 : x7 = 0) (g3 : ¬ (mI M 31 x3.toNatClampNeg) = 15), E K_X7_heights 236 [some (aR (some 26)), some (aI x1), some (aI x2), some (aI x3), some (aI x4), some (aI x5), some (aI x6), some (aI x7), some (aI y50), none] [aI 0] M v M')
    (b3 : ∀ (g1 : x6 < 0) (g2 : x7 = 0) (g3 : (mI M 31 x3.toNatClampNeg) = 15), vp_in ((120 * x1) + (mI M 36 x3.toNatClampNeg)) 3840)
    (k4 : ∀ (g1 : x6 < 0) (g2 : x7 = 0) (g3 : (mI M 31 x3.toNatClampNeg) = 15) (g4 : (mI M 34 ((120 * x1) + (mI M 36 x3.toNatClampNeg)).toNatClampNeg) = x4), E K_X7_heights 236 [some (aR (some 26)), some (aI x1), some (aI x2), some (aI x3), some (aI x4), some (aI x5), some (aI x6), some (aI x7), some (aI y50), none] [aI 0] M v M')
    (k5 : ∀ (g1 : x6 < 0) (g2 : x7 = 0) (g3 : (mI M 31 x3.toNatClampNeg) = 15) (g4 : ¬ (mI M 34 ((120 * x1) + (mI M 36 x3.toNatClampNeg)).toNatClampNeg) = x4), E K_X7_heights 236 [some (aR (some 26)), some (aI x1), some (aI x2), some (aI x3), some (aI x4), some (aI x5), some (aI x6), some (aI x7), some (aI y50), none] [aI 1] M v M')
    (c6 : ∀ (g1 : x6 < 0) (g2 : ¬ x7 = 0), Ev K_X7_isOther [aR (some 26), aI x1, aI y50, aI x5] M (some (aI x105)) M1)
    (k7 : ∀ (g1 : x6 < 0) (g2 : ¬ x7 = 0) (g6 : ¬ x105 = 0), E K_X7_heights 236 [some (aR (some 26)), some (aI x1), some (aI x2), some (aI x3), some (aI x4), some (aI x5), some (aI x6), some (aI x7), some (aI y50), none] [aI 1] M1 v M')
    (b8 : ∀ (g1 : x6 < 0) (g2 : ¬ x7 = 0) (g6 : x105 = 0), vp_in x3 3840)
    (k9 : ∀ (g1 : x6 < 0) (g2 : ¬ x7 = 0) (g6 : x105 = 0) (g7 : ¬ (mI M1 31 x3.toNatClampNeg) = 15), E K_X7_heights 236 [some (aR (some 26)), some (aI x1), some (aI x2), some (aI x3), some (aI x4), some (aI x5), some (aI x6), some (aI x7), some (aI y50), none] [aI 0] M1 v M')
    (b10 : ∀ (g1 : x6 < 0) (g2 : ¬ x7 = 0) (g6 : x105 = 0) (g7 : (mI M1 31 x3.toNatClampNeg) = 15), vp_in ((120 * x1) + (mI M1 36 x3.toNatClampNeg)) 3840)
    (k11 : ∀ (g1 : x6 < 0) (g2 : ¬ x7 = 0) (g6 : x105 = 0) (g7 : (mI M1 31 x3.toNatClampNeg) = 15) (g8 : (mI M1 34 ((120 * x1) + (mI M1 36 x3.toNatClampNeg)).toNatClampNeg) = x4), E K_X7_heights 236 [some (aR (some 26)), some (aI x1), some (aI x2), some (aI x3), some (aI x4), some (aI x5), some (aI x6), some (aI x7), some (aI y50), none] [aI 0] M1 v M')
    (k12 : ∀ (g1 : x6 < 0) (g2 : ¬ x7 = 0) (g6 : x105 = 0) (g7 : (mI M1 31 x3.toNatClampNeg) = 15) (g8 : ¬ (mI M1 34 ((120 * x1) + (mI M1 36 x3.toNatClampNeg)).toNatClampNeg) = x4), E K_X7_heights 236 [some (aR (some 26)), some (aI x1), some (aI x2), some (aI x3), some (aI x4), some (aI x5), some (aI x6), some (aI x7), some (aI y50), none] [aI 1] M1 v M')
    (c13 : ∀ (g1 : ¬ (x6 < 0)), Ev K_X7_isOther [aR (some 26), aI x1, aI x6, aI x5] M (some (aI x109)) M2)
    (k14 : ∀ (g1 : ¬ (x6 < 0)) (g10 : ¬ x109 = 0), E K_X7_heights 236 [some (aR (some 26)), some (aI x1), some (aI x2), some (aI x3), some (aI x4), some (aI x5), some (aI x6), some (aI x7), some (aI y50), none] [aI 1] M2 v M')
    (b15 : ∀ (g1 : ¬ (x6 < 0)) (g10 : x109 = 0) (g11 : x7 = 0), vp_in x3 3840)
    (k16 : ∀ (g1 : ¬ (x6 < 0)) (g10 : x109 = 0) (g11 : x7 = 0) (g12 : ¬ (mI M2 31 x3.toNatClampNeg) = 15), E K_X7_heights 236 [some (aR (some 26)), some (aI x1), some (aI x2), some (aI x3), some (aI x4), some (aI x5), some (aI x6), some (aI x7), some (aI y50), none] [aI 0] M2 v M')
    (b17 : ∀ (g1 : ¬ (x6 < 0)) (g10 : x109 = 0) (g11 : x7 = 0) (g12 : (mI M2 31 x3.toNatClampNeg) = 15), vp_in ((120 * x1) + (mI M2 36 x3.toNatClampNeg)) 3840)
    (k18 : ∀ (g1 : ¬ (x6 < 0)) (g10 : x109 = 0) (g11 : x7 = 0) (g12 : (mI M2 31 x3.toNatClampNeg) = 15) (g13 : (mI M2 34 ((120 * x1) + (mI M2 36 x3.toNatClampNeg)).toNatClampNeg) = x4), E K_X7_heights 236 [some (aR (some 26)), some (aI x1), some (aI x2), some (aI x3), some (aI x4), some (aI x5), some (aI x6), some (aI x7), some (aI y50), none] [aI 0] M2 v M')
    (k19 : ∀ (g1 : ¬ (x6 < 0)) (g10 : x109 = 0) (g11 : x7 = 0) (g12 : (mI M2 31 x3.toNatClampNeg) = 15) (g13 : ¬ (mI M2 34 ((120 * x1) + (mI M2 36 x3.toNatClampNeg)).toNatClampNeg) = x4), E K_X7_heights 236 [some (aR (some 26)), some (aI x1), some (aI x2), some (aI x3), some (aI x4), some (aI x5), some (aI x6), some (aI x7), some (aI y50), none] [aI 1] M2 v M')
    (c20 : ∀ (g1 : ¬ (x6 < 0)) (g10 : x109 = 0) (g11 : ¬ x7 = 0), Ev K_X7_isOther [aR (some 26), aI x1, aI y50, aI x5] M2 (some (aI x114)) M3)
    (k21 : ∀ (g1 : ¬ (x6 < 0)) (g10 : x109 = 0) (g11 : ¬ x7 = 0) (g15 : ¬ x114 = 0), E K_X7_heights 236 [some (aR (some 26)), some (aI x1), some (aI x2), some (aI x3), some (aI x4), some (aI x5), some (aI x6), some (aI x7), some (aI y50), none] [aI 1] M3 v M')
    (b22 : ∀ (g1 : ¬ (x6 < 0)) (g10 : x109 = 0) (g11 : ¬ x7 = 0) (g15 : x114 = 0), vp_in x3 3840)
    (k23 : ∀ (g1 : ¬ (x6 < 0)) (g10 : x109 = 0) (g11 : ¬ x7 = 0) (g15 : x114 = 0) (g16 : ¬ (mI M3 31 x3.toNatClampNeg) = 15), E K_X7_heights 236 [some (aR (some 26)), some (aI x1), some (aI x2), some (aI x3), some (aI x4), some (aI x5), some (aI x6), some (aI x7), some (aI y50), none] [aI 0] M3 v M')
    (b24 : ∀ (g1 : ¬ (x6 < 0)) (g10 : x109 = 0) (g11 : ¬ x7 = 0) (g15 : x114 = 0) (g16 : (mI M3 31 x3.toNatClampNeg) = 15), vp_in ((120 * x1) + (mI M3 36 x3.toNatClampNeg)) 3840)
    (k25 : ∀ (g1 : ¬ (x6 < 0)) (g10 : x109 = 0) (g11 : ¬ x7 = 0) (g15 : x114 = 0) (g16 : (mI M3 31 x3.toNatClampNeg) = 15) (g17 : (mI M3 34 ((120 * x1) + (mI M3 36 x3.toNatClampNeg)).toNatClampNeg) = x4), E K_X7_heights 236 [some (aR (some 26)), some (aI x1), some (aI x2), some (aI x3), some (aI x4), some (aI x5), some (aI x6), some (aI x7), some (aI y50), none] [aI 0] M3 v M')
    (k26 : ∀ (g1 : ¬ (x6 < 0)) (g10 : x109 = 0) (g11 : ¬ x7 = 0) (g15 : x114 = 0) (g16 : (mI M3 31 x3.toNatClampNeg) = 15) (g17 : ¬ (mI M3 34 ((120 * x1) + (mI M3 36 x3.toNatClampNeg)).toNatClampNeg) = x4), E K_X7_heights 236 [some (aR (some 26)), some (aI x1), some (aI x2), some (aI x3), some (aI x4), some (aI x5), some (aI x6), some (aI x7), some (aI y50), none] [aI 1] M3 v M') :
    E K_X7_heights 163 [some (aR (some 26)), some (aI x1), some (aI x2), some (aI x3), some (aI x4), some (aI x5), some (aI x6), some (aI x7), none, none] [aI y50] M v M' := by
  refine e_istore dX7_heights_163 (Nat.le_of_ble_eq_true rfl) ?_
  show E K_X7_heights 165 [some (aR (some 26)), some (aI x1), some (aI x2), some (aI x3), some (aI x4), some (aI x5), some (aI x6), some (aI x7), some (aI y50), none] [] M v M'
  refine e_iload dX7_heights_165 rfl ?_
  refine e_if_lt (tgt := 182) dX7_heights_167 rfl (fun g1 => ?_) (fun g1 => ?_)
  ·
    refine e_iload dX7_heights_182 rfl ?_
    refine e_if_eq (tgt := 199) dX7_heights_184 rfl (fun g2 => ?_) (fun g2 => ?_)
    ·
      refine e_aload_n dX7_heights_199 rfl ?_
      refine e_get ff_7_5 hS.l26 w840 dX7_heights_200 (w := aR (some 31)) hS.f26_5 ?_
      refine e_iload_n dX7_heights_203 rfl ?_
      refine e_iald hS.l31 (hS.b31 (b1 g1 g2)) dX7_heights_204 ?_
      refine e_bipush (u := 15) dX7_heights_205 (by decide) ?_
      refine e_icmp_ne (tgt := 235) dX7_heights_207 rfl (fun g3 => ?_) (fun g3 => ?_)
      ·
        refine e_iconst (u := 0) dX7_heights_235 (by decide) ?_
        exact (k2 g1 g2 g3)
      ·
        refine e_aload_n dX7_heights_210 rfl ?_
        refine e_get ff_7_10 hS.l26 w845 dX7_heights_211 (w := aR (some 34)) hS.f26_10 ?_
        refine e_bipush (u := 120) dX7_heights_214 (by decide) ?_
        refine e_iload_n dX7_heights_216 rfl ?_
        refine e_imul dX7_heights_217 ?_
        refine e_aload_n dX7_heights_218 rfl ?_
        refine e_get ff_7_12 hS.l26 w847 dX7_heights_219 (w := aR (some 36)) hS.f26_12 ?_
        refine e_iload_n dX7_heights_222 rfl ?_
        refine e_iald hS.l36 (hS.b36 (b1 g1 g2)) dX7_heights_223 ?_
        refine e_iadd dX7_heights_224 ?_
        refine e_iald hS.l34 (hS.b34 (b3 g1 g2 g3)) dX7_heights_225 ?_
        refine e_iload dX7_heights_226 rfl ?_
        refine e_icmp_eq (tgt := 235) dX7_heights_228 rfl (fun g4 => ?_) (fun g4 => ?_)
        ·
          refine e_iconst (u := 0) dX7_heights_235 (by decide) ?_
          exact (k4 g1 g2 g3 g4)
        ·
          refine e_iconst (u := 1) dX7_heights_231 (by decide) ?_
          refine e_goto (tgt := 236) dX7_heights_232 rfl ?_
          exact (k5 g1 g2 g3 g4)
    ·
      refine e_aload_n dX7_heights_187 rfl ?_
      refine e_iload_n dX7_heights_188 rfl ?_
      refine e_iload dX7_heights_189 rfl ?_
      refine e_iload dX7_heights_191 rfl ?_
      refine e_callV (As := [aI x1, aI y50, aI x5]) (rest := []) vk_X7_isOther hS.l26 w1023 ⟨by decide, by decide⟩ (Nat.le_of_ble_eq_true rfl) dX7_heights_193 (c6 g1 g2) ?_
      show E K_X7_heights 196 [some (aR (some 26)), some (aI x1), some (aI x2), some (aI x3), some (aI x4), some (aI x5), some (aI x6), some (aI x7), some (aI y50), none] [aI x105] M1 v M'
      have hS_1 : St M1 := St.sh (M := M) (c6 g1 g2).2.1 hS
      refine e_if_ne (tgt := 231) dX7_heights_196 rfl (fun g6 => ?_) (fun g6 => ?_)
      ·
        refine e_iconst (u := 1) dX7_heights_231 (by decide) ?_
        refine e_goto (tgt := 236) dX7_heights_232 rfl ?_
        exact (k7 g1 g2 g6)
      ·
        refine e_aload_n dX7_heights_199 rfl ?_
        refine e_get ff_7_5 hS_1.l26 w840 dX7_heights_200 (w := aR (some 31)) hS_1.f26_5 ?_
        refine e_iload_n dX7_heights_203 rfl ?_
        refine e_iald hS_1.l31 (hS_1.b31 (b8 g1 g2 g6)) dX7_heights_204 ?_
        refine e_bipush (u := 15) dX7_heights_205 (by decide) ?_
        refine e_icmp_ne (tgt := 235) dX7_heights_207 rfl (fun g7 => ?_) (fun g7 => ?_)
        ·
          refine e_iconst (u := 0) dX7_heights_235 (by decide) ?_
          exact (k9 g1 g2 g6 g7)
        ·
          refine e_aload_n dX7_heights_210 rfl ?_
          refine e_get ff_7_10 hS_1.l26 w845 dX7_heights_211 (w := aR (some 34)) hS_1.f26_10 ?_
          refine e_bipush (u := 120) dX7_heights_214 (by decide) ?_
          refine e_iload_n dX7_heights_216 rfl ?_
          refine e_imul dX7_heights_217 ?_
          refine e_aload_n dX7_heights_218 rfl ?_
          refine e_get ff_7_12 hS_1.l26 w847 dX7_heights_219 (w := aR (some 36)) hS_1.f26_12 ?_
          refine e_iload_n dX7_heights_222 rfl ?_
          refine e_iald hS_1.l36 (hS_1.b36 (b8 g1 g2 g6)) dX7_heights_223 ?_
          refine e_iadd dX7_heights_224 ?_
          refine e_iald hS_1.l34 (hS_1.b34 (b10 g1 g2 g6 g7)) dX7_heights_225 ?_
          refine e_iload dX7_heights_226 rfl ?_
          refine e_icmp_eq (tgt := 235) dX7_heights_228 rfl (fun g8 => ?_) (fun g8 => ?_)
          ·
            refine e_iconst (u := 0) dX7_heights_235 (by decide) ?_
            exact (k11 g1 g2 g6 g7 g8)
          ·
            refine e_iconst (u := 1) dX7_heights_231 (by decide) ?_
            refine e_goto (tgt := 236) dX7_heights_232 rfl ?_
            exact (k12 g1 g2 g6 g7 g8)
  ·
    refine e_aload_n dX7_heights_170 rfl ?_
    refine e_iload_n dX7_heights_171 rfl ?_
    refine e_iload dX7_heights_172 rfl ?_
    refine e_iload dX7_heights_174 rfl ?_
    refine e_callV (As := [aI x1, aI x6, aI x5]) (rest := []) vk_X7_isOther hS.l26 w1023 ⟨by decide, by decide⟩ (Nat.le_of_ble_eq_true rfl) dX7_heights_176 (c13 g1) ?_
    show E K_X7_heights 179 [some (aR (some 26)), some (aI x1), some (aI x2), some (aI x3), some (aI x4), some (aI x5), some (aI x6), some (aI x7), some (aI y50), none] [aI x109] M2 v M'
    have hS_2 : St M2 := St.sh (M := M) (c13 g1).2.1 hS
    refine e_if_ne (tgt := 231) dX7_heights_179 rfl (fun g10 => ?_) (fun g10 => ?_)
    ·
      refine e_iconst (u := 1) dX7_heights_231 (by decide) ?_
      refine e_goto (tgt := 236) dX7_heights_232 rfl ?_
      exact (k14 g1 g10)
    ·
      refine e_iload dX7_heights_182 rfl ?_
      refine e_if_eq (tgt := 199) dX7_heights_184 rfl (fun g11 => ?_) (fun g11 => ?_)
      ·
        refine e_aload_n dX7_heights_199 rfl ?_
        refine e_get ff_7_5 hS_2.l26 w840 dX7_heights_200 (w := aR (some 31)) hS_2.f26_5 ?_
        refine e_iload_n dX7_heights_203 rfl ?_
        refine e_iald hS_2.l31 (hS_2.b31 (b15 g1 g10 g11)) dX7_heights_204 ?_
        refine e_bipush (u := 15) dX7_heights_205 (by decide) ?_
        refine e_icmp_ne (tgt := 235) dX7_heights_207 rfl (fun g12 => ?_) (fun g12 => ?_)
        ·
          refine e_iconst (u := 0) dX7_heights_235 (by decide) ?_
          exact (k16 g1 g10 g11 g12)
        ·
          refine e_aload_n dX7_heights_210 rfl ?_
          refine e_get ff_7_10 hS_2.l26 w845 dX7_heights_211 (w := aR (some 34)) hS_2.f26_10 ?_
          refine e_bipush (u := 120) dX7_heights_214 (by decide) ?_
          refine e_iload_n dX7_heights_216 rfl ?_
          refine e_imul dX7_heights_217 ?_
          refine e_aload_n dX7_heights_218 rfl ?_
          refine e_get ff_7_12 hS_2.l26 w847 dX7_heights_219 (w := aR (some 36)) hS_2.f26_12 ?_
          refine e_iload_n dX7_heights_222 rfl ?_
          refine e_iald hS_2.l36 (hS_2.b36 (b15 g1 g10 g11)) dX7_heights_223 ?_
          refine e_iadd dX7_heights_224 ?_
          refine e_iald hS_2.l34 (hS_2.b34 (b17 g1 g10 g11 g12)) dX7_heights_225 ?_
          refine e_iload dX7_heights_226 rfl ?_
          refine e_icmp_eq (tgt := 235) dX7_heights_228 rfl (fun g13 => ?_) (fun g13 => ?_)
          ·
            refine e_iconst (u := 0) dX7_heights_235 (by decide) ?_
            exact (k18 g1 g10 g11 g12 g13)
          ·
            refine e_iconst (u := 1) dX7_heights_231 (by decide) ?_
            refine e_goto (tgt := 236) dX7_heights_232 rfl ?_
            exact (k19 g1 g10 g11 g12 g13)
      ·
        refine e_aload_n dX7_heights_187 rfl ?_
        refine e_iload_n dX7_heights_188 rfl ?_
        refine e_iload dX7_heights_189 rfl ?_
        refine e_iload dX7_heights_191 rfl ?_
        refine e_callV (As := [aI x1, aI y50, aI x5]) (rest := []) vk_X7_isOther hS_2.l26 w1023 ⟨by decide, by decide⟩ (Nat.le_of_ble_eq_true rfl) dX7_heights_193 (c20 g1 g10 g11) ?_
        show E K_X7_heights 196 [some (aR (some 26)), some (aI x1), some (aI x2), some (aI x3), some (aI x4), some (aI x5), some (aI x6), some (aI x7), some (aI y50), none] [aI x114] M3 v M'
        have hS_3 : St M3 := St.sh (M := M2) (c20 g1 g10 g11).2.1 hS_2
        refine e_if_ne (tgt := 231) dX7_heights_196 rfl (fun g15 => ?_) (fun g15 => ?_)
        ·
          refine e_iconst (u := 1) dX7_heights_231 (by decide) ?_
          refine e_goto (tgt := 236) dX7_heights_232 rfl ?_
          exact (k21 g1 g10 g11 g15)
        ·
          refine e_aload_n dX7_heights_199 rfl ?_
          refine e_get ff_7_5 hS_3.l26 w840 dX7_heights_200 (w := aR (some 31)) hS_3.f26_5 ?_
          refine e_iload_n dX7_heights_203 rfl ?_
          refine e_iald hS_3.l31 (hS_3.b31 (b22 g1 g10 g11 g15)) dX7_heights_204 ?_
          refine e_bipush (u := 15) dX7_heights_205 (by decide) ?_
          refine e_icmp_ne (tgt := 235) dX7_heights_207 rfl (fun g16 => ?_) (fun g16 => ?_)
          ·
            refine e_iconst (u := 0) dX7_heights_235 (by decide) ?_
            exact (k23 g1 g10 g11 g15 g16)
          ·
            refine e_aload_n dX7_heights_210 rfl ?_
            refine e_get ff_7_10 hS_3.l26 w845 dX7_heights_211 (w := aR (some 34)) hS_3.f26_10 ?_
            refine e_bipush (u := 120) dX7_heights_214 (by decide) ?_
            refine e_iload_n dX7_heights_216 rfl ?_
            refine e_imul dX7_heights_217 ?_
            refine e_aload_n dX7_heights_218 rfl ?_
            refine e_get ff_7_12 hS_3.l26 w847 dX7_heights_219 (w := aR (some 36)) hS_3.f26_12 ?_
            refine e_iload_n dX7_heights_222 rfl ?_
            refine e_iald hS_3.l36 (hS_3.b36 (b22 g1 g10 g11 g15)) dX7_heights_223 ?_
            refine e_iadd dX7_heights_224 ?_
            refine e_iald hS_3.l34 (hS_3.b34 (b24 g1 g10 g11 g15 g16)) dX7_heights_225 ?_
            refine e_iload dX7_heights_226 rfl ?_
            refine e_icmp_eq (tgt := 235) dX7_heights_228 rfl (fun g17 => ?_) (fun g17 => ?_)
            ·
              refine e_iconst (u := 0) dX7_heights_235 (by decide) ?_
              exact (k25 g1 g10 g11 g15 g16 g17)
            ·
              refine e_iconst (u := 1) dX7_heights_231 (by decide) ?_
              refine e_goto (tgt := 236) dX7_heights_232 rfl ?_
              exact (k26 g1 g10 g11 g15 g16 g17)

set_option maxRecDepth 20000 in
theorem s_X7_heights_236 {M M' : AM} {v : Option AV} {x1 : Int32} {x2 : Int32} {x3 : Int32} {x4 : Int32} {x5 : Int32} {x6 : Int32} {x7 : Int32} {x8 : Int32} {y50 : Int32} {M1 : AM} {x101 : Int32} {M2 : AM} {M3 : AM} {M4 : AM} {M5 : AM} {M6 : AM} {M7 : AM} {M8 : AM} {M9 : AM} {M10 : AM} {M11 : AM} {M12 : AM} {M13 : AM} (hS : St M)
    (c1 : Ev K_X7_takes [aR (some 26), aI x1, aI x3] M (some (aI x101)) M1)
    (b2 : ∀ (g2 : x101 ≤ x4) (g3 : x5 ≤ 100) (g4 : y50 = 0), vp_in x3 3840)
    (b3 : ∀ (g2 : x101 ≤ x4) (g3 : x5 ≤ 100) (g4 : y50 = 0) (g5 : ¬ (mI M1 31 x3.toNatClampNeg) = 17), vp_in x1 32)
    (k4 : ∀ (g2 : x101 ≤ x4) (g3 : x5 ≤ 100) (g4 : y50 = 0) (g5 : ¬ (mI M1 31 x3.toNatClampNeg) = 17) (g6 : x6 < (mI M1 30 x1.toNatClampNeg)) (g7 : x6 < 0) (g8 : x7 = 0), E K_X7_heights 376 [some (aR (some 26)), some (aI x1), some (aI x2), some (aI x3), some (aI x4), some (aI x5), some (aI x6), some (aI x7), some (aI x8), some (aI y50)] [] M1 v M')
    (c5 : ∀ (g2 : x101 ≤ x4) (g3 : x5 ≤ 100) (g4 : y50 = 0) (g5 : ¬ (mI M1 31 x3.toNatClampNeg) = 17) (g6 : x6 < (mI M1 30 x1.toNatClampNeg)) (g7 : x6 < 0) (g8 : ¬ x7 = 0), Ev K_X7_tell [aR (some 26), aI x1, aI x8, aI x5] M1 (none) M2)
    (k6 : ∀ (g2 : x101 ≤ x4) (g3 : x5 ≤ 100) (g4 : y50 = 0) (g5 : ¬ (mI M1 31 x3.toNatClampNeg) = 17) (g6 : x6 < (mI M1 30 x1.toNatClampNeg)) (g7 : x6 < 0) (g8 : ¬ x7 = 0), E K_X7_heights 376 [some (aR (some 26)), some (aI x1), some (aI x2), some (aI x3), some (aI x4), some (aI x5), some (aI x6), some (aI x7), some (aI x8), some (aI y50)] [] M2 v M')
    (c7 : ∀ (g2 : x101 ≤ x4) (g3 : x5 ≤ 100) (g4 : y50 = 0) (g5 : ¬ (mI M1 31 x3.toNatClampNeg) = 17) (g6 : x6 < (mI M1 30 x1.toNatClampNeg)) (g7 : ¬ (x6 < 0)), Ev K_X7_tell [aR (some 26), aI x1, aI x6, aI x5] M1 (none) M3)
    (k8 : ∀ (g2 : x101 ≤ x4) (g3 : x5 ≤ 100) (g4 : y50 = 0) (g5 : ¬ (mI M1 31 x3.toNatClampNeg) = 17) (g6 : x6 < (mI M1 30 x1.toNatClampNeg)) (g7 : ¬ (x6 < 0)) (g9 : x7 = 0), E K_X7_heights 376 [some (aR (some 26)), some (aI x1), some (aI x2), some (aI x3), some (aI x4), some (aI x5), some (aI x6), some (aI x7), some (aI x8), some (aI y50)] [] M3 v M')
    (c9 : ∀ (g2 : x101 ≤ x4) (g3 : x5 ≤ 100) (g4 : y50 = 0) (g5 : ¬ (mI M1 31 x3.toNatClampNeg) = 17) (g6 : x6 < (mI M1 30 x1.toNatClampNeg)) (g7 : ¬ (x6 < 0)) (g9 : ¬ x7 = 0), Ev K_X7_tell [aR (some 26), aI x1, aI x8, aI x5] M3 (none) M4)
    (k10 : ∀ (g2 : x101 ≤ x4) (g3 : x5 ≤ 100) (g4 : y50 = 0) (g5 : ¬ (mI M1 31 x3.toNatClampNeg) = 17) (g6 : x6 < (mI M1 30 x1.toNatClampNeg)) (g7 : ¬ (x6 < 0)) (g9 : ¬ x7 = 0), E K_X7_heights 376 [some (aR (some 26)), some (aI x1), some (aI x2), some (aI x3), some (aI x4), some (aI x5), some (aI x6), some (aI x7), some (aI x8), some (aI y50)] [] M4 v M')
    (c11 : ∀ (g2 : x101 ≤ x4) (g3 : x5 ≤ 100) (g4 : y50 = 0) (g5 : ¬ (mI M1 31 x3.toNatClampNeg) = 17) (g6 : ¬ (x6 < (mI M1 30 x1.toNatClampNeg))), Ev K_X7_fault [aR (some 26), aI x1, aI 9, aI x2] M1 (none) M5)
    (k12 : ∀ (g2 : x101 ≤ x4) (g3 : x5 ≤ 100) (g4 : y50 = 0) (g5 : ¬ (mI M1 31 x3.toNatClampNeg) = 17) (g6 : ¬ (x6 < (mI M1 30 x1.toNatClampNeg))), E K_X7_heights 376 [some (aR (some 26)), some (aI x1), some (aI x2), some (aI x3), some (aI x4), some (aI x5), some (aI x6), some (aI x7), some (aI x8), some (aI y50)] [] M5 v M')
    (b13 : ∀ (g2 : x101 ≤ x4) (g3 : x5 ≤ 100) (g4 : y50 = 0) (g5 : (mI M1 31 x3.toNatClampNeg) = 17), vp_in x1 32)
    (k14 : ∀ (g2 : x101 ≤ x4) (g3 : x5 ≤ 100) (g4 : y50 = 0) (g5 : (mI M1 31 x3.toNatClampNeg) = 17) (g10 : x4 ≤ (mI M1 28 x1.toNatClampNeg)) (g11 : x6 < (mI M1 30 x1.toNatClampNeg)) (g12 : x6 < 0) (g13 : x7 = 0), E K_X7_heights 376 [some (aR (some 26)), some (aI x1), some (aI x2), some (aI x3), some (aI x4), some (aI x5), some (aI x6), some (aI x7), some (aI x8), some (aI y50)] [] M1 v M')
    (c15 : ∀ (g2 : x101 ≤ x4) (g3 : x5 ≤ 100) (g4 : y50 = 0) (g5 : (mI M1 31 x3.toNatClampNeg) = 17) (g10 : x4 ≤ (mI M1 28 x1.toNatClampNeg)) (g11 : x6 < (mI M1 30 x1.toNatClampNeg)) (g12 : x6 < 0) (g13 : ¬ x7 = 0), Ev K_X7_tell [aR (some 26), aI x1, aI x8, aI x5] M1 (none) M6)
    (k16 : ∀ (g2 : x101 ≤ x4) (g3 : x5 ≤ 100) (g4 : y50 = 0) (g5 : (mI M1 31 x3.toNatClampNeg) = 17) (g10 : x4 ≤ (mI M1 28 x1.toNatClampNeg)) (g11 : x6 < (mI M1 30 x1.toNatClampNeg)) (g12 : x6 < 0) (g13 : ¬ x7 = 0), E K_X7_heights 376 [some (aR (some 26)), some (aI x1), some (aI x2), some (aI x3), some (aI x4), some (aI x5), some (aI x6), some (aI x7), some (aI x8), some (aI y50)] [] M6 v M')
    (c17 : ∀ (g2 : x101 ≤ x4) (g3 : x5 ≤ 100) (g4 : y50 = 0) (g5 : (mI M1 31 x3.toNatClampNeg) = 17) (g10 : x4 ≤ (mI M1 28 x1.toNatClampNeg)) (g11 : x6 < (mI M1 30 x1.toNatClampNeg)) (g12 : ¬ (x6 < 0)), Ev K_X7_tell [aR (some 26), aI x1, aI x6, aI x5] M1 (none) M7)
    (k18 : ∀ (g2 : x101 ≤ x4) (g3 : x5 ≤ 100) (g4 : y50 = 0) (g5 : (mI M1 31 x3.toNatClampNeg) = 17) (g10 : x4 ≤ (mI M1 28 x1.toNatClampNeg)) (g11 : x6 < (mI M1 30 x1.toNatClampNeg)) (g12 : ¬ (x6 < 0)) (g14 : x7 = 0), E K_X7_heights 376 [some (aR (some 26)), some (aI x1), some (aI x2), some (aI x3), some (aI x4), some (aI x5), some (aI x6), some (aI x7), some (aI x8), some (aI y50)] [] M7 v M')
    (c19 : ∀ (g2 : x101 ≤ x4) (g3 : x5 ≤ 100) (g4 : y50 = 0) (g5 : (mI M1 31 x3.toNatClampNeg) = 17) (g10 : x4 ≤ (mI M1 28 x1.toNatClampNeg)) (g11 : x6 < (mI M1 30 x1.toNatClampNeg)) (g12 : ¬ (x6 < 0)) (g14 : ¬ x7 = 0), Ev K_X7_tell [aR (some 26), aI x1, aI x8, aI x5] M7 (none) M8)
    (k20 : ∀ (g2 : x101 ≤ x4) (g3 : x5 ≤ 100) (g4 : y50 = 0) (g5 : (mI M1 31 x3.toNatClampNeg) = 17) (g10 : x4 ≤ (mI M1 28 x1.toNatClampNeg)) (g11 : x6 < (mI M1 30 x1.toNatClampNeg)) (g12 : ¬ (x6 < 0)) (g14 : ¬ x7 = 0), E K_X7_heights 376 [some (aR (some 26)), some (aI x1), some (aI x2), some (aI x3), some (aI x4), some (aI x5), some (aI x6), some (aI x7), some (aI x8), some (aI y50)] [] M8 v M')
    (c21 : ∀ (g2 : x101 ≤ x4) (g3 : x5 ≤ 100) (g4 : y50 = 0) (g5 : (mI M1 31 x3.toNatClampNeg) = 17) (g10 : x4 ≤ (mI M1 28 x1.toNatClampNeg)) (g11 : ¬ (x6 < (mI M1 30 x1.toNatClampNeg))), Ev K_X7_fault [aR (some 26), aI x1, aI 9, aI x2] M1 (none) M9)
    (k22 : ∀ (g2 : x101 ≤ x4) (g3 : x5 ≤ 100) (g4 : y50 = 0) (g5 : (mI M1 31 x3.toNatClampNeg) = 17) (g10 : x4 ≤ (mI M1 28 x1.toNatClampNeg)) (g11 : ¬ (x6 < (mI M1 30 x1.toNatClampNeg))), E K_X7_heights 376 [some (aR (some 26)), some (aI x1), some (aI x2), some (aI x3), some (aI x4), some (aI x5), some (aI x6), some (aI x7), some (aI x8), some (aI y50)] [] M9 v M')
    (c23 : ∀ (g2 : x101 ≤ x4) (g3 : x5 ≤ 100) (g4 : y50 = 0) (g5 : (mI M1 31 x3.toNatClampNeg) = 17) (g10 : ¬ (x4 ≤ (mI M1 28 x1.toNatClampNeg))), Ev K_X7_fault [aR (some 26), aI x1, aI 8, aI x2] M1 (none) M10)
    (k24 : ∀ (g2 : x101 ≤ x4) (g3 : x5 ≤ 100) (g4 : y50 = 0) (g5 : (mI M1 31 x3.toNatClampNeg) = 17) (g10 : ¬ (x4 ≤ (mI M1 28 x1.toNatClampNeg))), E K_X7_heights 376 [some (aR (some 26)), some (aI x1), some (aI x2), some (aI x3), some (aI x4), some (aI x5), some (aI x6), some (aI x7), some (aI x8), some (aI y50)] [] M10 v M')
    (c25 : ∀ (g2 : x101 ≤ x4) (g3 : x5 ≤ 100) (g4 : ¬ y50 = 0), Ev K_X7_fault [aR (some 26), aI x1, aI 7, aI x2] M1 (none) M11)
    (k26 : ∀ (g2 : x101 ≤ x4) (g3 : x5 ≤ 100) (g4 : ¬ y50 = 0), E K_X7_heights 376 [some (aR (some 26)), some (aI x1), some (aI x2), some (aI x3), some (aI x4), some (aI x5), some (aI x6), some (aI x7), some (aI x8), some (aI y50)] [] M11 v M')
    (c27 : ∀ (g2 : x101 ≤ x4) (g3 : ¬ (x5 ≤ 100)), Ev K_X7_fault [aR (some 26), aI x1, aI 6, aI x2] M1 (none) M12)
    (k28 : ∀ (g2 : x101 ≤ x4) (g3 : ¬ (x5 ≤ 100)), E K_X7_heights 376 [some (aR (some 26)), some (aI x1), some (aI x2), some (aI x3), some (aI x4), some (aI x5), some (aI x6), some (aI x7), some (aI x8), some (aI y50)] [] M12 v M')
    (c29 : ∀ (g2 : ¬ (x101 ≤ x4)), Ev K_X7_fault [aR (some 26), aI x1, aI 5, aI x2] M1 (none) M13)
    (k30 : ∀ (g2 : ¬ (x101 ≤ x4)), E K_X7_heights 376 [some (aR (some 26)), some (aI x1), some (aI x2), some (aI x3), some (aI x4), some (aI x5), some (aI x6), some (aI x7), some (aI x8), some (aI y50)] [] M13 v M') :
    E K_X7_heights 236 [some (aR (some 26)), some (aI x1), some (aI x2), some (aI x3), some (aI x4), some (aI x5), some (aI x6), some (aI x7), some (aI x8), none] [aI y50] M v M' := by
  refine e_istore dX7_heights_236 (Nat.le_of_ble_eq_true rfl) ?_
  show E K_X7_heights 238 [some (aR (some 26)), some (aI x1), some (aI x2), some (aI x3), some (aI x4), some (aI x5), some (aI x6), some (aI x7), some (aI x8), some (aI y50)] [] M v M'
  refine e_iload dX7_heights_238 rfl ?_
  refine e_aload_n dX7_heights_240 rfl ?_
  refine e_iload_n dX7_heights_241 rfl ?_
  refine e_iload_n dX7_heights_242 rfl ?_
  refine e_callV (As := [aI x1, aI x3]) (rest := [aI x4]) vk_X7_takes hS.l26 w1027 ⟨by decide, by decide⟩ (Nat.le_of_ble_eq_true rfl) dX7_heights_243 c1 ?_
  show E K_X7_heights 246 [some (aR (some 26)), some (aI x1), some (aI x2), some (aI x3), some (aI x4), some (aI x5), some (aI x6), some (aI x7), some (aI x8), some (aI y50)] [aI x101, aI x4] M1 v M'
  have hS_1 : St M1 := St.sh (M := M) c1.2.1 hS
  refine e_icmp_ge (tgt := 259) dX7_heights_246 rfl (fun g2 => ?_) (fun g2 => ?_)
  ·
    refine e_iload dX7_heights_259 rfl ?_
    refine e_bipush (u := 100) dX7_heights_261 (by decide) ?_
    refine e_icmp_le (tgt := 277) dX7_heights_263 rfl (fun g3 => ?_) (fun g3 => ?_)
    ·
      refine e_iload dX7_heights_277 rfl ?_
      refine e_if_eq (tgt := 293) dX7_heights_279 rfl (fun g4 => ?_) (fun g4 => ?_)
      ·
        refine e_aload_n dX7_heights_293 rfl ?_
        refine e_get ff_7_5 hS_1.l26 w840 dX7_heights_294 (w := aR (some 31)) hS_1.f26_5 ?_
        refine e_iload_n dX7_heights_297 rfl ?_
        refine e_iald hS_1.l31 (hS_1.b31 (b2 g2 g3 g4)) dX7_heights_298 ?_
        refine e_bipush (u := 17) dX7_heights_299 (by decide) ?_
        refine e_icmp_ne (tgt := 326) dX7_heights_301 rfl (fun g5 => ?_) (fun g5 => ?_)
        ·
          refine e_iload dX7_heights_326 rfl ?_
          refine e_aload_n dX7_heights_328 rfl ?_
          refine e_get ff_7_3 hS_1.l26 w838 dX7_heights_329 (w := aR (some 30)) hS_1.f26_3 ?_
          refine e_iload_n dX7_heights_332 rfl ?_
          refine e_iald hS_1.l30 (hS_1.b30 (b3 g2 g3 g4 g5)) dX7_heights_333 ?_
          refine e_icmp_lt (tgt := 348) dX7_heights_334 rfl (fun g6 => ?_) (fun g6 => ?_)
          ·
            refine e_iload dX7_heights_348 rfl ?_
            refine e_if_lt (tgt := 362) dX7_heights_350 rfl (fun g7 => ?_) (fun g7 => ?_)
            ·
              refine e_iload dX7_heights_362 rfl ?_
              refine e_if_eq (tgt := 376) dX7_heights_364 rfl (fun g8 => ?_) (fun g8 => ?_)
              ·
                exact (k4 g2 g3 g4 g5 g6 g7 g8)
              ·
                refine e_aload_n dX7_heights_367 rfl ?_
                refine e_iload_n dX7_heights_368 rfl ?_
                refine e_iload dX7_heights_369 rfl ?_
                refine e_iload dX7_heights_371 rfl ?_
                refine e_callV (As := [aI x1, aI x8, aI x5]) (rest := []) vk_X7_tell hS_1.l26 w1031 ⟨by decide, by decide⟩ (Nat.le_of_ble_eq_true rfl) dX7_heights_373 (c5 g2 g3 g4 g5 g6 g7 g8) ?_
                show E K_X7_heights 376 [some (aR (some 26)), some (aI x1), some (aI x2), some (aI x3), some (aI x4), some (aI x5), some (aI x6), some (aI x7), some (aI x8), some (aI y50)] [] M2 v M'
                have hS_2 : St M2 := St.sh (M := M1) (c5 g2 g3 g4 g5 g6 g7 g8).2.1 hS_1
                exact (k6 g2 g3 g4 g5 g6 g7 g8)
            ·
              refine e_aload_n dX7_heights_353 rfl ?_
              refine e_iload_n dX7_heights_354 rfl ?_
              refine e_iload dX7_heights_355 rfl ?_
              refine e_iload dX7_heights_357 rfl ?_
              refine e_callV (As := [aI x1, aI x6, aI x5]) (rest := []) vk_X7_tell hS_1.l26 w1031 ⟨by decide, by decide⟩ (Nat.le_of_ble_eq_true rfl) dX7_heights_359 (c7 g2 g3 g4 g5 g6 g7) ?_
              show E K_X7_heights 362 [some (aR (some 26)), some (aI x1), some (aI x2), some (aI x3), some (aI x4), some (aI x5), some (aI x6), some (aI x7), some (aI x8), some (aI y50)] [] M3 v M'
              have hS_3 : St M3 := St.sh (M := M1) (c7 g2 g3 g4 g5 g6 g7).2.1 hS_1
              refine e_iload dX7_heights_362 rfl ?_
              refine e_if_eq (tgt := 376) dX7_heights_364 rfl (fun g9 => ?_) (fun g9 => ?_)
              ·
                exact (k8 g2 g3 g4 g5 g6 g7 g9)
              ·
                refine e_aload_n dX7_heights_367 rfl ?_
                refine e_iload_n dX7_heights_368 rfl ?_
                refine e_iload dX7_heights_369 rfl ?_
                refine e_iload dX7_heights_371 rfl ?_
                refine e_callV (As := [aI x1, aI x8, aI x5]) (rest := []) vk_X7_tell hS_3.l26 w1031 ⟨by decide, by decide⟩ (Nat.le_of_ble_eq_true rfl) dX7_heights_373 (c9 g2 g3 g4 g5 g6 g7 g9) ?_
                show E K_X7_heights 376 [some (aR (some 26)), some (aI x1), some (aI x2), some (aI x3), some (aI x4), some (aI x5), some (aI x6), some (aI x7), some (aI x8), some (aI y50)] [] M4 v M'
                have hS_4 : St M4 := St.sh (M := M3) (c9 g2 g3 g4 g5 g6 g7 g9).2.1 hS_3
                exact (k10 g2 g3 g4 g5 g6 g7 g9)
          ·
            refine e_aload_n dX7_heights_337 rfl ?_
            refine e_iload_n dX7_heights_338 rfl ?_
            refine e_bipush (u := 9) dX7_heights_339 (by decide) ?_
            refine e_iload_n dX7_heights_341 rfl ?_
            refine e_callV (As := [aI x1, aI 9, aI x2]) (rest := []) vk_X7_fault hS_1.l26 w1007 ⟨by decide, by decide⟩ (Nat.le_of_ble_eq_true rfl) dX7_heights_342 (c11 g2 g3 g4 g5 g6) ?_
            show E K_X7_heights 345 [some (aR (some 26)), some (aI x1), some (aI x2), some (aI x3), some (aI x4), some (aI x5), some (aI x6), some (aI x7), some (aI x8), some (aI y50)] [] M5 v M'
            have hS_5 : St M5 := St.sh (M := M1) (c11 g2 g3 g4 g5 g6).2.1 hS_1
            refine e_goto (tgt := 376) dX7_heights_345 rfl ?_
            exact (k12 g2 g3 g4 g5 g6)
        ·
          refine e_iload dX7_heights_304 rfl ?_
          refine e_aload_n dX7_heights_306 rfl ?_
          refine e_get ff_7_1 hS_1.l26 w836 dX7_heights_307 (w := aR (some 28)) hS_1.f26_1 ?_
          refine e_iload_n dX7_heights_310 rfl ?_
          refine e_iald hS_1.l28 (hS_1.b28 (b13 g2 g3 g4 g5)) dX7_heights_311 ?_
          refine e_icmp_le (tgt := 326) dX7_heights_312 rfl (fun g10 => ?_) (fun g10 => ?_)
          ·
            refine e_iload dX7_heights_326 rfl ?_
            refine e_aload_n dX7_heights_328 rfl ?_
            refine e_get ff_7_3 hS_1.l26 w838 dX7_heights_329 (w := aR (some 30)) hS_1.f26_3 ?_
            refine e_iload_n dX7_heights_332 rfl ?_
            refine e_iald hS_1.l30 (hS_1.b30 (b13 g2 g3 g4 g5)) dX7_heights_333 ?_
            refine e_icmp_lt (tgt := 348) dX7_heights_334 rfl (fun g11 => ?_) (fun g11 => ?_)
            ·
              refine e_iload dX7_heights_348 rfl ?_
              refine e_if_lt (tgt := 362) dX7_heights_350 rfl (fun g12 => ?_) (fun g12 => ?_)
              ·
                refine e_iload dX7_heights_362 rfl ?_
                refine e_if_eq (tgt := 376) dX7_heights_364 rfl (fun g13 => ?_) (fun g13 => ?_)
                ·
                  exact (k14 g2 g3 g4 g5 g10 g11 g12 g13)
                ·
                  refine e_aload_n dX7_heights_367 rfl ?_
                  refine e_iload_n dX7_heights_368 rfl ?_
                  refine e_iload dX7_heights_369 rfl ?_
                  refine e_iload dX7_heights_371 rfl ?_
                  refine e_callV (As := [aI x1, aI x8, aI x5]) (rest := []) vk_X7_tell hS_1.l26 w1031 ⟨by decide, by decide⟩ (Nat.le_of_ble_eq_true rfl) dX7_heights_373 (c15 g2 g3 g4 g5 g10 g11 g12 g13) ?_
                  show E K_X7_heights 376 [some (aR (some 26)), some (aI x1), some (aI x2), some (aI x3), some (aI x4), some (aI x5), some (aI x6), some (aI x7), some (aI x8), some (aI y50)] [] M6 v M'
                  have hS_6 : St M6 := St.sh (M := M1) (c15 g2 g3 g4 g5 g10 g11 g12 g13).2.1 hS_1
                  exact (k16 g2 g3 g4 g5 g10 g11 g12 g13)
              ·
                refine e_aload_n dX7_heights_353 rfl ?_
                refine e_iload_n dX7_heights_354 rfl ?_
                refine e_iload dX7_heights_355 rfl ?_
                refine e_iload dX7_heights_357 rfl ?_
                refine e_callV (As := [aI x1, aI x6, aI x5]) (rest := []) vk_X7_tell hS_1.l26 w1031 ⟨by decide, by decide⟩ (Nat.le_of_ble_eq_true rfl) dX7_heights_359 (c17 g2 g3 g4 g5 g10 g11 g12) ?_
                show E K_X7_heights 362 [some (aR (some 26)), some (aI x1), some (aI x2), some (aI x3), some (aI x4), some (aI x5), some (aI x6), some (aI x7), some (aI x8), some (aI y50)] [] M7 v M'
                have hS_7 : St M7 := St.sh (M := M1) (c17 g2 g3 g4 g5 g10 g11 g12).2.1 hS_1
                refine e_iload dX7_heights_362 rfl ?_
                refine e_if_eq (tgt := 376) dX7_heights_364 rfl (fun g14 => ?_) (fun g14 => ?_)
                ·
                  exact (k18 g2 g3 g4 g5 g10 g11 g12 g14)
                ·
                  refine e_aload_n dX7_heights_367 rfl ?_
                  refine e_iload_n dX7_heights_368 rfl ?_
                  refine e_iload dX7_heights_369 rfl ?_
                  refine e_iload dX7_heights_371 rfl ?_
                  refine e_callV (As := [aI x1, aI x8, aI x5]) (rest := []) vk_X7_tell hS_7.l26 w1031 ⟨by decide, by decide⟩ (Nat.le_of_ble_eq_true rfl) dX7_heights_373 (c19 g2 g3 g4 g5 g10 g11 g12 g14) ?_
                  show E K_X7_heights 376 [some (aR (some 26)), some (aI x1), some (aI x2), some (aI x3), some (aI x4), some (aI x5), some (aI x6), some (aI x7), some (aI x8), some (aI y50)] [] M8 v M'
                  have hS_8 : St M8 := St.sh (M := M7) (c19 g2 g3 g4 g5 g10 g11 g12 g14).2.1 hS_7
                  exact (k20 g2 g3 g4 g5 g10 g11 g12 g14)
            ·
              refine e_aload_n dX7_heights_337 rfl ?_
              refine e_iload_n dX7_heights_338 rfl ?_
              refine e_bipush (u := 9) dX7_heights_339 (by decide) ?_
              refine e_iload_n dX7_heights_341 rfl ?_
              refine e_callV (As := [aI x1, aI 9, aI x2]) (rest := []) vk_X7_fault hS_1.l26 w1007 ⟨by decide, by decide⟩ (Nat.le_of_ble_eq_true rfl) dX7_heights_342 (c21 g2 g3 g4 g5 g10 g11) ?_
              show E K_X7_heights 345 [some (aR (some 26)), some (aI x1), some (aI x2), some (aI x3), some (aI x4), some (aI x5), some (aI x6), some (aI x7), some (aI x8), some (aI y50)] [] M9 v M'
              have hS_9 : St M9 := St.sh (M := M1) (c21 g2 g3 g4 g5 g10 g11).2.1 hS_1
              refine e_goto (tgt := 376) dX7_heights_345 rfl ?_
              exact (k22 g2 g3 g4 g5 g10 g11)
          ·
            refine e_aload_n dX7_heights_315 rfl ?_
            refine e_iload_n dX7_heights_316 rfl ?_
            refine e_bipush (u := 8) dX7_heights_317 (by decide) ?_
            refine e_iload_n dX7_heights_319 rfl ?_
            refine e_callV (As := [aI x1, aI 8, aI x2]) (rest := []) vk_X7_fault hS_1.l26 w1007 ⟨by decide, by decide⟩ (Nat.le_of_ble_eq_true rfl) dX7_heights_320 (c23 g2 g3 g4 g5 g10) ?_
            show E K_X7_heights 323 [some (aR (some 26)), some (aI x1), some (aI x2), some (aI x3), some (aI x4), some (aI x5), some (aI x6), some (aI x7), some (aI x8), some (aI y50)] [] M10 v M'
            have hS_10 : St M10 := St.sh (M := M1) (c23 g2 g3 g4 g5 g10).2.1 hS_1
            refine e_goto (tgt := 376) dX7_heights_323 rfl ?_
            exact (k24 g2 g3 g4 g5 g10)
      ·
        refine e_aload_n dX7_heights_282 rfl ?_
        refine e_iload_n dX7_heights_283 rfl ?_
        refine e_bipush (u := 7) dX7_heights_284 (by decide) ?_
        refine e_iload_n dX7_heights_286 rfl ?_
        refine e_callV (As := [aI x1, aI 7, aI x2]) (rest := []) vk_X7_fault hS_1.l26 w1007 ⟨by decide, by decide⟩ (Nat.le_of_ble_eq_true rfl) dX7_heights_287 (c25 g2 g3 g4) ?_
        show E K_X7_heights 290 [some (aR (some 26)), some (aI x1), some (aI x2), some (aI x3), some (aI x4), some (aI x5), some (aI x6), some (aI x7), some (aI x8), some (aI y50)] [] M11 v M'
        have hS_11 : St M11 := St.sh (M := M1) (c25 g2 g3 g4).2.1 hS_1
        refine e_goto (tgt := 376) dX7_heights_290 rfl ?_
        exact (k26 g2 g3 g4)
    ·
      refine e_aload_n dX7_heights_266 rfl ?_
      refine e_iload_n dX7_heights_267 rfl ?_
      refine e_bipush (u := 6) dX7_heights_268 (by decide) ?_
      refine e_iload_n dX7_heights_270 rfl ?_
      refine e_callV (As := [aI x1, aI 6, aI x2]) (rest := []) vk_X7_fault hS_1.l26 w1007 ⟨by decide, by decide⟩ (Nat.le_of_ble_eq_true rfl) dX7_heights_271 (c27 g2 g3) ?_
      show E K_X7_heights 274 [some (aR (some 26)), some (aI x1), some (aI x2), some (aI x3), some (aI x4), some (aI x5), some (aI x6), some (aI x7), some (aI x8), some (aI y50)] [] M12 v M'
      have hS_12 : St M12 := St.sh (M := M1) (c27 g2 g3).2.1 hS_1
      refine e_goto (tgt := 376) dX7_heights_274 rfl ?_
      exact (k28 g2 g3)
  ·
    refine e_aload_n dX7_heights_249 rfl ?_
    refine e_iload_n dX7_heights_250 rfl ?_
    refine e_iconst (u := 5) dX7_heights_251 (by decide) ?_
    refine e_iload_n dX7_heights_252 rfl ?_
    refine e_callV (As := [aI x1, aI 5, aI x2]) (rest := []) vk_X7_fault hS_1.l26 w1007 ⟨by decide, by decide⟩ (Nat.le_of_ble_eq_true rfl) dX7_heights_253 (c29 g2) ?_
    show E K_X7_heights 256 [some (aR (some 26)), some (aI x1), some (aI x2), some (aI x3), some (aI x4), some (aI x5), some (aI x6), some (aI x7), some (aI x8), some (aI y50)] [] M13 v M'
    have hS_13 : St M13 := St.sh (M := M1) (c29 g2).2.1 hS_1
    refine e_goto (tgt := 376) dX7_heights_256 rfl ?_
    exact (k30 g2)

set_option maxRecDepth 20000 in
theorem s_X7_heights_376 {M M' : AM} {v : Option AV} {x1 : Int32} {x2 : Int32} {x3 : Int32} {x4 : Int32} (hS : St M)
    (k1 : E K_X7_heights 60 [some (aR (some 26)), some (aI x1), some (aI (x2 + 1)), some (aI x3), some (aI x4), none, none, none, none, none] [] M v M') :
    E K_X7_heights 376 [some (aR (some 26)), some (aI x1), some (aI x2), some (aI x3), some (aI x4), none, none, none, none, none] [] M v M' := by
  refine e_iinc dX7_heights_376 rfl ?_
  show E K_X7_heights 379 [some (aR (some 26)), some (aI x1), some (aI (x2 + 1)), some (aI x3), some (aI x4), none, none, none, none, none] [] M v M'
  refine e_goto (tgt := 60) dX7_heights_379 rfl ?_
  exact k1

set_option maxRecDepth 20000 in
theorem s_X7_region_0 {M M' : AM} {v : Option AV} {x1 : Int32} {x2 : Int32} (hS : St M)
    (k1 : E K_X7_region 2 [some (aR (some 26)), some (aI x1), some (aI x2), some (aI 0), none, none, none, none, none, none, none, none, none, none] [] M v M') :
    Ev K_X7_region [aR (some 26), aI x1, aI x2] M v M' := by
  refine ⟨Nat.le_of_ble_eq_true rfl, ?_⟩
  show E K_X7_region 0 [some (aR (some 26)), some (aI x1), some (aI x2), none, none, none, none, none, none, none, none, none, none, none] [] M v M'
  refine e_iconst (u := 0) dX7_region_0 (by decide) ?_
  refine e_istore_n dX7_region_1 (Nat.le_of_ble_eq_true rfl) ?_
  show E K_X7_region 2 [some (aR (some 26)), some (aI x1), some (aI x2), some (aI 0), none, none, none, none, none, none, none, none, none, none] [] M v M'
  exact k1

set_option maxRecDepth 20000 in
theorem s_X7_region_2 {M M' : AM} {v : Option AV} {x1 : Int32} {x2 : Int32} {x3 : Int32} (hS : St M)
    (b1 : vp_in x1 32)
    (b2 : ∀ (g1 : (mI M 30 x1.toNatClampNeg) < x3), vp_in (x2 + 1) 121)
    (k3 : ∀ (g1 : (mI M 30 x1.toNatClampNeg) < x3), E K_X7_region 50 [some (aR (some 26)), some (aI x1), some (aI x2), some (aJ (-1)), none, some (aJ (-1)), none, some (aI (x2 + 1)), none, none, none, none, none, none] [] (wrJ M 46 (x2 + 1).toNatClampNeg 0) v M')
    (b4 : ∀ (g1 : ¬ ((mI M 30 x1.toNatClampNeg) < x3)), vp_in x3 121)
    (k5 : ∀ (g1 : ¬ ((mI M 30 x1.toNatClampNeg) < x3)), E K_X7_region 2 [some (aR (some 26)), some (aI x1), some (aI x2), some (aI (x3 + 1)), none, none, none, none, none, none, none, none, none, none] [] (wrJ M 46 x3.toNatClampNeg (-1)) v M') :
    E K_X7_region 2 [some (aR (some 26)), some (aI x1), some (aI x2), some (aI x3), none, none, none, none, none, none, none, none, none, none] [] M v M' := by
  refine e_iload_n dX7_region_2 rfl ?_
  refine e_aload_n dX7_region_3 rfl ?_
  refine e_get ff_7_3 hS.l26 w838 dX7_region_4 (w := aR (some 30)) hS.f26_3 ?_
  refine e_iload_n dX7_region_7 rfl ?_
  refine e_iald hS.l30 (hS.b30 b1) dX7_region_8 ?_
  refine e_icmp_gt (tgt := 27) dX7_region_9 rfl (fun g1 => ?_) (fun g1 => ?_)
  ·
    refine e_aload_n dX7_region_27 rfl ?_
    refine e_get ff_7_22 hS.l26 w857 dX7_region_28 (w := aR (some 46)) hS.f26_22 ?_
    refine e_iload_n dX7_region_31 rfl ?_
    refine e_iconst (u := 1) dX7_region_32 (by decide) ?_
    refine e_iadd dX7_region_33 ?_
    refine e_lconst (u := 0) dX7_region_34 (by decide) ?_
    refine e_last hS.l46 (hS.b46 (b2 g1)) dX7_region_35 ?_
    refine e_ldc2 dX7_region_36 w1075 ?_
    refine e_lstore_n dX7_region_39 (Nat.le_of_ble_eq_true rfl) ?_
    show E K_X7_region 40 [some (aR (some 26)), some (aI x1), some (aI x2), some (aJ (-1)), none, none, none, none, none, none, none, none, none, none] [] (wrJ M 46 (x2 + 1).toNatClampNeg 0) v M'
    refine e_ldc2 dX7_region_40 w1075 ?_
    refine e_lstore dX7_region_43 (Nat.le_of_ble_eq_true rfl) ?_
    show E K_X7_region 45 [some (aR (some 26)), some (aI x1), some (aI x2), some (aJ (-1)), none, some (aJ (-1)), none, none, none, none, none, none, none, none] [] (wrJ M 46 (x2 + 1).toNatClampNeg 0) v M'
    refine e_iload_n dX7_region_45 rfl ?_
    refine e_iconst (u := 1) dX7_region_46 (by decide) ?_
    refine e_iadd dX7_region_47 ?_
    refine e_istore dX7_region_48 (Nat.le_of_ble_eq_true rfl) ?_
    show E K_X7_region 50 [some (aR (some 26)), some (aI x1), some (aI x2), some (aJ (-1)), none, some (aJ (-1)), none, some (aI (x2 + 1)), none, none, none, none, none, none] [] (wrJ M 46 (x2 + 1).toNatClampNeg 0) v M'
    exact (k3 g1)
  ·
    refine e_aload_n dX7_region_12 rfl ?_
    refine e_get ff_7_22 hS.l26 w857 dX7_region_13 (w := aR (some 46)) hS.f26_22 ?_
    refine e_iload_n dX7_region_16 rfl ?_
    refine e_ldc2 dX7_region_17 w1075 ?_
    refine e_last hS.l46 (hS.b46 (b4 g1)) dX7_region_20 ?_
    refine e_iinc dX7_region_21 rfl ?_
    show E K_X7_region 24 [some (aR (some 26)), some (aI x1), some (aI x2), some (aI (x3 + 1)), none, none, none, none, none, none, none, none, none, none] [] (wrJ M 46 x3.toNatClampNeg (-1)) v M'
    refine e_goto (tgt := 2) dX7_region_24 rfl ?_
    exact (k5 g1)

set_option maxRecDepth 20000 in
theorem s_X7_region_50 {M M' : AM} {v : Option AV} {x1 : Int32} {x2 : Int32} {x3 : Int64} {x5 : Int64} {x7 : Int32} {M1 : AM} {x105 : Int64} {M2 : AM} {x107 : Int64} (hS : St M)
    (b1 : vp_in x1 32)
    (k2 : ∀ (g1 : (mI M 30 x1.toNatClampNeg) ≤ x7) (g2 : x2 < 0), some (aJ x3) = v ∧ M = M')
    (b3 : ∀ (g1 : (mI M 30 x1.toNatClampNeg) ≤ x7) (g2 : ¬ (x2 < 0)), vp_in x2 120)
    (k4 : ∀ (g1 : (mI M 30 x1.toNatClampNeg) ≤ x7) (g2 : ¬ (x2 < 0)), some (aJ x3) = v ∧ (wrJ (wrJ M 47 x2.toNatClampNeg x5) 48 x2.toNatClampNeg x3) = M')
    (b5 : ∀ (g1 : ¬ ((mI M 30 x1.toNatClampNeg) ≤ x7)), vp_in ((120 * x1) + x7) 3840)
    (k6 : ∀ (g1 : ¬ ((mI M 30 x1.toNatClampNeg) ≤ x7)) (g3 : ¬ (mI M 35 ((120 * x1) + x7).toNatClampNeg) = x2), E K_X7_region 411 [some (aR (some 26)), some (aI x1), some (aI x2), some (aJ x3), none, some (aJ x5), none, some (aI x7), some (aI ((120 * x1) + x7)), none, none, none, none, none] [] M v M')
    (b7 : ∀ (g1 : ¬ ((mI M 30 x1.toNatClampNeg) ≤ x7)) (g3 : (mI M 35 ((120 * x1) + x7).toNatClampNeg) = x2), vp_in x7 121)
    (k8 : ∀ (g1 : ¬ ((mI M 30 x1.toNatClampNeg) ≤ x7)) (g3 : (mI M 35 ((120 * x1) + x7).toNatClampNeg) = x2) (g4 : (mJ M 46 x7.toNatClampNeg) = (-1)), E K_X7_region 411 [some (aR (some 26)), some (aI x1), some (aI x2), some (aJ x3), none, some (aJ x5), none, some (aI x7), some (aI ((120 * x1) + x7)), none, none, none, none, none] [] M v M')
    (b9 : ∀ (g1 : ¬ ((mI M 30 x1.toNatClampNeg) ≤ x7)) (g3 : (mI M 35 ((120 * x1) + x7).toNatClampNeg) = x2) (g4 : ¬ ((mJ M 46 x7.toNatClampNeg) = (-1))), vp_in (mI M 31 ((120 * x1) + x7).toNatClampNeg) 18)
    (c10 : ∀ (g1 : ¬ ((mI M 30 x1.toNatClampNeg) ≤ x7)) (g3 : (mI M 35 ((120 * x1) + x7).toNatClampNeg) = x2) (g4 : ¬ ((mJ M 46 x7.toNatClampNeg) = (-1))), Ev K_X7_plus [aJ (mJ M 46 x7.toNatClampNeg), aJ (mJ M 33 (mI M 31 ((120 * x1) + x7).toNatClampNeg).toNatClampNeg)] M (some (aJ x105)) M1)
    (k11 : ∀ (g1 : ¬ ((mI M 30 x1.toNatClampNeg) ≤ x7)) (g3 : (mI M 35 ((120 * x1) + x7).toNatClampNeg) = x2) (g4 : ¬ ((mJ M 46 x7.toNatClampNeg) = (-1))) (g6 : ¬ (mI M1 31 ((120 * x1) + x7).toNatClampNeg) = 16), E K_X7_region 151 [some (aR (some 26)), some (aI x1), some (aI x2), some (aJ x3), none, some (aJ x5), none, some (aI x7), some (aI ((120 * x1) + x7)), some (aJ x105), none, none, none, none] [] M1 v M')
    (b12 : ∀ (g1 : ¬ ((mI M 30 x1.toNatClampNeg) ≤ x7)) (g3 : (mI M 35 ((120 * x1) + x7).toNatClampNeg) = x2) (g4 : ¬ ((mJ M 46 x7.toNatClampNeg) = (-1))) (g6 : (mI M1 31 ((120 * x1) + x7).toNatClampNeg) = 16), vp_in ((mJ M1 32 ((120 * x1) + x7).toNatClampNeg : Int64).toInt32) 32)
    (c13 : ∀ (g1 : ¬ ((mI M 30 x1.toNatClampNeg) ≤ x7)) (g3 : (mI M 35 ((120 * x1) + x7).toNatClampNeg) = x2) (g4 : ¬ ((mJ M 46 x7.toNatClampNeg) = (-1))) (g6 : (mI M1 31 ((120 * x1) + x7).toNatClampNeg) = 16), Ev K_X7_plus [aJ x105, aJ (mJ M1 45 ((mJ M1 32 ((120 * x1) + x7).toNatClampNeg : Int64).toInt32).toNatClampNeg)] M1 (some (aJ x107)) M2)
    (k14 : ∀ (g1 : ¬ ((mI M 30 x1.toNatClampNeg) ≤ x7)) (g3 : (mI M 35 ((120 * x1) + x7).toNatClampNeg) = x2) (g4 : ¬ ((mJ M 46 x7.toNatClampNeg) = (-1))) (g6 : (mI M1 31 ((120 * x1) + x7).toNatClampNeg) = 16), E K_X7_region 151 [some (aR (some 26)), some (aI x1), some (aI x2), some (aJ x3), none, some (aJ x5), none, some (aI x7), some (aI ((120 * x1) + x7)), some (aJ x107), none, none, none, none] [] M2 v M') :
    E K_X7_region 50 [some (aR (some 26)), some (aI x1), some (aI x2), some (aJ x3), none, some (aJ x5), none, some (aI x7), none, none, none, none, none, none] [] M v M' := by
  refine e_iload dX7_region_50 rfl ?_
  refine e_aload_n dX7_region_52 rfl ?_
  refine e_get ff_7_3 hS.l26 w838 dX7_region_53 (w := aR (some 30)) hS.f26_3 ?_
  refine e_iload_n dX7_region_56 rfl ?_
  refine e_iald hS.l30 (hS.b30 b1) dX7_region_57 ?_
  refine e_icmp_ge (tgt := 417) dX7_region_58 rfl (fun g1 => ?_) (fun g1 => ?_)
  ·
    refine e_iload_n dX7_region_417 rfl ?_
    refine e_if_lt (tgt := 436) dX7_region_418 rfl (fun g2 => ?_) (fun g2 => ?_)
    ·
      refine e_lload_n dX7_region_436 rfl ?_
      exact e_lret rfl dX7_region_437 (k2 g1 g2)
    ·
      refine e_aload_n dX7_region_421 rfl ?_
      refine e_get ff_7_23 hS.l26 w858 dX7_region_422 (w := aR (some 47)) hS.f26_23 ?_
      refine e_iload_n dX7_region_425 rfl ?_
      refine e_lload dX7_region_426 rfl ?_
      refine e_last hS.l47 (hS.b47 (b3 g1 g2)) dX7_region_428 ?_
      refine e_aload_n dX7_region_429 rfl ?_
      refine e_get ff_7_24 hS.l26 w859 dX7_region_430 (w := aR (some 48)) hS.f26_24 ?_
      refine e_iload_n dX7_region_433 rfl ?_
      refine e_lload_n dX7_region_434 rfl ?_
      refine e_last hS.l48 (hS.b48 (b3 g1 g2)) dX7_region_435 ?_
      refine e_lload_n dX7_region_436 rfl ?_
      exact e_lret rfl dX7_region_437 (k4 g1 g2)
  ·
    refine e_bipush (u := 120) dX7_region_61 (by decide) ?_
    refine e_iload_n dX7_region_63 rfl ?_
    refine e_imul dX7_region_64 ?_
    refine e_iload dX7_region_65 rfl ?_
    refine e_iadd dX7_region_67 ?_
    refine e_istore dX7_region_68 (Nat.le_of_ble_eq_true rfl) ?_
    show E K_X7_region 70 [some (aR (some 26)), some (aI x1), some (aI x2), some (aJ x3), none, some (aJ x5), none, some (aI x7), some (aI ((120 * x1) + x7)), none, none, none, none, none] [] M v M'
    refine e_aload_n dX7_region_70 rfl ?_
    refine e_get ff_7_11 hS.l26 w846 dX7_region_71 (w := aR (some 35)) hS.f26_11 ?_
    refine e_iload dX7_region_74 rfl ?_
    refine e_iald hS.l35 (hS.b35 (b5 g1)) dX7_region_76 ?_
    refine e_iload_n dX7_region_77 rfl ?_
    refine e_icmp_ne (tgt := 411) dX7_region_78 rfl (fun g3 => ?_) (fun g3 => ?_)
    ·
      exact (k6 g1 g3)
    ·
      refine e_aload_n dX7_region_81 rfl ?_
      refine e_get ff_7_22 hS.l26 w857 dX7_region_82 (w := aR (some 46)) hS.f26_22 ?_
      refine e_iload dX7_region_85 rfl ?_
      refine e_lald hS.l46 (hS.b46 (b7 g1 g3)) dX7_region_87 ?_
      refine e_ldc2 dX7_region_88 w1075 ?_
      refine e_lcmp_eq (tgt := 411) dX7_region_91 dX7_region_92 rfl (fun g4 => ?_) (fun g4 => ?_)
      ·
        exact (k8 g1 g3 g4)
      ·
        refine e_aload_n dX7_region_95 rfl ?_
        refine e_get ff_7_22 hS.l26 w857 dX7_region_96 (w := aR (some 46)) hS.f26_22 ?_
        refine e_iload dX7_region_99 rfl ?_
        refine e_lald hS.l46 (hS.b46 (b7 g1 g3)) dX7_region_101 ?_
        refine e_aload_n dX7_region_102 rfl ?_
        refine e_get ff_7_7 hS.l26 w842 dX7_region_103 (w := aR (some 33)) hS.f26_7 ?_
        refine e_aload_n dX7_region_106 rfl ?_
        refine e_get ff_7_5 hS.l26 w840 dX7_region_107 (w := aR (some 31)) hS.f26_5 ?_
        refine e_iload dX7_region_110 rfl ?_
        refine e_iald hS.l31 (hS.b31 (b5 g1)) dX7_region_112 ?_
        refine e_lald hS.l33 (hS.b33 (b9 g1 g3 g4)) dX7_region_113 ?_
        refine e_callS (As := [aJ (mJ M 46 x7.toNatClampNeg), aJ (mJ M 33 (mI M 31 ((120 * x1) + x7).toNatClampNeg).toNatClampNeg)]) (rest := []) sk_X7_plus w1076 ⟨by decide, by decide⟩ (Nat.le_of_ble_eq_true rfl) dX7_region_114 (c10 g1 g3 g4) ?_
        show E K_X7_region 117 [some (aR (some 26)), some (aI x1), some (aI x2), some (aJ x3), none, some (aJ x5), none, some (aI x7), some (aI ((120 * x1) + x7)), none, none, none, none, none] [aJ x105] M1 v M'
        have hS_1 : St M1 := St.sh (M := M) (c10 g1 g3 g4).2.1 hS
        refine e_lstore dX7_region_117 (Nat.le_of_ble_eq_true rfl) ?_
        show E K_X7_region 119 [some (aR (some 26)), some (aI x1), some (aI x2), some (aJ x3), none, some (aJ x5), none, some (aI x7), some (aI ((120 * x1) + x7)), some (aJ x105), none, none, none, none] [] M1 v M'
        refine e_aload_n dX7_region_119 rfl ?_
        refine e_get ff_7_5 hS_1.l26 w840 dX7_region_120 (w := aR (some 31)) hS_1.f26_5 ?_
        refine e_iload dX7_region_123 rfl ?_
        refine e_iald hS_1.l31 (hS_1.b31 (b5 g1)) dX7_region_125 ?_
        refine e_bipush (u := 16) dX7_region_126 (by decide) ?_
        refine e_icmp_ne (tgt := 151) dX7_region_128 rfl (fun g6 => ?_) (fun g6 => ?_)
        ·
          exact (k11 g1 g3 g4 g6)
        ·
          refine e_lload dX7_region_131 rfl ?_
          refine e_aload_n dX7_region_133 rfl ?_
          refine e_get ff_7_21 hS_1.l26 w856 dX7_region_134 (w := aR (some 45)) hS_1.f26_21 ?_
          refine e_aload_n dX7_region_137 rfl ?_
          refine e_get ff_7_6 hS_1.l26 w841 dX7_region_138 (w := aR (some 32)) hS_1.f26_6 ?_
          refine e_iload dX7_region_141 rfl ?_
          refine e_lald hS_1.l32 (hS_1.b32 (b5 g1)) dX7_region_143 ?_
          refine e_l2i dX7_region_144 ?_
          refine e_lald hS_1.l45 (hS_1.b45 (b12 g1 g3 g4 g6)) dX7_region_145 ?_
          refine e_callS (As := [aJ x105, aJ (mJ M1 45 ((mJ M1 32 ((120 * x1) + x7).toNatClampNeg : Int64).toInt32).toNatClampNeg)]) (rest := []) sk_X7_plus w1076 ⟨by decide, by decide⟩ (Nat.le_of_ble_eq_true rfl) dX7_region_146 (c13 g1 g3 g4 g6) ?_
          show E K_X7_region 149 [some (aR (some 26)), some (aI x1), some (aI x2), some (aJ x3), none, some (aJ x5), none, some (aI x7), some (aI ((120 * x1) + x7)), some (aJ x105), none, none, none, none] [aJ x107] M2 v M'
          have hS_2 : St M2 := St.sh (M := M1) (c13 g1 g3 g4 g6).2.1 hS_1
          refine e_lstore dX7_region_149 (Nat.le_of_ble_eq_true rfl) ?_
          show E K_X7_region 151 [some (aR (some 26)), some (aI x1), some (aI x2), some (aJ x3), none, some (aJ x5), none, some (aI x7), some (aI ((120 * x1) + x7)), some (aJ x107), none, none, none, none] [] M2 v M'
          exact (k14 g1 g3 g4 g6)

set_option maxRecDepth 20000 in
theorem s_X7_region_151 {M M' : AM} {v : Option AV} {x1 : Int32} {x2 : Int32} {x3 : Int64} {x5 : Int64} {x7 : Int32} {x8 : Int32} {x9 : Int64} {M1 : AM} {x104 : Int32} {M2 : AM} {M3 : AM} {M4 : AM} {M5 : AM} {M6 : AM} {M7 : AM} {x111 : Int32} {M8 : AM} {M9 : AM} {M10 : AM} {M11 : AM} {M12 : AM} {M13 : AM} {x118 : Int64} {M14 : AM} {x119 : Int64} (hS : St M)
    (b1 : vp_in x8 3840)
    (c2 : ∀ (g1 : ¬ (mI M 31 x8.toNatClampNeg) = 17) (g2 : ¬ (mI M 31 x8.toNatClampNeg) = 15) (g3 : ¬ (mI M 31 x8.toNatClampNeg) = 14), Ev K_X7_onward [aR (some 26), aI x1, aI x7] M (some (aI x104)) M1)
    (c3 : ∀ (g1 : ¬ (mI M 31 x8.toNatClampNeg) = 17) (g2 : ¬ (mI M 31 x8.toNatClampNeg) = 15) (g3 : ¬ (mI M 31 x8.toNatClampNeg) = 14) (g5 : x104 < 0) (g6 : (mI M1 31 x8.toNatClampNeg) = 12), Ev K_X7_reach [aR (some 26), aI ((mJ M1 32 x8.toNatClampNeg : Int64).toInt32), aJ x9] M1 (none) M2)
    (k4 : ∀ (g1 : ¬ (mI M 31 x8.toNatClampNeg) = 17) (g2 : ¬ (mI M 31 x8.toNatClampNeg) = 15) (g3 : ¬ (mI M 31 x8.toNatClampNeg) = 14) (g5 : x104 < 0) (g6 : (mI M1 31 x8.toNatClampNeg) = 12), E K_X7_region 411 [some (aR (some 26)), some (aI x1), some (aI x2), some (aJ x3), none, some (aJ x5), none, some (aI x7), some (aI x8), some (aJ x9), none, some (aI x104), none, none] [] M2 v M')
    (k5 : ∀ (g1 : ¬ (mI M 31 x8.toNatClampNeg) = 17) (g2 : ¬ (mI M 31 x8.toNatClampNeg) = 15) (g3 : ¬ (mI M 31 x8.toNatClampNeg) = 14) (g5 : x104 < 0) (g6 : ¬ (mI M1 31 x8.toNatClampNeg) = 12) (g7 : ¬ (mI M1 31 x8.toNatClampNeg) = 13), E K_X7_region 411 [some (aR (some 26)), some (aI x1), some (aI x2), some (aJ x3), none, some (aJ x5), none, some (aI x7), some (aI x8), some (aJ x9), none, some (aI x104), none, none] [] M1 v M')
    (c6 : ∀ (g1 : ¬ (mI M 31 x8.toNatClampNeg) = 17) (g2 : ¬ (mI M 31 x8.toNatClampNeg) = 15) (g3 : ¬ (mI M 31 x8.toNatClampNeg) = 14) (g5 : x104 < 0) (g6 : ¬ (mI M1 31 x8.toNatClampNeg) = 12) (g7 : (mI M1 31 x8.toNatClampNeg) = 13), Ev K_X7_reach [aR (some 26), aI ((mJ M1 32 x8.toNatClampNeg : Int64).toInt32), aJ x9] M1 (none) M3)
    (k7 : ∀ (g1 : ¬ (mI M 31 x8.toNatClampNeg) = 17) (g2 : ¬ (mI M 31 x8.toNatClampNeg) = 15) (g3 : ¬ (mI M 31 x8.toNatClampNeg) = 14) (g5 : x104 < 0) (g6 : ¬ (mI M1 31 x8.toNatClampNeg) = 12) (g7 : (mI M1 31 x8.toNatClampNeg) = 13), E K_X7_region 411 [some (aR (some 26)), some (aI x1), some (aI x2), some (aJ x3), none, some (aJ x5), none, some (aI x7), some (aI x8), some (aJ x9), none, some (aI x104), none, none] [] M3 v M')
    (c8 : ∀ (g1 : ¬ (mI M 31 x8.toNatClampNeg) = 17) (g2 : ¬ (mI M 31 x8.toNatClampNeg) = 15) (g3 : ¬ (mI M 31 x8.toNatClampNeg) = 14) (g5 : ¬ (x104 < 0)), Ev K_X7_reach [aR (some 26), aI x104, aJ x9] M1 (none) M4)
    (c9 : ∀ (g1 : ¬ (mI M 31 x8.toNatClampNeg) = 17) (g2 : ¬ (mI M 31 x8.toNatClampNeg) = 15) (g3 : ¬ (mI M 31 x8.toNatClampNeg) = 14) (g5 : ¬ (x104 < 0)) (g8 : (mI M4 31 x8.toNatClampNeg) = 12), Ev K_X7_reach [aR (some 26), aI ((mJ M4 32 x8.toNatClampNeg : Int64).toInt32), aJ x9] M4 (none) M5)
    (k10 : ∀ (g1 : ¬ (mI M 31 x8.toNatClampNeg) = 17) (g2 : ¬ (mI M 31 x8.toNatClampNeg) = 15) (g3 : ¬ (mI M 31 x8.toNatClampNeg) = 14) (g5 : ¬ (x104 < 0)) (g8 : (mI M4 31 x8.toNatClampNeg) = 12), E K_X7_region 411 [some (aR (some 26)), some (aI x1), some (aI x2), some (aJ x3), none, some (aJ x5), none, some (aI x7), some (aI x8), some (aJ x9), none, some (aI x104), none, none] [] M5 v M')
    (k11 : ∀ (g1 : ¬ (mI M 31 x8.toNatClampNeg) = 17) (g2 : ¬ (mI M 31 x8.toNatClampNeg) = 15) (g3 : ¬ (mI M 31 x8.toNatClampNeg) = 14) (g5 : ¬ (x104 < 0)) (g8 : ¬ (mI M4 31 x8.toNatClampNeg) = 12) (g9 : ¬ (mI M4 31 x8.toNatClampNeg) = 13), E K_X7_region 411 [some (aR (some 26)), some (aI x1), some (aI x2), some (aJ x3), none, some (aJ x5), none, some (aI x7), some (aI x8), some (aJ x9), none, some (aI x104), none, none] [] M4 v M')
    (c12 : ∀ (g1 : ¬ (mI M 31 x8.toNatClampNeg) = 17) (g2 : ¬ (mI M 31 x8.toNatClampNeg) = 15) (g3 : ¬ (mI M 31 x8.toNatClampNeg) = 14) (g5 : ¬ (x104 < 0)) (g8 : ¬ (mI M4 31 x8.toNatClampNeg) = 12) (g9 : (mI M4 31 x8.toNatClampNeg) = 13), Ev K_X7_reach [aR (some 26), aI ((mJ M4 32 x8.toNatClampNeg : Int64).toInt32), aJ x9] M4 (none) M6)
    (k13 : ∀ (g1 : ¬ (mI M 31 x8.toNatClampNeg) = 17) (g2 : ¬ (mI M 31 x8.toNatClampNeg) = 15) (g3 : ¬ (mI M 31 x8.toNatClampNeg) = 14) (g5 : ¬ (x104 < 0)) (g8 : ¬ (mI M4 31 x8.toNatClampNeg) = 12) (g9 : (mI M4 31 x8.toNatClampNeg) = 13), E K_X7_region 411 [some (aR (some 26)), some (aI x1), some (aI x2), some (aJ x3), none, some (aJ x5), none, some (aI x7), some (aI x8), some (aJ x9), none, some (aI x104), none, none] [] M6 v M')
    (c14 : ∀ (g1 : ¬ (mI M 31 x8.toNatClampNeg) = 17) (g2 : ¬ (mI M 31 x8.toNatClampNeg) = 15) (g3 : (mI M 31 x8.toNatClampNeg) = 14) (g10 : ¬ (0 < (mJ M 32 x8.toNatClampNeg))), Ev K_X7_onward [aR (some 26), aI x1, aI x7] M (some (aI x111)) M7)
    (c15 : ∀ (g1 : ¬ (mI M 31 x8.toNatClampNeg) = 17) (g2 : ¬ (mI M 31 x8.toNatClampNeg) = 15) (g3 : (mI M 31 x8.toNatClampNeg) = 14) (g10 : ¬ (0 < (mJ M 32 x8.toNatClampNeg))) (g12 : x111 < 0) (g13 : (mI M7 31 x8.toNatClampNeg) = 12), Ev K_X7_reach [aR (some 26), aI ((mJ M7 32 x8.toNatClampNeg : Int64).toInt32), aJ x9] M7 (none) M8)
    (k16 : ∀ (g1 : ¬ (mI M 31 x8.toNatClampNeg) = 17) (g2 : ¬ (mI M 31 x8.toNatClampNeg) = 15) (g3 : (mI M 31 x8.toNatClampNeg) = 14) (g10 : ¬ (0 < (mJ M 32 x8.toNatClampNeg))) (g12 : x111 < 0) (g13 : (mI M7 31 x8.toNatClampNeg) = 12), E K_X7_region 411 [some (aR (some 26)), some (aI x1), some (aI x2), some (aJ x3), none, some (aJ x5), none, some (aI x7), some (aI x8), some (aJ x9), none, some (aI x111), none, none] [] M8 v M')
    (k17 : ∀ (g1 : ¬ (mI M 31 x8.toNatClampNeg) = 17) (g2 : ¬ (mI M 31 x8.toNatClampNeg) = 15) (g3 : (mI M 31 x8.toNatClampNeg) = 14) (g10 : ¬ (0 < (mJ M 32 x8.toNatClampNeg))) (g12 : x111 < 0) (g13 : ¬ (mI M7 31 x8.toNatClampNeg) = 12) (g14 : ¬ (mI M7 31 x8.toNatClampNeg) = 13), E K_X7_region 411 [some (aR (some 26)), some (aI x1), some (aI x2), some (aJ x3), none, some (aJ x5), none, some (aI x7), some (aI x8), some (aJ x9), none, some (aI x111), none, none] [] M7 v M')
    (c18 : ∀ (g1 : ¬ (mI M 31 x8.toNatClampNeg) = 17) (g2 : ¬ (mI M 31 x8.toNatClampNeg) = 15) (g3 : (mI M 31 x8.toNatClampNeg) = 14) (g10 : ¬ (0 < (mJ M 32 x8.toNatClampNeg))) (g12 : x111 < 0) (g13 : ¬ (mI M7 31 x8.toNatClampNeg) = 12) (g14 : (mI M7 31 x8.toNatClampNeg) = 13), Ev K_X7_reach [aR (some 26), aI ((mJ M7 32 x8.toNatClampNeg : Int64).toInt32), aJ x9] M7 (none) M9)
    (k19 : ∀ (g1 : ¬ (mI M 31 x8.toNatClampNeg) = 17) (g2 : ¬ (mI M 31 x8.toNatClampNeg) = 15) (g3 : (mI M 31 x8.toNatClampNeg) = 14) (g10 : ¬ (0 < (mJ M 32 x8.toNatClampNeg))) (g12 : x111 < 0) (g13 : ¬ (mI M7 31 x8.toNatClampNeg) = 12) (g14 : (mI M7 31 x8.toNatClampNeg) = 13), E K_X7_region 411 [some (aR (some 26)), some (aI x1), some (aI x2), some (aJ x3), none, some (aJ x5), none, some (aI x7), some (aI x8), some (aJ x9), none, some (aI x111), none, none] [] M9 v M')
    (c20 : ∀ (g1 : ¬ (mI M 31 x8.toNatClampNeg) = 17) (g2 : ¬ (mI M 31 x8.toNatClampNeg) = 15) (g3 : (mI M 31 x8.toNatClampNeg) = 14) (g10 : ¬ (0 < (mJ M 32 x8.toNatClampNeg))) (g12 : ¬ (x111 < 0)), Ev K_X7_reach [aR (some 26), aI x111, aJ x9] M7 (none) M10)
    (c21 : ∀ (g1 : ¬ (mI M 31 x8.toNatClampNeg) = 17) (g2 : ¬ (mI M 31 x8.toNatClampNeg) = 15) (g3 : (mI M 31 x8.toNatClampNeg) = 14) (g10 : ¬ (0 < (mJ M 32 x8.toNatClampNeg))) (g12 : ¬ (x111 < 0)) (g15 : (mI M10 31 x8.toNatClampNeg) = 12), Ev K_X7_reach [aR (some 26), aI ((mJ M10 32 x8.toNatClampNeg : Int64).toInt32), aJ x9] M10 (none) M11)
    (k22 : ∀ (g1 : ¬ (mI M 31 x8.toNatClampNeg) = 17) (g2 : ¬ (mI M 31 x8.toNatClampNeg) = 15) (g3 : (mI M 31 x8.toNatClampNeg) = 14) (g10 : ¬ (0 < (mJ M 32 x8.toNatClampNeg))) (g12 : ¬ (x111 < 0)) (g15 : (mI M10 31 x8.toNatClampNeg) = 12), E K_X7_region 411 [some (aR (some 26)), some (aI x1), some (aI x2), some (aJ x3), none, some (aJ x5), none, some (aI x7), some (aI x8), some (aJ x9), none, some (aI x111), none, none] [] M11 v M')
    (k23 : ∀ (g1 : ¬ (mI M 31 x8.toNatClampNeg) = 17) (g2 : ¬ (mI M 31 x8.toNatClampNeg) = 15) (g3 : (mI M 31 x8.toNatClampNeg) = 14) (g10 : ¬ (0 < (mJ M 32 x8.toNatClampNeg))) (g12 : ¬ (x111 < 0)) (g15 : ¬ (mI M10 31 x8.toNatClampNeg) = 12) (g16 : ¬ (mI M10 31 x8.toNatClampNeg) = 13), E K_X7_region 411 [some (aR (some 26)), some (aI x1), some (aI x2), some (aJ x3), none, some (aJ x5), none, some (aI x7), some (aI x8), some (aJ x9), none, some (aI x111), none, none] [] M10 v M')
    (c24 : ∀ (g1 : ¬ (mI M 31 x8.toNatClampNeg) = 17) (g2 : ¬ (mI M 31 x8.toNatClampNeg) = 15) (g3 : (mI M 31 x8.toNatClampNeg) = 14) (g10 : ¬ (0 < (mJ M 32 x8.toNatClampNeg))) (g12 : ¬ (x111 < 0)) (g15 : ¬ (mI M10 31 x8.toNatClampNeg) = 12) (g16 : (mI M10 31 x8.toNatClampNeg) = 13), Ev K_X7_reach [aR (some 26), aI ((mJ M10 32 x8.toNatClampNeg : Int64).toInt32), aJ x9] M10 (none) M12)
    (k25 : ∀ (g1 : ¬ (mI M 31 x8.toNatClampNeg) = 17) (g2 : ¬ (mI M 31 x8.toNatClampNeg) = 15) (g3 : (mI M 31 x8.toNatClampNeg) = 14) (g10 : ¬ (0 < (mJ M 32 x8.toNatClampNeg))) (g12 : ¬ (x111 < 0)) (g15 : ¬ (mI M10 31 x8.toNatClampNeg) = 12) (g16 : (mI M10 31 x8.toNatClampNeg) = 13), E K_X7_region 411 [some (aR (some 26)), some (aI x1), some (aI x2), some (aJ x3), none, some (aJ x5), none, some (aI x7), some (aI x8), some (aJ x9), none, some (aI x111), none, none] [] M12 v M')
    (b26 : ∀ (g1 : ¬ (mI M 31 x8.toNatClampNeg) = 17) (g2 : ¬ (mI M 31 x8.toNatClampNeg) = 15) (g3 : (mI M 31 x8.toNatClampNeg) = 14) (g10 : 0 < (mJ M 32 x8.toNatClampNeg)), vp_in x7 120)
    (k27 : ∀ (g1 : ¬ (mI M 31 x8.toNatClampNeg) = 17) (g2 : ¬ (mI M 31 x8.toNatClampNeg) = 15) (g3 : (mI M 31 x8.toNatClampNeg) = 14) (g10 : 0 < (mJ M 32 x8.toNatClampNeg)) (g17 : (mJ M 47 x7.toNatClampNeg) = (-1)), E K_X7_region 240 [some (aR (some 26)), some (aI x1), some (aI x2), some (aJ x3), none, some (aJ x5), none, some (aI x7), some (aI x8), some (aJ x9), none, none, none, none] [aI 0] M v M')
    (k28 : ∀ (g1 : ¬ (mI M 31 x8.toNatClampNeg) = 17) (g2 : ¬ (mI M 31 x8.toNatClampNeg) = 15) (g3 : (mI M 31 x8.toNatClampNeg) = 14) (g10 : 0 < (mJ M 32 x8.toNatClampNeg)) (g17 : ¬ ((mJ M 47 x7.toNatClampNeg) = (-1))), E K_X7_region 240 [some (aR (some 26)), some (aI x1), some (aI x2), some (aJ x3), none, some (aJ x5), none, some (aI x7), some (aI x8), some (aJ x9), none, none, none, none] [aI 1] M v M')
    (c29 : ∀ (g1 : ¬ (mI M 31 x8.toNatClampNeg) = 17) (g2 : (mI M 31 x8.toNatClampNeg) = 15), Ev K_X7_greater [aJ x5, aJ x9] M (some (aJ x118)) M13)
    (k30 : ∀ (g1 : ¬ (mI M 31 x8.toNatClampNeg) = 17) (g2 : (mI M 31 x8.toNatClampNeg) = 15), E K_X7_region 411 [some (aR (some 26)), some (aI x1), some (aI x2), some (aJ x3), none, some (aJ x118), none, some (aI x7), some (aI x8), some (aJ x9), none, none, none, none] [] M13 v M')
    (c31 : ∀ (g1 : (mI M 31 x8.toNatClampNeg) = 17), Ev K_X7_greater [aJ x3, aJ x9] M (some (aJ x119)) M14)
    (k32 : ∀ (g1 : (mI M 31 x8.toNatClampNeg) = 17), E K_X7_region 411 [some (aR (some 26)), some (aI x1), some (aI x2), some (aJ x119), none, some (aJ x5), none, some (aI x7), some (aI x8), some (aJ x9), none, none, none, none] [] M14 v M') :
    E K_X7_region 151 [some (aR (some 26)), some (aI x1), some (aI x2), some (aJ x3), none, some (aJ x5), none, some (aI x7), some (aI x8), some (aJ x9), none, none, none, none] [] M v M' := by
  refine e_aload_n dX7_region_151 rfl ?_
  refine e_get ff_7_5 hS.l26 w840 dX7_region_152 (w := aR (some 31)) hS.f26_5 ?_
  refine e_iload dX7_region_155 rfl ?_
  refine e_iald hS.l31 (hS.b31 b1) dX7_region_157 ?_
  refine e_bipush (u := 17) dX7_region_158 (by decide) ?_
  refine e_icmp_ne (tgt := 173) dX7_region_160 rfl (fun g1 => ?_) (fun g1 => ?_)
  ·
    refine e_aload_n dX7_region_173 rfl ?_
    refine e_get ff_7_5 hS.l26 w840 dX7_region_174 (w := aR (some 31)) hS.f26_5 ?_
    refine e_iload dX7_region_177 rfl ?_
    refine e_iald hS.l31 (hS.b31 b1) dX7_region_179 ?_
    refine e_bipush (u := 15) dX7_region_180 (by decide) ?_
    refine e_icmp_ne (tgt := 197) dX7_region_182 rfl (fun g2 => ?_) (fun g2 => ?_)
    ·
      refine e_aload_n dX7_region_197 rfl ?_
      refine e_get ff_7_5 hS.l26 w840 dX7_region_198 (w := aR (some 31)) hS.f26_5 ?_
      refine e_iload dX7_region_201 rfl ?_
      refine e_iald hS.l31 (hS.b31 b1) dX7_region_203 ?_
      refine e_bipush (u := 14) dX7_region_204 (by decide) ?_
      refine e_icmp_ne (tgt := 351) dX7_region_206 rfl (fun g3 => ?_) (fun g3 => ?_)
      ·
        refine e_aload_n dX7_region_351 rfl ?_
        refine e_iload_n dX7_region_352 rfl ?_
        refine e_iload dX7_region_353 rfl ?_
        refine e_callV (As := [aI x1, aI x7]) (rest := []) vk_X7_onward hS.l26 w1019 ⟨by decide, by decide⟩ (Nat.le_of_ble_eq_true rfl) dX7_region_355 (c2 g1 g2 g3) ?_
        show E K_X7_region 358 [some (aR (some 26)), some (aI x1), some (aI x2), some (aJ x3), none, some (aJ x5), none, some (aI x7), some (aI x8), some (aJ x9), none, none, none, none] [aI x104] M1 v M'
        have hS_1 : St M1 := St.sh (M := M) (c2 g1 g2 g3).2.1 hS
        refine e_istore dX7_region_358 (Nat.le_of_ble_eq_true rfl) ?_
        show E K_X7_region 360 [some (aR (some 26)), some (aI x1), some (aI x2), some (aJ x3), none, some (aJ x5), none, some (aI x7), some (aI x8), some (aJ x9), none, some (aI x104), none, none] [] M1 v M'
        refine e_iload dX7_region_360 rfl ?_
        refine e_if_lt (tgt := 373) dX7_region_362 rfl (fun g5 => ?_) (fun g5 => ?_)
        ·
          refine e_aload_n dX7_region_373 rfl ?_
          refine e_get ff_7_5 hS_1.l26 w840 dX7_region_374 (w := aR (some 31)) hS_1.f26_5 ?_
          refine e_iload dX7_region_377 rfl ?_
          refine e_iald hS_1.l31 (hS_1.b31 b1) dX7_region_379 ?_
          refine e_bipush (u := 12) dX7_region_380 (by decide) ?_
          refine e_icmp_eq (tgt := 397) dX7_region_382 rfl (fun g6 => ?_) (fun g6 => ?_)
          ·
            refine e_aload_n dX7_region_397 rfl ?_
            refine e_aload_n dX7_region_398 rfl ?_
            refine e_get ff_7_6 hS_1.l26 w841 dX7_region_399 (w := aR (some 32)) hS_1.f26_6 ?_
            refine e_iload dX7_region_402 rfl ?_
            refine e_lald hS_1.l32 (hS_1.b32 b1) dX7_region_404 ?_
            refine e_l2i dX7_region_405 ?_
            refine e_lload dX7_region_406 rfl ?_
            refine e_callV (As := [aI ((mJ M1 32 x8.toNatClampNeg : Int64).toInt32), aJ x9]) (rest := []) vk_X7_reach hS_1.l26 w1087 ⟨by decide, by decide⟩ (Nat.le_of_ble_eq_true rfl) dX7_region_408 (c3 g1 g2 g3 g5 g6) ?_
            show E K_X7_region 411 [some (aR (some 26)), some (aI x1), some (aI x2), some (aJ x3), none, some (aJ x5), none, some (aI x7), some (aI x8), some (aJ x9), none, some (aI x104), none, none] [] M2 v M'
            have hS_2 : St M2 := St.sh (M := M1) (c3 g1 g2 g3 g5 g6).2.1 hS_1
            exact (k4 g1 g2 g3 g5 g6)
          ·
            refine e_aload_n dX7_region_385 rfl ?_
            refine e_get ff_7_5 hS_1.l26 w840 dX7_region_386 (w := aR (some 31)) hS_1.f26_5 ?_
            refine e_iload dX7_region_389 rfl ?_
            refine e_iald hS_1.l31 (hS_1.b31 b1) dX7_region_391 ?_
            refine e_bipush (u := 13) dX7_region_392 (by decide) ?_
            refine e_icmp_ne (tgt := 411) dX7_region_394 rfl (fun g7 => ?_) (fun g7 => ?_)
            ·
              exact (k5 g1 g2 g3 g5 g6 g7)
            ·
              refine e_aload_n dX7_region_397 rfl ?_
              refine e_aload_n dX7_region_398 rfl ?_
              refine e_get ff_7_6 hS_1.l26 w841 dX7_region_399 (w := aR (some 32)) hS_1.f26_6 ?_
              refine e_iload dX7_region_402 rfl ?_
              refine e_lald hS_1.l32 (hS_1.b32 b1) dX7_region_404 ?_
              refine e_l2i dX7_region_405 ?_
              refine e_lload dX7_region_406 rfl ?_
              refine e_callV (As := [aI ((mJ M1 32 x8.toNatClampNeg : Int64).toInt32), aJ x9]) (rest := []) vk_X7_reach hS_1.l26 w1087 ⟨by decide, by decide⟩ (Nat.le_of_ble_eq_true rfl) dX7_region_408 (c6 g1 g2 g3 g5 g6 g7) ?_
              show E K_X7_region 411 [some (aR (some 26)), some (aI x1), some (aI x2), some (aJ x3), none, some (aJ x5), none, some (aI x7), some (aI x8), some (aJ x9), none, some (aI x104), none, none] [] M3 v M'
              have hS_3 : St M3 := St.sh (M := M1) (c6 g1 g2 g3 g5 g6 g7).2.1 hS_1
              exact (k7 g1 g2 g3 g5 g6 g7)
        ·
          refine e_aload_n dX7_region_365 rfl ?_
          refine e_iload dX7_region_366 rfl ?_
          refine e_lload dX7_region_368 rfl ?_
          refine e_callV (As := [aI x104, aJ x9]) (rest := []) vk_X7_reach hS_1.l26 w1087 ⟨by decide, by decide⟩ (Nat.le_of_ble_eq_true rfl) dX7_region_370 (c8 g1 g2 g3 g5) ?_
          show E K_X7_region 373 [some (aR (some 26)), some (aI x1), some (aI x2), some (aJ x3), none, some (aJ x5), none, some (aI x7), some (aI x8), some (aJ x9), none, some (aI x104), none, none] [] M4 v M'
          have hS_4 : St M4 := St.sh (M := M1) (c8 g1 g2 g3 g5).2.1 hS_1
          refine e_aload_n dX7_region_373 rfl ?_
          refine e_get ff_7_5 hS_4.l26 w840 dX7_region_374 (w := aR (some 31)) hS_4.f26_5 ?_
          refine e_iload dX7_region_377 rfl ?_
          refine e_iald hS_4.l31 (hS_4.b31 b1) dX7_region_379 ?_
          refine e_bipush (u := 12) dX7_region_380 (by decide) ?_
          refine e_icmp_eq (tgt := 397) dX7_region_382 rfl (fun g8 => ?_) (fun g8 => ?_)
          ·
            refine e_aload_n dX7_region_397 rfl ?_
            refine e_aload_n dX7_region_398 rfl ?_
            refine e_get ff_7_6 hS_4.l26 w841 dX7_region_399 (w := aR (some 32)) hS_4.f26_6 ?_
            refine e_iload dX7_region_402 rfl ?_
            refine e_lald hS_4.l32 (hS_4.b32 b1) dX7_region_404 ?_
            refine e_l2i dX7_region_405 ?_
            refine e_lload dX7_region_406 rfl ?_
            refine e_callV (As := [aI ((mJ M4 32 x8.toNatClampNeg : Int64).toInt32), aJ x9]) (rest := []) vk_X7_reach hS_4.l26 w1087 ⟨by decide, by decide⟩ (Nat.le_of_ble_eq_true rfl) dX7_region_408 (c9 g1 g2 g3 g5 g8) ?_
            show E K_X7_region 411 [some (aR (some 26)), some (aI x1), some (aI x2), some (aJ x3), none, some (aJ x5), none, some (aI x7), some (aI x8), some (aJ x9), none, some (aI x104), none, none] [] M5 v M'
            have hS_5 : St M5 := St.sh (M := M4) (c9 g1 g2 g3 g5 g8).2.1 hS_4
            exact (k10 g1 g2 g3 g5 g8)
          ·
            refine e_aload_n dX7_region_385 rfl ?_
            refine e_get ff_7_5 hS_4.l26 w840 dX7_region_386 (w := aR (some 31)) hS_4.f26_5 ?_
            refine e_iload dX7_region_389 rfl ?_
            refine e_iald hS_4.l31 (hS_4.b31 b1) dX7_region_391 ?_
            refine e_bipush (u := 13) dX7_region_392 (by decide) ?_
            refine e_icmp_ne (tgt := 411) dX7_region_394 rfl (fun g9 => ?_) (fun g9 => ?_)
            ·
              exact (k11 g1 g2 g3 g5 g8 g9)
            ·
              refine e_aload_n dX7_region_397 rfl ?_
              refine e_aload_n dX7_region_398 rfl ?_
              refine e_get ff_7_6 hS_4.l26 w841 dX7_region_399 (w := aR (some 32)) hS_4.f26_6 ?_
              refine e_iload dX7_region_402 rfl ?_
              refine e_lald hS_4.l32 (hS_4.b32 b1) dX7_region_404 ?_
              refine e_l2i dX7_region_405 ?_
              refine e_lload dX7_region_406 rfl ?_
              refine e_callV (As := [aI ((mJ M4 32 x8.toNatClampNeg : Int64).toInt32), aJ x9]) (rest := []) vk_X7_reach hS_4.l26 w1087 ⟨by decide, by decide⟩ (Nat.le_of_ble_eq_true rfl) dX7_region_408 (c12 g1 g2 g3 g5 g8 g9) ?_
              show E K_X7_region 411 [some (aR (some 26)), some (aI x1), some (aI x2), some (aJ x3), none, some (aJ x5), none, some (aI x7), some (aI x8), some (aJ x9), none, some (aI x104), none, none] [] M6 v M'
              have hS_6 : St M6 := St.sh (M := M4) (c12 g1 g2 g3 g5 g8 g9).2.1 hS_4
              exact (k13 g1 g2 g3 g5 g8 g9)
      ·
        refine e_aload_n dX7_region_209 rfl ?_
        refine e_get ff_7_6 hS.l26 w841 dX7_region_210 (w := aR (some 32)) hS.f26_6 ?_
        refine e_iload dX7_region_213 rfl ?_
        refine e_lald hS.l32 (hS.b32 b1) dX7_region_215 ?_
        refine e_lconst (u := 0) dX7_region_216 (by decide) ?_
        refine e_lcmp_le (tgt := 351) dX7_region_217 dX7_region_218 rfl (fun g10 => ?_) (fun g10 => ?_)
        ·
          refine e_aload_n dX7_region_351 rfl ?_
          refine e_iload_n dX7_region_352 rfl ?_
          refine e_iload dX7_region_353 rfl ?_
          refine e_callV (As := [aI x1, aI x7]) (rest := []) vk_X7_onward hS.l26 w1019 ⟨by decide, by decide⟩ (Nat.le_of_ble_eq_true rfl) dX7_region_355 (c14 g1 g2 g3 g10) ?_
          show E K_X7_region 358 [some (aR (some 26)), some (aI x1), some (aI x2), some (aJ x3), none, some (aJ x5), none, some (aI x7), some (aI x8), some (aJ x9), none, none, none, none] [aI x111] M7 v M'
          have hS_7 : St M7 := St.sh (M := M) (c14 g1 g2 g3 g10).2.1 hS
          refine e_istore dX7_region_358 (Nat.le_of_ble_eq_true rfl) ?_
          show E K_X7_region 360 [some (aR (some 26)), some (aI x1), some (aI x2), some (aJ x3), none, some (aJ x5), none, some (aI x7), some (aI x8), some (aJ x9), none, some (aI x111), none, none] [] M7 v M'
          refine e_iload dX7_region_360 rfl ?_
          refine e_if_lt (tgt := 373) dX7_region_362 rfl (fun g12 => ?_) (fun g12 => ?_)
          ·
            refine e_aload_n dX7_region_373 rfl ?_
            refine e_get ff_7_5 hS_7.l26 w840 dX7_region_374 (w := aR (some 31)) hS_7.f26_5 ?_
            refine e_iload dX7_region_377 rfl ?_
            refine e_iald hS_7.l31 (hS_7.b31 b1) dX7_region_379 ?_
            refine e_bipush (u := 12) dX7_region_380 (by decide) ?_
            refine e_icmp_eq (tgt := 397) dX7_region_382 rfl (fun g13 => ?_) (fun g13 => ?_)
            ·
              refine e_aload_n dX7_region_397 rfl ?_
              refine e_aload_n dX7_region_398 rfl ?_
              refine e_get ff_7_6 hS_7.l26 w841 dX7_region_399 (w := aR (some 32)) hS_7.f26_6 ?_
              refine e_iload dX7_region_402 rfl ?_
              refine e_lald hS_7.l32 (hS_7.b32 b1) dX7_region_404 ?_
              refine e_l2i dX7_region_405 ?_
              refine e_lload dX7_region_406 rfl ?_
              refine e_callV (As := [aI ((mJ M7 32 x8.toNatClampNeg : Int64).toInt32), aJ x9]) (rest := []) vk_X7_reach hS_7.l26 w1087 ⟨by decide, by decide⟩ (Nat.le_of_ble_eq_true rfl) dX7_region_408 (c15 g1 g2 g3 g10 g12 g13) ?_
              show E K_X7_region 411 [some (aR (some 26)), some (aI x1), some (aI x2), some (aJ x3), none, some (aJ x5), none, some (aI x7), some (aI x8), some (aJ x9), none, some (aI x111), none, none] [] M8 v M'
              have hS_8 : St M8 := St.sh (M := M7) (c15 g1 g2 g3 g10 g12 g13).2.1 hS_7
              exact (k16 g1 g2 g3 g10 g12 g13)
            ·
              refine e_aload_n dX7_region_385 rfl ?_
              refine e_get ff_7_5 hS_7.l26 w840 dX7_region_386 (w := aR (some 31)) hS_7.f26_5 ?_
              refine e_iload dX7_region_389 rfl ?_
              refine e_iald hS_7.l31 (hS_7.b31 b1) dX7_region_391 ?_
              refine e_bipush (u := 13) dX7_region_392 (by decide) ?_
              refine e_icmp_ne (tgt := 411) dX7_region_394 rfl (fun g14 => ?_) (fun g14 => ?_)
              ·
                exact (k17 g1 g2 g3 g10 g12 g13 g14)
              ·
                refine e_aload_n dX7_region_397 rfl ?_
                refine e_aload_n dX7_region_398 rfl ?_
                refine e_get ff_7_6 hS_7.l26 w841 dX7_region_399 (w := aR (some 32)) hS_7.f26_6 ?_
                refine e_iload dX7_region_402 rfl ?_
                refine e_lald hS_7.l32 (hS_7.b32 b1) dX7_region_404 ?_
                refine e_l2i dX7_region_405 ?_
                refine e_lload dX7_region_406 rfl ?_
                refine e_callV (As := [aI ((mJ M7 32 x8.toNatClampNeg : Int64).toInt32), aJ x9]) (rest := []) vk_X7_reach hS_7.l26 w1087 ⟨by decide, by decide⟩ (Nat.le_of_ble_eq_true rfl) dX7_region_408 (c18 g1 g2 g3 g10 g12 g13 g14) ?_
                show E K_X7_region 411 [some (aR (some 26)), some (aI x1), some (aI x2), some (aJ x3), none, some (aJ x5), none, some (aI x7), some (aI x8), some (aJ x9), none, some (aI x111), none, none] [] M9 v M'
                have hS_9 : St M9 := St.sh (M := M7) (c18 g1 g2 g3 g10 g12 g13 g14).2.1 hS_7
                exact (k19 g1 g2 g3 g10 g12 g13 g14)
          ·
            refine e_aload_n dX7_region_365 rfl ?_
            refine e_iload dX7_region_366 rfl ?_
            refine e_lload dX7_region_368 rfl ?_
            refine e_callV (As := [aI x111, aJ x9]) (rest := []) vk_X7_reach hS_7.l26 w1087 ⟨by decide, by decide⟩ (Nat.le_of_ble_eq_true rfl) dX7_region_370 (c20 g1 g2 g3 g10 g12) ?_
            show E K_X7_region 373 [some (aR (some 26)), some (aI x1), some (aI x2), some (aJ x3), none, some (aJ x5), none, some (aI x7), some (aI x8), some (aJ x9), none, some (aI x111), none, none] [] M10 v M'
            have hS_10 : St M10 := St.sh (M := M7) (c20 g1 g2 g3 g10 g12).2.1 hS_7
            refine e_aload_n dX7_region_373 rfl ?_
            refine e_get ff_7_5 hS_10.l26 w840 dX7_region_374 (w := aR (some 31)) hS_10.f26_5 ?_
            refine e_iload dX7_region_377 rfl ?_
            refine e_iald hS_10.l31 (hS_10.b31 b1) dX7_region_379 ?_
            refine e_bipush (u := 12) dX7_region_380 (by decide) ?_
            refine e_icmp_eq (tgt := 397) dX7_region_382 rfl (fun g15 => ?_) (fun g15 => ?_)
            ·
              refine e_aload_n dX7_region_397 rfl ?_
              refine e_aload_n dX7_region_398 rfl ?_
              refine e_get ff_7_6 hS_10.l26 w841 dX7_region_399 (w := aR (some 32)) hS_10.f26_6 ?_
              refine e_iload dX7_region_402 rfl ?_
              refine e_lald hS_10.l32 (hS_10.b32 b1) dX7_region_404 ?_
              refine e_l2i dX7_region_405 ?_
              refine e_lload dX7_region_406 rfl ?_
              refine e_callV (As := [aI ((mJ M10 32 x8.toNatClampNeg : Int64).toInt32), aJ x9]) (rest := []) vk_X7_reach hS_10.l26 w1087 ⟨by decide, by decide⟩ (Nat.le_of_ble_eq_true rfl) dX7_region_408 (c21 g1 g2 g3 g10 g12 g15) ?_
              show E K_X7_region 411 [some (aR (some 26)), some (aI x1), some (aI x2), some (aJ x3), none, some (aJ x5), none, some (aI x7), some (aI x8), some (aJ x9), none, some (aI x111), none, none] [] M11 v M'
              have hS_11 : St M11 := St.sh (M := M10) (c21 g1 g2 g3 g10 g12 g15).2.1 hS_10
              exact (k22 g1 g2 g3 g10 g12 g15)
            ·
              refine e_aload_n dX7_region_385 rfl ?_
              refine e_get ff_7_5 hS_10.l26 w840 dX7_region_386 (w := aR (some 31)) hS_10.f26_5 ?_
              refine e_iload dX7_region_389 rfl ?_
              refine e_iald hS_10.l31 (hS_10.b31 b1) dX7_region_391 ?_
              refine e_bipush (u := 13) dX7_region_392 (by decide) ?_
              refine e_icmp_ne (tgt := 411) dX7_region_394 rfl (fun g16 => ?_) (fun g16 => ?_)
              ·
                exact (k23 g1 g2 g3 g10 g12 g15 g16)
              ·
                refine e_aload_n dX7_region_397 rfl ?_
                refine e_aload_n dX7_region_398 rfl ?_
                refine e_get ff_7_6 hS_10.l26 w841 dX7_region_399 (w := aR (some 32)) hS_10.f26_6 ?_
                refine e_iload dX7_region_402 rfl ?_
                refine e_lald hS_10.l32 (hS_10.b32 b1) dX7_region_404 ?_
                refine e_l2i dX7_region_405 ?_
                refine e_lload dX7_region_406 rfl ?_
                refine e_callV (As := [aI ((mJ M10 32 x8.toNatClampNeg : Int64).toInt32), aJ x9]) (rest := []) vk_X7_reach hS_10.l26 w1087 ⟨by decide, by decide⟩ (Nat.le_of_ble_eq_true rfl) dX7_region_408 (c24 g1 g2 g3 g10 g12 g15 g16) ?_
                show E K_X7_region 411 [some (aR (some 26)), some (aI x1), some (aI x2), some (aJ x3), none, some (aJ x5), none, some (aI x7), some (aI x8), some (aJ x9), none, some (aI x111), none, none] [] M12 v M'
                have hS_12 : St M12 := St.sh (M := M10) (c24 g1 g2 g3 g10 g12 g15 g16).2.1 hS_10
                exact (k25 g1 g2 g3 g10 g12 g15 g16)
        ·
          refine e_aload_n dX7_region_221 rfl ?_
          refine e_get ff_7_23 hS.l26 w858 dX7_region_222 (w := aR (some 47)) hS.f26_23 ?_
          refine e_iload dX7_region_225 rfl ?_
          refine e_lald hS.l47 (hS.b47 (b26 g1 g2 g3 g10)) dX7_region_227 ?_
          refine e_ldc2 dX7_region_228 w1075 ?_
          refine e_lcmp_eq (tgt := 239) dX7_region_231 dX7_region_232 rfl (fun g17 => ?_) (fun g17 => ?_)
          ·
            refine e_iconst (u := 0) dX7_region_239 (by decide) ?_
            exact (k27 g1 g2 g3 g10 g17)
          ·
            refine e_iconst (u := 1) dX7_region_235 (by decide) ?_
            refine e_goto (tgt := 240) dX7_region_236 rfl ?_
            exact (k28 g1 g2 g3 g10 g17)
    ·
      refine e_lload dX7_region_185 rfl ?_
      refine e_lload dX7_region_187 rfl ?_
      refine e_callS (As := [aJ x5, aJ x9]) (rest := []) sk_X7_greater w1080 ⟨by decide, by decide⟩ (Nat.le_of_ble_eq_true rfl) dX7_region_189 (c29 g1 g2) ?_
      show E K_X7_region 192 [some (aR (some 26)), some (aI x1), some (aI x2), some (aJ x3), none, some (aJ x5), none, some (aI x7), some (aI x8), some (aJ x9), none, none, none, none] [aJ x118] M13 v M'
      have hS_13 : St M13 := St.sh (M := M) (c29 g1 g2).2.1 hS
      refine e_lstore dX7_region_192 (Nat.le_of_ble_eq_true rfl) ?_
      show E K_X7_region 194 [some (aR (some 26)), some (aI x1), some (aI x2), some (aJ x3), none, some (aJ x118), none, some (aI x7), some (aI x8), some (aJ x9), none, none, none, none] [] M13 v M'
      refine e_goto (tgt := 411) dX7_region_194 rfl ?_
      exact (k30 g1 g2)
  ·
    refine e_lload_n dX7_region_163 rfl ?_
    refine e_lload dX7_region_164 rfl ?_
    refine e_callS (As := [aJ x3, aJ x9]) (rest := []) sk_X7_greater w1080 ⟨by decide, by decide⟩ (Nat.le_of_ble_eq_true rfl) dX7_region_166 (c31 g1) ?_
    show E K_X7_region 169 [some (aR (some 26)), some (aI x1), some (aI x2), some (aJ x3), none, some (aJ x5), none, some (aI x7), some (aI x8), some (aJ x9), none, none, none, none] [aJ x119] M14 v M'
    have hS_14 : St M14 := St.sh (M := M) (c31 g1).2.1 hS
    refine e_lstore_n dX7_region_169 (Nat.le_of_ble_eq_true rfl) ?_
    show E K_X7_region 170 [some (aR (some 26)), some (aI x1), some (aI x2), some (aJ x119), none, some (aJ x5), none, some (aI x7), some (aI x8), some (aJ x9), none, none, none, none] [] M14 v M'
    refine e_goto (tgt := 411) dX7_region_170 rfl ?_
    exact (k32 g1)

set_option maxRecDepth 20000 in
theorem s_X7_region_240 {M M' : AM} {v : Option AV} {x1 : Int32} {x2 : Int32} {x3 : Int64} {x5 : Int64} {x7 : Int32} {x8 : Int32} {x9 : Int64} {y50 : Int32} {M1 : AM} {x103 : Int64} {M2 : AM} {x104 : Int64} {M3 : AM} {x105 : Int64} {M4 : AM} {x106 : Int64} {M5 : AM} {x107 : Int64} {M6 : AM} {x108 : Int64} {M7 : AM} {x109 : Int64} (hS : St M)
    (b1 : vp_in x7 120)
    (k2 : ∀ (g1 : (mJ M 48 x7.toNatClampNeg) = (-1)), E K_X7_region 308 [some (aR (some 26)), some (aI x1), some (aI x2), some (aJ x3), none, some (aJ x5), none, some (aI x7), some (aI x8), some (aJ x9), none, some (aI y50), none, none] [] M v M')
    (c3 : ∀ (g1 : ¬ ((mJ M 48 x7.toNatClampNeg) = (-1))) (g2 : y50 = 0), Ev K_X7_plus [aJ x9, aJ 0] M (some (aJ x103)) M1)
    (c4 : ∀ (g1 : ¬ ((mJ M 48 x7.toNatClampNeg) = (-1))) (g2 : y50 = 0), Ev K_X7_plus [aJ x103, aJ (mJ M1 48 x7.toNatClampNeg)] M1 (some (aJ x104)) M2)
    (c5 : ∀ (g1 : ¬ ((mJ M 48 x7.toNatClampNeg) = (-1))) (g2 : y50 = 0), Ev K_X7_greater [aJ x3, aJ x104] M2 (some (aJ x105)) M3)
    (k6 : ∀ (g1 : ¬ ((mJ M 48 x7.toNatClampNeg) = (-1))) (g2 : y50 = 0), E K_X7_region 308 [some (aR (some 26)), some (aI x1), some (aI x2), some (aJ x105), none, some (aJ x5), none, some (aI x7), some (aI x8), some (aJ x9), none, some (aI y50), some (aJ 0), none] [] M3 v M')
    (b7 : ∀ (g1 : ¬ ((mJ M 48 x7.toNatClampNeg) = (-1))) (g2 : ¬ y50 = 0), vp_in x8 3840)
    (c8 : ∀ (g1 : ¬ ((mJ M 48 x7.toNatClampNeg) = (-1))) (g2 : ¬ y50 = 0), Ev K_X7_times [aJ (mJ M 47 x7.toNatClampNeg), aJ ((mJ M 32 x8.toNatClampNeg) - 1)] M (some (aJ x106)) M4)
    (c9 : ∀ (g1 : ¬ ((mJ M 48 x7.toNatClampNeg) = (-1))) (g2 : ¬ y50 = 0), Ev K_X7_plus [aJ x9, aJ x106] M4 (some (aJ x107)) M5)
    (c10 : ∀ (g1 : ¬ ((mJ M 48 x7.toNatClampNeg) = (-1))) (g2 : ¬ y50 = 0), Ev K_X7_plus [aJ x107, aJ (mJ M5 48 x7.toNatClampNeg)] M5 (some (aJ x108)) M6)
    (c11 : ∀ (g1 : ¬ ((mJ M 48 x7.toNatClampNeg) = (-1))) (g2 : ¬ y50 = 0), Ev K_X7_greater [aJ x3, aJ x108] M6 (some (aJ x109)) M7)
    (k12 : ∀ (g1 : ¬ ((mJ M 48 x7.toNatClampNeg) = (-1))) (g2 : ¬ y50 = 0), E K_X7_region 308 [some (aR (some 26)), some (aI x1), some (aI x2), some (aJ x109), none, some (aJ x5), none, some (aI x7), some (aI x8), some (aJ x9), none, some (aI y50), some (aJ x106), none] [] M7 v M') :
    E K_X7_region 240 [some (aR (some 26)), some (aI x1), some (aI x2), some (aJ x3), none, some (aJ x5), none, some (aI x7), some (aI x8), some (aJ x9), none, none, none, none] [aI y50] M v M' := by
  refine e_istore dX7_region_240 (Nat.le_of_ble_eq_true rfl) ?_
  show E K_X7_region 242 [some (aR (some 26)), some (aI x1), some (aI x2), some (aJ x3), none, some (aJ x5), none, some (aI x7), some (aI x8), some (aJ x9), none, some (aI y50), none, none] [] M v M'
  refine e_aload_n dX7_region_242 rfl ?_
  refine e_get ff_7_24 hS.l26 w859 dX7_region_243 (w := aR (some 48)) hS.f26_24 ?_
  refine e_iload dX7_region_246 rfl ?_
  refine e_lald hS.l48 (hS.b48 b1) dX7_region_248 ?_
  refine e_ldc2 dX7_region_249 w1075 ?_
  refine e_lcmp_eq (tgt := 308) dX7_region_252 dX7_region_253 rfl (fun g1 => ?_) (fun g1 => ?_)
  ·
    exact (k2 g1)
  ·
    refine e_iload dX7_region_256 rfl ?_
    refine e_if_eq (tgt := 283) dX7_region_258 rfl (fun g2 => ?_) (fun g2 => ?_)
    ·
      refine e_lconst (u := 0) dX7_region_283 (by decide) ?_
      refine e_lstore dX7_region_284 (Nat.le_of_ble_eq_true rfl) ?_
      show E K_X7_region 286 [some (aR (some 26)), some (aI x1), some (aI x2), some (aJ x3), none, some (aJ x5), none, some (aI x7), some (aI x8), some (aJ x9), none, some (aI y50), some (aJ 0), none] [] M v M'
      refine e_lload_n dX7_region_286 rfl ?_
      refine e_lload dX7_region_287 rfl ?_
      refine e_lload dX7_region_289 rfl ?_
      refine e_callS (As := [aJ x9, aJ 0]) (rest := [aJ x3]) sk_X7_plus w1076 ⟨by decide, by decide⟩ (Nat.le_of_ble_eq_true rfl) dX7_region_291 (c3 g1 g2) ?_
      show E K_X7_region 294 [some (aR (some 26)), some (aI x1), some (aI x2), some (aJ x3), none, some (aJ x5), none, some (aI x7), some (aI x8), some (aJ x9), none, some (aI y50), some (aJ 0), none] [aJ x103, aJ x3] M1 v M'
      have hS_1 : St M1 := St.sh (M := M) (c3 g1 g2).2.1 hS
      refine e_aload_n dX7_region_294 rfl ?_
      refine e_get ff_7_24 hS_1.l26 w859 dX7_region_295 (w := aR (some 48)) hS_1.f26_24 ?_
      refine e_iload dX7_region_298 rfl ?_
      refine e_lald hS_1.l48 (hS_1.b48 b1) dX7_region_300 ?_
      refine e_callS (As := [aJ x103, aJ (mJ M1 48 x7.toNatClampNeg)]) (rest := [aJ x3]) sk_X7_plus w1076 ⟨by decide, by decide⟩ (Nat.le_of_ble_eq_true rfl) dX7_region_301 (c4 g1 g2) ?_
      show E K_X7_region 304 [some (aR (some 26)), some (aI x1), some (aI x2), some (aJ x3), none, some (aJ x5), none, some (aI x7), some (aI x8), some (aJ x9), none, some (aI y50), some (aJ 0), none] [aJ x104, aJ x3] M2 v M'
      have hS_2 : St M2 := St.sh (M := M1) (c4 g1 g2).2.1 hS_1
      refine e_callS (As := [aJ x3, aJ x104]) (rest := []) sk_X7_greater w1080 ⟨by decide, by decide⟩ (Nat.le_of_ble_eq_true rfl) dX7_region_304 (c5 g1 g2) ?_
      show E K_X7_region 307 [some (aR (some 26)), some (aI x1), some (aI x2), some (aJ x3), none, some (aJ x5), none, some (aI x7), some (aI x8), some (aJ x9), none, some (aI y50), some (aJ 0), none] [aJ x105] M3 v M'
      have hS_3 : St M3 := St.sh (M := M2) (c5 g1 g2).2.1 hS_2
      refine e_lstore_n dX7_region_307 (Nat.le_of_ble_eq_true rfl) ?_
      show E K_X7_region 308 [some (aR (some 26)), some (aI x1), some (aI x2), some (aJ x105), none, some (aJ x5), none, some (aI x7), some (aI x8), some (aJ x9), none, some (aI y50), some (aJ 0), none] [] M3 v M'
      exact (k6 g1 g2)
    ·
      refine e_aload_n dX7_region_261 rfl ?_
      refine e_get ff_7_23 hS.l26 w858 dX7_region_262 (w := aR (some 47)) hS.f26_23 ?_
      refine e_iload dX7_region_265 rfl ?_
      refine e_lald hS.l47 (hS.b47 b1) dX7_region_267 ?_
      refine e_aload_n dX7_region_268 rfl ?_
      refine e_get ff_7_6 hS.l26 w841 dX7_region_269 (w := aR (some 32)) hS.f26_6 ?_
      refine e_iload dX7_region_272 rfl ?_
      refine e_lald hS.l32 (hS.b32 (b7 g1 g2)) dX7_region_274 ?_
      refine e_lconst (u := 1) dX7_region_275 (by decide) ?_
      refine e_lsub dX7_region_276 ?_
      refine e_callS (As := [aJ (mJ M 47 x7.toNatClampNeg), aJ ((mJ M 32 x8.toNatClampNeg) - 1)]) (rest := []) sk_X7_times w1083 ⟨by decide, by decide⟩ (Nat.le_of_ble_eq_true rfl) dX7_region_277 (c8 g1 g2) ?_
      show E K_X7_region 280 [some (aR (some 26)), some (aI x1), some (aI x2), some (aJ x3), none, some (aJ x5), none, some (aI x7), some (aI x8), some (aJ x9), none, some (aI y50), none, none] [aJ x106] M4 v M'
      have hS_4 : St M4 := St.sh (M := M) (c8 g1 g2).2.1 hS
      refine e_goto (tgt := 284) dX7_region_280 rfl ?_
      refine e_lstore dX7_region_284 (Nat.le_of_ble_eq_true rfl) ?_
      show E K_X7_region 286 [some (aR (some 26)), some (aI x1), some (aI x2), some (aJ x3), none, some (aJ x5), none, some (aI x7), some (aI x8), some (aJ x9), none, some (aI y50), some (aJ x106), none] [] M4 v M'
      refine e_lload_n dX7_region_286 rfl ?_
      refine e_lload dX7_region_287 rfl ?_
      refine e_lload dX7_region_289 rfl ?_
      refine e_callS (As := [aJ x9, aJ x106]) (rest := [aJ x3]) sk_X7_plus w1076 ⟨by decide, by decide⟩ (Nat.le_of_ble_eq_true rfl) dX7_region_291 (c9 g1 g2) ?_
      show E K_X7_region 294 [some (aR (some 26)), some (aI x1), some (aI x2), some (aJ x3), none, some (aJ x5), none, some (aI x7), some (aI x8), some (aJ x9), none, some (aI y50), some (aJ x106), none] [aJ x107, aJ x3] M5 v M'
      have hS_5 : St M5 := St.sh (M := M4) (c9 g1 g2).2.1 hS_4
      refine e_aload_n dX7_region_294 rfl ?_
      refine e_get ff_7_24 hS_5.l26 w859 dX7_region_295 (w := aR (some 48)) hS_5.f26_24 ?_
      refine e_iload dX7_region_298 rfl ?_
      refine e_lald hS_5.l48 (hS_5.b48 b1) dX7_region_300 ?_
      refine e_callS (As := [aJ x107, aJ (mJ M5 48 x7.toNatClampNeg)]) (rest := [aJ x3]) sk_X7_plus w1076 ⟨by decide, by decide⟩ (Nat.le_of_ble_eq_true rfl) dX7_region_301 (c10 g1 g2) ?_
      show E K_X7_region 304 [some (aR (some 26)), some (aI x1), some (aI x2), some (aJ x3), none, some (aJ x5), none, some (aI x7), some (aI x8), some (aJ x9), none, some (aI y50), some (aJ x106), none] [aJ x108, aJ x3] M6 v M'
      have hS_6 : St M6 := St.sh (M := M5) (c10 g1 g2).2.1 hS_5
      refine e_callS (As := [aJ x3, aJ x108]) (rest := []) sk_X7_greater w1080 ⟨by decide, by decide⟩ (Nat.le_of_ble_eq_true rfl) dX7_region_304 (c11 g1 g2) ?_
      show E K_X7_region 307 [some (aR (some 26)), some (aI x1), some (aI x2), some (aJ x3), none, some (aJ x5), none, some (aI x7), some (aI x8), some (aJ x9), none, some (aI y50), some (aJ x106), none] [aJ x109] M7 v M'
      have hS_7 : St M7 := St.sh (M := M6) (c11 g1 g2).2.1 hS_6
      refine e_lstore_n dX7_region_307 (Nat.le_of_ble_eq_true rfl) ?_
      show E K_X7_region 308 [some (aR (some 26)), some (aI x1), some (aI x2), some (aJ x109), none, some (aJ x5), none, some (aI x7), some (aI x8), some (aJ x9), none, some (aI y50), some (aJ x106), none] [] M7 v M'
      exact (k12 g1 g2)

set_option maxRecDepth 20000 in
theorem s_X7_region_308 {M M' : AM} {v : Option AV} {x1 : Int32} {x2 : Int32} {x3 : Int64} {x5 : Int64} {x7 : Int32} {x8 : Int32} {x9 : Int64} {x11 : Int32} {M1 : AM} {x102 : Int64} {M2 : AM} {x103 : Int64} {M3 : AM} (hS : St M)
    (k1 : ∀ (g1 : x11 = 0), E K_X7_region 411 [some (aR (some 26)), some (aI x1), some (aI x2), some (aJ x3), none, some (aJ x5), none, some (aI x7), some (aI x8), some (aJ x9), none, some (aI x11), none, none] [] M v M')
    (b2 : ∀ (g1 : ¬ x11 = 0), vp_in x8 3840)
    (b3 : ∀ (g1 : ¬ x11 = 0), vp_in x7 120)
    (c4 : ∀ (g1 : ¬ x11 = 0), Ev K_X7_times [aJ (mJ M 47 x7.toNatClampNeg), aJ (mJ M 32 x8.toNatClampNeg)] M (some (aJ x102)) M1)
    (c5 : ∀ (g1 : ¬ x11 = 0), Ev K_X7_plus [aJ x9, aJ x102] M1 (some (aJ x103)) M2)
    (c6 : ∀ (g1 : ¬ x11 = 0), Ev K_X7_reach [aR (some 26), aI ((mI M 36 x8.toNatClampNeg) + 1), aJ x103] M2 (none) M3)
    (k7 : ∀ (g1 : ¬ x11 = 0), E K_X7_region 411 [some (aR (some 26)), some (aI x1), some (aI x2), some (aJ x3), none, some (aJ x5), none, some (aI x7), some (aI x8), some (aJ x9), none, some (aI x11), none, none] [] M3 v M') :
    E K_X7_region 308 [some (aR (some 26)), some (aI x1), some (aI x2), some (aJ x3), none, some (aJ x5), none, some (aI x7), some (aI x8), some (aJ x9), none, some (aI x11), none, none] [] M v M' := by
  refine e_iload dX7_region_308 rfl ?_
  refine e_if_eq (tgt := 348) dX7_region_310 rfl (fun g1 => ?_) (fun g1 => ?_)
  ·
    refine e_goto (tgt := 411) dX7_region_348 rfl ?_
    exact (k1 g1)
  ·
    refine e_aload_n dX7_region_313 rfl ?_
    refine e_aload_n dX7_region_314 rfl ?_
    refine e_get ff_7_12 hS.l26 w847 dX7_region_315 (w := aR (some 36)) hS.f26_12 ?_
    refine e_iload dX7_region_318 rfl ?_
    refine e_iald hS.l36 (hS.b36 (b2 g1)) dX7_region_320 ?_
    refine e_iconst (u := 1) dX7_region_321 (by decide) ?_
    refine e_iadd dX7_region_322 ?_
    refine e_lload dX7_region_323 rfl ?_
    refine e_aload_n dX7_region_325 rfl ?_
    refine e_get ff_7_23 hS.l26 w858 dX7_region_326 (w := aR (some 47)) hS.f26_23 ?_
    refine e_iload dX7_region_329 rfl ?_
    refine e_lald hS.l47 (hS.b47 (b3 g1)) dX7_region_331 ?_
    refine e_aload_n dX7_region_332 rfl ?_
    refine e_get ff_7_6 hS.l26 w841 dX7_region_333 (w := aR (some 32)) hS.f26_6 ?_
    refine e_iload dX7_region_336 rfl ?_
    refine e_lald hS.l32 (hS.b32 (b2 g1)) dX7_region_338 ?_
    refine e_callS (As := [aJ (mJ M 47 x7.toNatClampNeg), aJ (mJ M 32 x8.toNatClampNeg)]) (rest := [aJ x9, aI ((mI M 36 x8.toNatClampNeg) + 1), aR (some 26)]) sk_X7_times w1083 ⟨by decide, by decide⟩ (Nat.le_of_ble_eq_true rfl) dX7_region_339 (c4 g1) ?_
    show E K_X7_region 342 [some (aR (some 26)), some (aI x1), some (aI x2), some (aJ x3), none, some (aJ x5), none, some (aI x7), some (aI x8), some (aJ x9), none, some (aI x11), none, none] [aJ x102, aJ x9, aI ((mI M 36 x8.toNatClampNeg) + 1), aR (some 26)] M1 v M'
    have hS_1 : St M1 := St.sh (M := M) (c4 g1).2.1 hS
    refine e_callS (As := [aJ x9, aJ x102]) (rest := [aI ((mI M 36 x8.toNatClampNeg) + 1), aR (some 26)]) sk_X7_plus w1076 ⟨by decide, by decide⟩ (Nat.le_of_ble_eq_true rfl) dX7_region_342 (c5 g1) ?_
    show E K_X7_region 345 [some (aR (some 26)), some (aI x1), some (aI x2), some (aJ x3), none, some (aJ x5), none, some (aI x7), some (aI x8), some (aJ x9), none, some (aI x11), none, none] [aJ x103, aI ((mI M 36 x8.toNatClampNeg) + 1), aR (some 26)] M2 v M'
    have hS_2 : St M2 := St.sh (M := M1) (c5 g1).2.1 hS_1
    refine e_callV (As := [aI ((mI M 36 x8.toNatClampNeg) + 1), aJ x103]) (rest := []) vk_X7_reach hS_2.l26 w1087 ⟨by decide, by decide⟩ (Nat.le_of_ble_eq_true rfl) dX7_region_345 (c6 g1) ?_
    show E K_X7_region 348 [some (aR (some 26)), some (aI x1), some (aI x2), some (aJ x3), none, some (aJ x5), none, some (aI x7), some (aI x8), some (aJ x9), none, some (aI x11), none, none] [] M3 v M'
    have hS_3 : St M3 := St.sh (M := M2) (c6 g1).2.1 hS_2
    refine e_goto (tgt := 411) dX7_region_348 rfl ?_
    exact (k7 g1)

set_option maxRecDepth 20000 in
theorem s_X7_region_411 {M M' : AM} {v : Option AV} {x1 : Int32} {x2 : Int32} {x3 : Int64} {x5 : Int64} {x7 : Int32} {x8 : Int32} (hS : St M)
    (k1 : E K_X7_region 50 [some (aR (some 26)), some (aI x1), some (aI x2), some (aJ x3), none, some (aJ x5), none, some (aI (x7 + 1)), some (aI x8), none, none, none, none, none] [] M v M') :
    E K_X7_region 411 [some (aR (some 26)), some (aI x1), some (aI x2), some (aJ x3), none, some (aJ x5), none, some (aI x7), some (aI x8), none, none, none, none, none] [] M v M' := by
  refine e_iinc dX7_region_411 rfl ?_
  show E K_X7_region 414 [some (aR (some 26)), some (aI x1), some (aI x2), some (aJ x3), none, some (aJ x5), none, some (aI (x7 + 1)), some (aI x8), none, none, none, none, none] [] M v M'
  refine e_goto (tgt := 50) dX7_region_414 rfl ?_
  exact k1
