set_option maxRecDepth 20000 in
theorem s_X7_thrown_0 {M M' : AM} {v : Option AV} (hS : St M)
    (k1 : some (aI (mI M 26 9)) = v ∧ M = M') :
    Ev K_X7_thrown [aR (some 26)] M v M' := by
  refine ⟨Nat.le_of_ble_eq_true rfl, ?_⟩
  show E K_X7_thrown 0 [some (aR (some 26))] [] M v M'
  refine e_aload_n dX7_thrown_0 rfl ?_
  refine e_get ff_7_9 hS.l26 w844 dX7_thrown_1 (w := aI (mI M 26 9)) rfl ?_
  exact e_iret rfl dX7_thrown_4 k1

set_option maxRecDepth 20000 in
theorem s_X7_noMethod_0 {M M' : AM} {v : Option AV} {x1 : Int32} (hS : St M)
    (k1 : ∀ (g1 : x1 < 0), some (aI 1) = v ∧ M = M')
    (k2 : ∀ (g1 : ¬ (x1 < 0)) (g2 : x1 < (mI M 26 4)), some (aI 0) = v ∧ M = M')
    (k3 : ∀ (g1 : ¬ (x1 < 0)) (g2 : ¬ (x1 < (mI M 26 4))), some (aI 1) = v ∧ M = M') :
    Ev K_X7_noMethod [aR (some 26), aI x1] M v M' := by
  refine ⟨Nat.le_of_ble_eq_true rfl, ?_⟩
  show E K_X7_noMethod 0 [some (aR (some 26)), some (aI x1)] [] M v M'
  refine e_iload_n dX7_noMethod_0 rfl ?_
  refine e_if_lt (tgt := 12) dX7_noMethod_1 rfl (fun g1 => ?_) (fun g1 => ?_)
  ·
    refine e_iconst (u := 1) dX7_noMethod_12 (by decide) ?_
    refine e_goto (tgt := 17) dX7_noMethod_13 rfl ?_
    exact e_zret rfl (Or.inr rfl) dX7_noMethod_17 (k1 g1)
  ·
    refine e_iload_n dX7_noMethod_4 rfl ?_
    refine e_aload_n dX7_noMethod_5 rfl ?_
    refine e_get ff_7_4 hS.l26 w839 dX7_noMethod_6 (w := aI (mI M 26 4)) rfl ?_
    refine e_icmp_lt (tgt := 16) dX7_noMethod_9 rfl (fun g2 => ?_) (fun g2 => ?_)
    ·
      refine e_iconst (u := 0) dX7_noMethod_16 (by decide) ?_
      exact e_zret rfl (Or.inl rfl) dX7_noMethod_17 (k2 g1 g2)
    ·
      refine e_iconst (u := 1) dX7_noMethod_12 (by decide) ?_
      refine e_goto (tgt := 17) dX7_noMethod_13 rfl ?_
      exact e_zret rfl (Or.inr rfl) dX7_noMethod_17 (k3 g1 g2)

set_option maxRecDepth 20000 in
theorem s_X7_method_0 {M M' : AM} {v : Option AV} {x1 : Int32} {x2 : Int32} {x3 : Int32} (hS : St M)
    (k1 : ∀ (g1 : x1 < 0), some (aI 0) = v ∧ (wrI M 26 9 1) = M')
    (k2 : ∀ (g1 : ¬ (x1 < 0)) (g2 : 8 < x1), some (aI 0) = v ∧ (wrI M 26 9 1) = M')
    (k3 : ∀ (g1 : ¬ (x1 < 0)) (g2 : ¬ (8 < x1)) (g3 : x2 < 0), some (aI 0) = v ∧ (wrI M 26 9 1) = M')
    (k4 : ∀ (g1 : ¬ (x1 < 0)) (g2 : ¬ (8 < x1)) (g3 : ¬ (x2 < 0)) (g4 : 1 < x2), some (aI 0) = v ∧ (wrI M 26 9 1) = M')
    (k5 : ∀ (g1 : ¬ (x1 < 0)) (g2 : ¬ (8 < x1)) (g3 : ¬ (x2 < 0)) (g4 : ¬ (1 < x2)) (g5 : x3 < x1), some (aI 0) = v ∧ (wrI M 26 9 1) = M')
    (b6 : ∀ (g1 : ¬ (x1 < 0)) (g2 : ¬ (8 < x1)) (g3 : ¬ (x2 < 0)) (g4 : ¬ (1 < x2)) (g5 : ¬ (x3 < x1)) (g6 : x3 ≤ 16) (g7 : ¬ (mI M 26 4) = 32), vp_in (mI M 26 4) 32)
    (k7 : ∀ (g1 : ¬ (x1 < 0)) (g2 : ¬ (8 < x1)) (g3 : ¬ (x2 < 0)) (g4 : ¬ (1 < x2)) (g5 : ¬ (x3 < x1)) (g6 : x3 ≤ 16) (g7 : ¬ (mI M 26 4) = 32), some (aI (((mI M 26 4) + 1) - 1)) = v ∧ (wrI (wrI (wrI (wrI (wrI (wrI M 26 9 0) 27 (mI M 26 4).toNatClampNeg x1) 28 (mI M 26 4).toNatClampNeg x2) 29 (mI M 26 4).toNatClampNeg x3) 30 (mI M 26 4).toNatClampNeg 0) 26 4 ((mI M 26 4) + 1)) = M')
    (k8 : ∀ (g1 : ¬ (x1 < 0)) (g2 : ¬ (8 < x1)) (g3 : ¬ (x2 < 0)) (g4 : ¬ (1 < x2)) (g5 : ¬ (x3 < x1)) (g6 : x3 ≤ 16) (g7 : (mI M 26 4) = 32), some (aI (-1)) = v ∧ (wrI M 26 9 0) = M')
    (k9 : ∀ (g1 : ¬ (x1 < 0)) (g2 : ¬ (8 < x1)) (g3 : ¬ (x2 < 0)) (g4 : ¬ (1 < x2)) (g5 : ¬ (x3 < x1)) (g6 : ¬ (x3 ≤ 16)), some (aI 0) = v ∧ (wrI M 26 9 1) = M') :
    Ev K_X7_method [aR (some 26), aI x1, aI x2, aI x3] M v M' := by
  refine ⟨Nat.le_of_ble_eq_true rfl, ?_⟩
  show E K_X7_method 0 [some (aR (some 26)), some (aI x1), some (aI x2), some (aI x3)] [] M v M'
  refine e_aload_n dX7_method_0 rfl ?_
  refine e_iload_n dX7_method_1 rfl ?_
  refine e_if_lt (tgt := 31) dX7_method_2 rfl (fun g1 => ?_) (fun g1 => ?_)
  ·
    refine e_iconst (u := 1) dX7_method_31 (by decide) ?_
    refine e_goto (tgt := 36) dX7_method_32 rfl ?_
    refine e_putI ff_7_9 rfl hS.l26 w844 dX7_method_36 ?_
    refine e_aload_n dX7_method_39 rfl ?_
    refine e_get ff_7_9 hS.l26 w844 dX7_method_40 (w := aI 1) rfl ?_
    refine e_if_le (tgt := 48) dX7_method_43 rfl (fun z => ?_) (fun z => ?_)
    · exact absurd z (by decide)
    ·
      refine e_iconst (u := 0) dX7_method_46 (by decide) ?_
      exact e_iret rfl dX7_method_47 (k1 g1)
  ·
    refine e_iload_n dX7_method_5 rfl ?_
    refine e_bipush (u := 8) dX7_method_6 (by decide) ?_
    refine e_icmp_gt (tgt := 31) dX7_method_8 rfl (fun g2 => ?_) (fun g2 => ?_)
    ·
      refine e_iconst (u := 1) dX7_method_31 (by decide) ?_
      refine e_goto (tgt := 36) dX7_method_32 rfl ?_
      refine e_putI ff_7_9 rfl hS.l26 w844 dX7_method_36 ?_
      refine e_aload_n dX7_method_39 rfl ?_
      refine e_get ff_7_9 hS.l26 w844 dX7_method_40 (w := aI 1) rfl ?_
      refine e_if_le (tgt := 48) dX7_method_43 rfl (fun z => ?_) (fun z => ?_)
      · exact absurd z (by decide)
      ·
        refine e_iconst (u := 0) dX7_method_46 (by decide) ?_
        exact e_iret rfl dX7_method_47 (k2 g1 g2)
    ·
      refine e_iload_n dX7_method_11 rfl ?_
      refine e_if_lt (tgt := 31) dX7_method_12 rfl (fun g3 => ?_) (fun g3 => ?_)
      ·
        refine e_iconst (u := 1) dX7_method_31 (by decide) ?_
        refine e_goto (tgt := 36) dX7_method_32 rfl ?_
        refine e_putI ff_7_9 rfl hS.l26 w844 dX7_method_36 ?_
        refine e_aload_n dX7_method_39 rfl ?_
        refine e_get ff_7_9 hS.l26 w844 dX7_method_40 (w := aI 1) rfl ?_
        refine e_if_le (tgt := 48) dX7_method_43 rfl (fun z => ?_) (fun z => ?_)
        · exact absurd z (by decide)
        ·
          refine e_iconst (u := 0) dX7_method_46 (by decide) ?_
          exact e_iret rfl dX7_method_47 (k3 g1 g2 g3)
      ·
        refine e_iload_n dX7_method_15 rfl ?_
        refine e_iconst (u := 1) dX7_method_16 (by decide) ?_
        refine e_icmp_gt (tgt := 31) dX7_method_17 rfl (fun g4 => ?_) (fun g4 => ?_)
        ·
          refine e_iconst (u := 1) dX7_method_31 (by decide) ?_
          refine e_goto (tgt := 36) dX7_method_32 rfl ?_
          refine e_putI ff_7_9 rfl hS.l26 w844 dX7_method_36 ?_
          refine e_aload_n dX7_method_39 rfl ?_
          refine e_get ff_7_9 hS.l26 w844 dX7_method_40 (w := aI 1) rfl ?_
          refine e_if_le (tgt := 48) dX7_method_43 rfl (fun z => ?_) (fun z => ?_)
          · exact absurd z (by decide)
          ·
            refine e_iconst (u := 0) dX7_method_46 (by decide) ?_
            exact e_iret rfl dX7_method_47 (k4 g1 g2 g3 g4)
        ·
          refine e_iload_n dX7_method_20 rfl ?_
          refine e_iload_n dX7_method_21 rfl ?_
          refine e_icmp_lt (tgt := 31) dX7_method_22 rfl (fun g5 => ?_) (fun g5 => ?_)
          ·
            refine e_iconst (u := 1) dX7_method_31 (by decide) ?_
            refine e_goto (tgt := 36) dX7_method_32 rfl ?_
            refine e_putI ff_7_9 rfl hS.l26 w844 dX7_method_36 ?_
            refine e_aload_n dX7_method_39 rfl ?_
            refine e_get ff_7_9 hS.l26 w844 dX7_method_40 (w := aI 1) rfl ?_
            refine e_if_le (tgt := 48) dX7_method_43 rfl (fun z => ?_) (fun z => ?_)
            · exact absurd z (by decide)
            ·
              refine e_iconst (u := 0) dX7_method_46 (by decide) ?_
              exact e_iret rfl dX7_method_47 (k5 g1 g2 g3 g4 g5)
          ·
            refine e_iload_n dX7_method_25 rfl ?_
            refine e_bipush (u := 16) dX7_method_26 (by decide) ?_
            refine e_icmp_le (tgt := 35) dX7_method_28 rfl (fun g6 => ?_) (fun g6 => ?_)
            ·
              refine e_iconst (u := 0) dX7_method_35 (by decide) ?_
              refine e_putI ff_7_9 rfl hS.l26 w844 dX7_method_36 ?_
              refine e_aload_n dX7_method_39 rfl ?_
              refine e_get ff_7_9 hS.l26 w844 dX7_method_40 (w := aI 0) rfl ?_
              refine e_if_le (tgt := 48) dX7_method_43 rfl (fun z => ?_) (fun z => ?_)
              ·
                refine e_aload_n dX7_method_48 rfl ?_
                refine e_get ff_7_4 hS.l26 w839 dX7_method_49 (w := aI (mI M 26 4)) rfl ?_
                refine e_bipush (u := 32) dX7_method_52 (by decide) ?_
                refine e_icmp_ne (tgt := 59) dX7_method_54 rfl (fun g7 => ?_) (fun g7 => ?_)
                ·
                  refine e_aload_n dX7_method_59 rfl ?_
                  refine e_get ff_7_0 hS.l26 w835 dX7_method_60 (w := aR (some 27)) hS.f26_0 ?_
                  refine e_aload_n dX7_method_63 rfl ?_
                  refine e_get ff_7_4 hS.l26 w839 dX7_method_64 (w := aI (mI M 26 4)) rfl ?_
                  refine e_iload_n dX7_method_67 rfl ?_
                  refine e_iast hS.l27 (hS.b27 (b6 g1 g2 g3 g4 g5 g6 g7)) dX7_method_68 ?_
                  refine e_aload_n dX7_method_69 rfl ?_
                  refine e_get ff_7_1 hS.l26 w836 dX7_method_70 (w := aR (some 28)) hS.f26_1 ?_
                  refine e_aload_n dX7_method_73 rfl ?_
                  refine e_get ff_7_4 hS.l26 w839 dX7_method_74 (w := aI (mI M 26 4)) rfl ?_
                  refine e_iload_n dX7_method_77 rfl ?_
                  refine e_iast hS.l28 (hS.b28 (b6 g1 g2 g3 g4 g5 g6 g7)) dX7_method_78 ?_
                  refine e_aload_n dX7_method_79 rfl ?_
                  refine e_get ff_7_2 hS.l26 w837 dX7_method_80 (w := aR (some 29)) hS.f26_2 ?_
                  refine e_aload_n dX7_method_83 rfl ?_
                  refine e_get ff_7_4 hS.l26 w839 dX7_method_84 (w := aI (mI M 26 4)) rfl ?_
                  refine e_iload_n dX7_method_87 rfl ?_
                  refine e_iast hS.l29 (hS.b29 (b6 g1 g2 g3 g4 g5 g6 g7)) dX7_method_88 ?_
                  refine e_aload_n dX7_method_89 rfl ?_
                  refine e_get ff_7_3 hS.l26 w838 dX7_method_90 (w := aR (some 30)) hS.f26_3 ?_
                  refine e_aload_n dX7_method_93 rfl ?_
                  refine e_get ff_7_4 hS.l26 w839 dX7_method_94 (w := aI (mI M 26 4)) rfl ?_
                  refine e_iconst (u := 0) dX7_method_97 (by decide) ?_
                  refine e_iast hS.l30 (hS.b30 (b6 g1 g2 g3 g4 g5 g6 g7)) dX7_method_98 ?_
                  refine e_aload_n dX7_method_99 rfl ?_
                  refine e_dupR dX7_method_100 ?_
                  refine e_get ff_7_4 hS.l26 w839 dX7_method_101 (w := aI (mI M 26 4)) rfl ?_
                  refine e_iconst (u := 1) dX7_method_104 (by decide) ?_
                  refine e_iadd dX7_method_105 ?_
                  refine e_putI ff_7_4 rfl hS.l26 w839 dX7_method_106 ?_
                  refine e_aload_n dX7_method_109 rfl ?_
                  refine e_get ff_7_4 hS.l26 w839 dX7_method_110 (w := aI ((mI M 26 4) + 1)) rfl ?_
                  refine e_iconst (u := 1) dX7_method_113 (by decide) ?_
                  refine e_isub dX7_method_114 ?_
                  exact e_iret rfl dX7_method_115 (k7 g1 g2 g3 g4 g5 g6 g7)
                ·
                  refine e_iconst (u := (-1)) dX7_method_57 (by decide) ?_
                  exact e_iret rfl dX7_method_58 (k8 g1 g2 g3 g4 g5 g6 g7)
              · exact absurd z (by decide)
            ·
              refine e_iconst (u := 1) dX7_method_31 (by decide) ?_
              refine e_goto (tgt := 36) dX7_method_32 rfl ?_
              refine e_putI ff_7_9 rfl hS.l26 w844 dX7_method_36 ?_
              refine e_aload_n dX7_method_39 rfl ?_
              refine e_get ff_7_9 hS.l26 w844 dX7_method_40 (w := aI 1) rfl ?_
              refine e_if_le (tgt := 48) dX7_method_43 rfl (fun z => ?_) (fun z => ?_)
              · exact absurd z (by decide)
              ·
                refine e_iconst (u := 0) dX7_method_46 (by decide) ?_
                exact e_iret rfl dX7_method_47 (k9 g1 g2 g3 g4 g5 g6)

set_option maxRecDepth 20000 in
theorem s_X7_add_0 {M M' : AM} {v : Option AV} {x1 : Int32} {x2 : Int32} {x3 : Int64} {M1 : AM} {x101 : Int32} (hS : St M)
    (c1 : Ev K_X7_noMethod [aR (some 26), aI x1] M (some (aI x101)) M1)
    (b2 : ∀ (g2 : x101 = 0), vp_in x1 32)
    (b3 : ∀ (g2 : x101 = 0) (g3 : ¬ (mI M1 30 x1.toNatClampNeg) = 120), vp_in ((120 * x1) + (mI M1 30 x1.toNatClampNeg)) 3840)
    (k4 : ∀ (g2 : x101 = 0) (g3 : ¬ (mI M1 30 x1.toNatClampNeg) = 120), some (aI ((mI (wrI (wrJ (wrI (wrI M1 26 9 0) 31 ((120 * x1) + (mI M1 30 x1.toNatClampNeg)).toNatClampNeg x2) 32 ((120 * x1) + (mI M1 30 x1.toNatClampNeg)).toNatClampNeg x3) 30 x1.toNatClampNeg ((mI M1 30 x1.toNatClampNeg) + 1)) 30 x1.toNatClampNeg) - 1)) = v ∧ (wrI (wrJ (wrI (wrI M1 26 9 0) 31 ((120 * x1) + (mI M1 30 x1.toNatClampNeg)).toNatClampNeg x2) 32 ((120 * x1) + (mI M1 30 x1.toNatClampNeg)).toNatClampNeg x3) 30 x1.toNatClampNeg ((mI M1 30 x1.toNatClampNeg) + 1)) = M')
    (k5 : ∀ (g2 : x101 = 0) (g3 : (mI M1 30 x1.toNatClampNeg) = 120), some (aI (-1)) = v ∧ (wrI M1 26 9 0) = M')
    (k6 : ∀ (g2 : ¬ x101 = 0), some (aI 0) = v ∧ (wrI M1 26 9 1) = M') :
    Ev K_X7_add [aR (some 26), aI x1, aI x2, aJ x3] M v M' := by
  refine ⟨Nat.le_of_ble_eq_true rfl, ?_⟩
  show E K_X7_add 0 [some (aR (some 26)), some (aI x1), some (aI x2), some (aJ x3), none] [] M v M'
  refine e_aload_n dX7_add_0 rfl ?_
  refine e_aload_n dX7_add_1 rfl ?_
  refine e_iload_n dX7_add_2 rfl ?_
  refine e_callV (As := [aI x1]) (rest := [aR (some 26)]) vk_X7_noMethod hS.l26 w972 ⟨by decide, by decide⟩ (Nat.le_of_ble_eq_true rfl) dX7_add_3 c1 ?_
  show E K_X7_add 6 [some (aR (some 26)), some (aI x1), some (aI x2), some (aJ x3), none] [aI x101, aR (some 26)] M1 v M'
  have hS_1 : St M1 := St.sh (M := M) c1.2.1 hS
  refine e_if_eq (tgt := 13) dX7_add_6 rfl (fun g2 => ?_) (fun g2 => ?_)
  ·
    refine e_iconst (u := 0) dX7_add_13 (by decide) ?_
    refine e_putI ff_7_9 rfl hS_1.l26 w844 dX7_add_14 ?_
    refine e_aload_n dX7_add_17 rfl ?_
    refine e_get ff_7_9 hS_1.l26 w844 dX7_add_18 (w := aI 0) rfl ?_
    refine e_if_le (tgt := 26) dX7_add_21 rfl (fun z => ?_) (fun z => ?_)
    ·
      refine e_aload_n dX7_add_26 rfl ?_
      refine e_get ff_7_3 hS_1.l26 w838 dX7_add_27 (w := aR (some 30)) hS_1.f26_3 ?_
      refine e_iload_n dX7_add_30 rfl ?_
      refine e_iald hS_1.l30 (hS_1.b30 (b2 g2)) dX7_add_31 ?_
      show E K_X7_add 32 [some (aR (some 26)), some (aI x1), some (aI x2), some (aJ x3), none] [aI (mI M1 30 x1.toNatClampNeg)] (wrI M1 26 9 0) v M'
      refine e_bipush (u := 120) dX7_add_32 (by decide) ?_
      refine e_icmp_ne (tgt := 39) dX7_add_34 rfl (fun g3 => ?_) (fun g3 => ?_)
      ·
        refine e_aload_n dX7_add_39 rfl ?_
        refine e_get ff_7_5 hS_1.l26 w840 dX7_add_40 (w := aR (some 31)) hS_1.f26_5 ?_
        refine e_bipush (u := 120) dX7_add_43 (by decide) ?_
        refine e_iload_n dX7_add_45 rfl ?_
        refine e_imul dX7_add_46 ?_
        refine e_aload_n dX7_add_47 rfl ?_
        refine e_get ff_7_3 hS_1.l26 w838 dX7_add_48 (w := aR (some 30)) hS_1.f26_3 ?_
        refine e_iload_n dX7_add_51 rfl ?_
        refine e_iald hS_1.l30 (hS_1.b30 (b2 g2)) dX7_add_52 ?_
        show E K_X7_add 53 [some (aR (some 26)), some (aI x1), some (aI x2), some (aJ x3), none] [aI (mI M1 30 x1.toNatClampNeg), aI (120 * x1), aR (some 31)] (wrI M1 26 9 0) v M'
        refine e_iadd dX7_add_53 ?_
        refine e_iload_n dX7_add_54 rfl ?_
        refine e_iast hS_1.l31 (hS_1.b31 (b3 g2 g3)) dX7_add_55 ?_
        refine e_aload_n dX7_add_56 rfl ?_
        refine e_get ff_7_6 hS_1.l26 w841 dX7_add_57 (w := aR (some 32)) hS_1.f26_6 ?_
        refine e_bipush (u := 120) dX7_add_60 (by decide) ?_
        refine e_iload_n dX7_add_62 rfl ?_
        refine e_imul dX7_add_63 ?_
        refine e_aload_n dX7_add_64 rfl ?_
        refine e_get ff_7_3 hS_1.l26 w838 dX7_add_65 (w := aR (some 30)) hS_1.f26_3 ?_
        refine e_iload_n dX7_add_68 rfl ?_
        refine e_iald hS_1.l30 (hS_1.b30 (b2 g2)) dX7_add_69 ?_
        show E K_X7_add 70 [some (aR (some 26)), some (aI x1), some (aI x2), some (aJ x3), none] [aI (mI M1 30 x1.toNatClampNeg), aI (120 * x1), aR (some 32)] (wrI (wrI M1 26 9 0) 31 ((120 * x1) + (mI M1 30 x1.toNatClampNeg)).toNatClampNeg x2) v M'
        refine e_iadd dX7_add_70 ?_
        refine e_lload_n dX7_add_71 rfl ?_
        refine e_last hS_1.l32 (hS_1.b32 (b3 g2 g3)) dX7_add_72 ?_
        refine e_aload_n dX7_add_73 rfl ?_
        refine e_get ff_7_3 hS_1.l26 w838 dX7_add_74 (w := aR (some 30)) hS_1.f26_3 ?_
        refine e_iload_n dX7_add_77 rfl ?_
        refine e_dup2RI dX7_add_78 ?_
        refine e_iald hS_1.l30 (hS_1.b30 (b2 g2)) dX7_add_79 ?_
        show E K_X7_add 80 [some (aR (some 26)), some (aI x1), some (aI x2), some (aJ x3), none] [aI (mI M1 30 x1.toNatClampNeg), aI x1, aR (some 30)] (wrJ (wrI (wrI M1 26 9 0) 31 ((120 * x1) + (mI M1 30 x1.toNatClampNeg)).toNatClampNeg x2) 32 ((120 * x1) + (mI M1 30 x1.toNatClampNeg)).toNatClampNeg x3) v M'
        refine e_iconst (u := 1) dX7_add_80 (by decide) ?_
        refine e_iadd dX7_add_81 ?_
        refine e_iast hS_1.l30 (hS_1.b30 (b2 g2)) dX7_add_82 ?_
        refine e_aload_n dX7_add_83 rfl ?_
        refine e_get ff_7_3 hS_1.l26 w838 dX7_add_84 (w := aR (some 30)) hS_1.f26_3 ?_
        refine e_iload_n dX7_add_87 rfl ?_
        refine e_iald hS_1.l30 (hS_1.b30 (b2 g2)) dX7_add_88 ?_
        show E K_X7_add 89 [some (aR (some 26)), some (aI x1), some (aI x2), some (aJ x3), none] [aI (mI (wrI (wrJ (wrI (wrI M1 26 9 0) 31 ((120 * x1) + (mI M1 30 x1.toNatClampNeg)).toNatClampNeg x2) 32 ((120 * x1) + (mI M1 30 x1.toNatClampNeg)).toNatClampNeg x3) 30 x1.toNatClampNeg ((mI M1 30 x1.toNatClampNeg) + 1)) 30 x1.toNatClampNeg)] (wrI (wrJ (wrI (wrI M1 26 9 0) 31 ((120 * x1) + (mI M1 30 x1.toNatClampNeg)).toNatClampNeg x2) 32 ((120 * x1) + (mI M1 30 x1.toNatClampNeg)).toNatClampNeg x3) 30 x1.toNatClampNeg ((mI M1 30 x1.toNatClampNeg) + 1)) v M'
        refine e_iconst (u := 1) dX7_add_89 (by decide) ?_
        refine e_isub dX7_add_90 ?_
        exact e_iret rfl dX7_add_91 (k4 g2 g3)
      ·
        refine e_iconst (u := (-1)) dX7_add_37 (by decide) ?_
        exact e_iret rfl dX7_add_38 (k5 g2 g3)
    · exact absurd z (by decide)
  ·
    refine e_iconst (u := 1) dX7_add_9 (by decide) ?_
    refine e_goto (tgt := 14) dX7_add_10 rfl ?_
    refine e_putI ff_7_9 rfl hS_1.l26 w844 dX7_add_14 ?_
    refine e_aload_n dX7_add_17 rfl ?_
    refine e_get ff_7_9 hS_1.l26 w844 dX7_add_18 (w := aI 1) rfl ?_
    refine e_if_le (tgt := 26) dX7_add_21 rfl (fun z => ?_) (fun z => ?_)
    · exact absurd z (by decide)
    ·
      refine e_iconst (u := 0) dX7_add_24 (by decide) ?_
      exact e_iret rfl dX7_add_25 (k6 g2)

set_option maxRecDepth 20000 in
theorem s_X7_change_0 {M M' : AM} {v : Option AV} {x1 : Int32} {x2 : Int32} {x3 : Int32} {x4 : Int64} {M1 : AM} {x101 : Int32} (hS : St M)
    (c1 : Ev K_X7_noMethod [aR (some 26), aI x1] M (some (aI x101)) M1)
    (k2 : ∀ (g2 : ¬ x101 = 0), some (aI 0) = v ∧ (wrI M1 26 9 1) = M')
    (k3 : ∀ (g2 : x101 = 0) (g3 : x2 < 0), some (aI 0) = v ∧ (wrI M1 26 9 1) = M')
    (b4 : ∀ (g2 : x101 = 0) (g3 : ¬ (x2 < 0)), vp_in x1 32)
    (b5 : ∀ (g2 : x101 = 0) (g3 : ¬ (x2 < 0)) (g4 : x2 < (mI M1 30 x1.toNatClampNeg)), vp_in ((120 * x1) + x2) 3840)
    (k6 : ∀ (g2 : x101 = 0) (g3 : ¬ (x2 < 0)) (g4 : x2 < (mI M1 30 x1.toNatClampNeg)), some (aI (mI M1 31 ((120 * x1) + x2).toNatClampNeg)) = v ∧ (wrJ (wrI (wrI M1 26 9 0) 31 ((120 * x1) + x2).toNatClampNeg x3) 32 ((120 * x1) + x2).toNatClampNeg x4) = M')
    (k7 : ∀ (g2 : x101 = 0) (g3 : ¬ (x2 < 0)) (g4 : ¬ (x2 < (mI M1 30 x1.toNatClampNeg))), some (aI 0) = v ∧ (wrI M1 26 9 1) = M') :
    Ev K_X7_change [aR (some 26), aI x1, aI x2, aI x3, aJ x4] M v M' := by
  refine ⟨Nat.le_of_ble_eq_true rfl, ?_⟩
  show E K_X7_change 0 [some (aR (some 26)), some (aI x1), some (aI x2), some (aI x3), some (aJ x4), none, none] [] M v M'
  refine e_aload_n dX7_change_0 rfl ?_
  refine e_aload_n dX7_change_1 rfl ?_
  refine e_iload_n dX7_change_2 rfl ?_
  refine e_callV (As := [aI x1]) (rest := [aR (some 26)]) vk_X7_noMethod hS.l26 w972 ⟨by decide, by decide⟩ (Nat.le_of_ble_eq_true rfl) dX7_change_3 c1 ?_
  show E K_X7_change 6 [some (aR (some 26)), some (aI x1), some (aI x2), some (aI x3), some (aJ x4), none, none] [aI x101, aR (some 26)] M1 v M'
  have hS_1 : St M1 := St.sh (M := M) c1.2.1 hS
  refine e_if_ne (tgt := 23) dX7_change_6 rfl (fun g2 => ?_) (fun g2 => ?_)
  ·
    refine e_iconst (u := 1) dX7_change_23 (by decide) ?_
    refine e_goto (tgt := 28) dX7_change_24 rfl ?_
    refine e_putI ff_7_9 rfl hS_1.l26 w844 dX7_change_28 ?_
    refine e_aload_n dX7_change_31 rfl ?_
    refine e_get ff_7_9 hS_1.l26 w844 dX7_change_32 (w := aI 1) rfl ?_
    refine e_if_le (tgt := 40) dX7_change_35 rfl (fun z => ?_) (fun z => ?_)
    · exact absurd z (by decide)
    ·
      refine e_iconst (u := 0) dX7_change_38 (by decide) ?_
      exact e_iret rfl dX7_change_39 (k2 g2)
  ·
    refine e_iload_n dX7_change_9 rfl ?_
    refine e_if_lt (tgt := 23) dX7_change_10 rfl (fun g3 => ?_) (fun g3 => ?_)
    ·
      refine e_iconst (u := 1) dX7_change_23 (by decide) ?_
      refine e_goto (tgt := 28) dX7_change_24 rfl ?_
      refine e_putI ff_7_9 rfl hS_1.l26 w844 dX7_change_28 ?_
      refine e_aload_n dX7_change_31 rfl ?_
      refine e_get ff_7_9 hS_1.l26 w844 dX7_change_32 (w := aI 1) rfl ?_
      refine e_if_le (tgt := 40) dX7_change_35 rfl (fun z => ?_) (fun z => ?_)
      · exact absurd z (by decide)
      ·
        refine e_iconst (u := 0) dX7_change_38 (by decide) ?_
        exact e_iret rfl dX7_change_39 (k3 g2 g3)
    ·
      refine e_iload_n dX7_change_13 rfl ?_
      refine e_aload_n dX7_change_14 rfl ?_
      refine e_get ff_7_3 hS_1.l26 w838 dX7_change_15 (w := aR (some 30)) hS_1.f26_3 ?_
      refine e_iload_n dX7_change_18 rfl ?_
      refine e_iald hS_1.l30 (hS_1.b30 (b4 g2 g3)) dX7_change_19 ?_
      refine e_icmp_lt (tgt := 27) dX7_change_20 rfl (fun g4 => ?_) (fun g4 => ?_)
      ·
        refine e_iconst (u := 0) dX7_change_27 (by decide) ?_
        refine e_putI ff_7_9 rfl hS_1.l26 w844 dX7_change_28 ?_
        refine e_aload_n dX7_change_31 rfl ?_
        refine e_get ff_7_9 hS_1.l26 w844 dX7_change_32 (w := aI 0) rfl ?_
        refine e_if_le (tgt := 40) dX7_change_35 rfl (fun z => ?_) (fun z => ?_)
        ·
          refine e_aload_n dX7_change_40 rfl ?_
          refine e_get ff_7_5 hS_1.l26 w840 dX7_change_41 (w := aR (some 31)) hS_1.f26_5 ?_
          refine e_bipush (u := 120) dX7_change_44 (by decide) ?_
          refine e_iload_n dX7_change_46 rfl ?_
          refine e_imul dX7_change_47 ?_
          refine e_iload_n dX7_change_48 rfl ?_
          refine e_iadd dX7_change_49 ?_
          refine e_iald hS_1.l31 (hS_1.b31 (b5 g2 g3 g4)) dX7_change_50 ?_
          show E K_X7_change 51 [some (aR (some 26)), some (aI x1), some (aI x2), some (aI x3), some (aJ x4), none, none] [aI (mI M1 31 ((120 * x1) + x2).toNatClampNeg)] (wrI M1 26 9 0) v M'
          refine e_istore dX7_change_51 (Nat.le_of_ble_eq_true rfl) ?_
          show E K_X7_change 53 [some (aR (some 26)), some (aI x1), some (aI x2), some (aI x3), some (aJ x4), none, some (aI (mI M1 31 ((120 * x1) + x2).toNatClampNeg))] [] (wrI M1 26 9 0) v M'
          refine e_aload_n dX7_change_53 rfl ?_
          refine e_get ff_7_5 hS_1.l26 w840 dX7_change_54 (w := aR (some 31)) hS_1.f26_5 ?_
          refine e_bipush (u := 120) dX7_change_57 (by decide) ?_
          refine e_iload_n dX7_change_59 rfl ?_
          refine e_imul dX7_change_60 ?_
          refine e_iload_n dX7_change_61 rfl ?_
          refine e_iadd dX7_change_62 ?_
          refine e_iload_n dX7_change_63 rfl ?_
          refine e_iast hS_1.l31 (hS_1.b31 (b5 g2 g3 g4)) dX7_change_64 ?_
          refine e_aload_n dX7_change_65 rfl ?_
          refine e_get ff_7_6 hS_1.l26 w841 dX7_change_66 (w := aR (some 32)) hS_1.f26_6 ?_
          refine e_bipush (u := 120) dX7_change_69 (by decide) ?_
          refine e_iload_n dX7_change_71 rfl ?_
          refine e_imul dX7_change_72 ?_
          refine e_iload_n dX7_change_73 rfl ?_
          refine e_iadd dX7_change_74 ?_
          refine e_lload dX7_change_75 rfl ?_
          refine e_last hS_1.l32 (hS_1.b32 (b5 g2 g3 g4)) dX7_change_77 ?_
          refine e_iload dX7_change_78 rfl ?_
          exact e_iret rfl dX7_change_80 (k6 g2 g3 g4)
        · exact absurd z (by decide)
      ·
        refine e_iconst (u := 1) dX7_change_23 (by decide) ?_
        refine e_goto (tgt := 28) dX7_change_24 rfl ?_
        refine e_putI ff_7_9 rfl hS_1.l26 w844 dX7_change_28 ?_
        refine e_aload_n dX7_change_31 rfl ?_
        refine e_get ff_7_9 hS_1.l26 w844 dX7_change_32 (w := aI 1) rfl ?_
        refine e_if_le (tgt := 40) dX7_change_35 rfl (fun z => ?_) (fun z => ?_)
        · exact absurd z (by decide)
        ·
          refine e_iconst (u := 0) dX7_change_38 (by decide) ?_
          exact e_iret rfl dX7_change_39 (k7 g2 g3 g4)

set_option maxRecDepth 20000 in
theorem s_X7_cost_0 {M M' : AM} {v : Option AV} {x1 : Int32} {x2 : Int32} (hS : St M)
    (k1 : ∀ (g1 : x1 < 0), some (aI 0) = v ∧ (wrI M 26 9 1) = M')
    (k2 : ∀ (g1 : ¬ (x1 < 0)) (g2 : x1 < 18) (g3 : x2 < 0), some (aI 0) = v ∧ (wrI M 26 9 2) = M')
    (b3 : ∀ (g1 : ¬ (x1 < 0)) (g2 : x1 < 18) (g3 : ¬ (x2 < 0)) (g4 : x2 ≤ 1000000), vp_in x1 18)
    (k4 : ∀ (g1 : ¬ (x1 < 0)) (g2 : x1 < 18) (g3 : ¬ (x2 < 0)) (g4 : x2 ≤ 1000000), some (aI ((mJ M 33 x1.toNatClampNeg : Int64).toInt32)) = v ∧ (wrJ (wrI M 26 9 0) 33 x1.toNatClampNeg ((x2 : Int32).toInt64)) = M')
    (k5 : ∀ (g1 : ¬ (x1 < 0)) (g2 : x1 < 18) (g3 : ¬ (x2 < 0)) (g4 : ¬ (x2 ≤ 1000000)), some (aI 0) = v ∧ (wrI M 26 9 2) = M')
    (k6 : ∀ (g1 : ¬ (x1 < 0)) (g2 : ¬ (x1 < 18)), some (aI 0) = v ∧ (wrI M 26 9 1) = M') :
    Ev K_X7_cost [aR (some 26), aI x1, aI x2] M v M' := by
  refine ⟨Nat.le_of_ble_eq_true rfl, ?_⟩
  show E K_X7_cost 0 [some (aR (some 26)), some (aI x1), some (aI x2), none] [] M v M'
  refine e_aload_n dX7_cost_0 rfl ?_
  refine e_iload_n dX7_cost_1 rfl ?_
  refine e_if_lt (tgt := 11) dX7_cost_2 rfl (fun g1 => ?_) (fun g1 => ?_)
  ·
    refine e_iconst (u := 1) dX7_cost_11 (by decide) ?_
    refine e_goto (tgt := 30) dX7_cost_12 rfl ?_
    refine e_putI ff_7_9 rfl hS.l26 w844 dX7_cost_30 ?_
    refine e_aload_n dX7_cost_33 rfl ?_
    refine e_get ff_7_9 hS.l26 w844 dX7_cost_34 (w := aI 1) rfl ?_
    refine e_if_le (tgt := 42) dX7_cost_37 rfl (fun z => ?_) (fun z => ?_)
    · exact absurd z (by decide)
    ·
      refine e_iconst (u := 0) dX7_cost_40 (by decide) ?_
      exact e_iret rfl dX7_cost_41 (k1 g1)
  ·
    refine e_iload_n dX7_cost_5 rfl ?_
    refine e_bipush (u := 18) dX7_cost_6 (by decide) ?_
    refine e_icmp_lt (tgt := 15) dX7_cost_8 rfl (fun g2 => ?_) (fun g2 => ?_)
    ·
      refine e_iload_n dX7_cost_15 rfl ?_
      refine e_if_lt (tgt := 25) dX7_cost_16 rfl (fun g3 => ?_) (fun g3 => ?_)
      ·
        refine e_iconst (u := 2) dX7_cost_25 (by decide) ?_
        refine e_goto (tgt := 30) dX7_cost_26 rfl ?_
        refine e_putI ff_7_9 rfl hS.l26 w844 dX7_cost_30 ?_
        refine e_aload_n dX7_cost_33 rfl ?_
        refine e_get ff_7_9 hS.l26 w844 dX7_cost_34 (w := aI 2) rfl ?_
        refine e_if_le (tgt := 42) dX7_cost_37 rfl (fun z => ?_) (fun z => ?_)
        · exact absurd z (by decide)
        ·
          refine e_iconst (u := 0) dX7_cost_40 (by decide) ?_
          exact e_iret rfl dX7_cost_41 (k2 g1 g2 g3)
      ·
        refine e_iload_n dX7_cost_19 rfl ?_
        refine e_ldc dX7_cost_20 w984 ?_
        refine e_icmp_le (tgt := 29) dX7_cost_22 rfl (fun g4 => ?_) (fun g4 => ?_)
        ·
          refine e_iconst (u := 0) dX7_cost_29 (by decide) ?_
          refine e_putI ff_7_9 rfl hS.l26 w844 dX7_cost_30 ?_
          refine e_aload_n dX7_cost_33 rfl ?_
          refine e_get ff_7_9 hS.l26 w844 dX7_cost_34 (w := aI 0) rfl ?_
          refine e_if_le (tgt := 42) dX7_cost_37 rfl (fun z => ?_) (fun z => ?_)
          ·
            refine e_aload_n dX7_cost_42 rfl ?_
            refine e_get ff_7_7 hS.l26 w842 dX7_cost_43 (w := aR (some 33)) hS.f26_7 ?_
            refine e_iload_n dX7_cost_46 rfl ?_
            refine e_lald hS.l33 (hS.b33 (b3 g1 g2 g3 g4)) dX7_cost_47 ?_
            show E K_X7_cost 48 [some (aR (some 26)), some (aI x1), some (aI x2), none] [aJ (mJ M 33 x1.toNatClampNeg)] (wrI M 26 9 0) v M'
            refine e_l2i dX7_cost_48 ?_
            refine e_istore_n dX7_cost_49 (Nat.le_of_ble_eq_true rfl) ?_
            show E K_X7_cost 50 [some (aR (some 26)), some (aI x1), some (aI x2), some (aI ((mJ M 33 x1.toNatClampNeg : Int64).toInt32))] [] (wrI M 26 9 0) v M'
            refine e_aload_n dX7_cost_50 rfl ?_
            refine e_get ff_7_7 hS.l26 w842 dX7_cost_51 (w := aR (some 33)) hS.f26_7 ?_
            refine e_iload_n dX7_cost_54 rfl ?_
            refine e_iload_n dX7_cost_55 rfl ?_
            refine e_i2l dX7_cost_56 ?_
            refine e_last hS.l33 (hS.b33 (b3 g1 g2 g3 g4)) dX7_cost_57 ?_
            refine e_iload_n dX7_cost_58 rfl ?_
            exact e_iret rfl dX7_cost_59 (k4 g1 g2 g3 g4)
          · exact absurd z (by decide)
        ·
          refine e_iconst (u := 2) dX7_cost_25 (by decide) ?_
          refine e_goto (tgt := 30) dX7_cost_26 rfl ?_
          refine e_putI ff_7_9 rfl hS.l26 w844 dX7_cost_30 ?_
          refine e_aload_n dX7_cost_33 rfl ?_
          refine e_get ff_7_9 hS.l26 w844 dX7_cost_34 (w := aI 2) rfl ?_
          refine e_if_le (tgt := 42) dX7_cost_37 rfl (fun z => ?_) (fun z => ?_)
          · exact absurd z (by decide)
          ·
            refine e_iconst (u := 0) dX7_cost_40 (by decide) ?_
            exact e_iret rfl dX7_cost_41 (k5 g1 g2 g3 g4)
    ·
      refine e_iconst (u := 1) dX7_cost_11 (by decide) ?_
      refine e_goto (tgt := 30) dX7_cost_12 rfl ?_
      refine e_putI ff_7_9 rfl hS.l26 w844 dX7_cost_30 ?_
      refine e_aload_n dX7_cost_33 rfl ?_
      refine e_get ff_7_9 hS.l26 w844 dX7_cost_34 (w := aI 1) rfl ?_
      refine e_if_le (tgt := 42) dX7_cost_37 rfl (fun z => ?_) (fun z => ?_)
      · exact absurd z (by decide)
      ·
        refine e_iconst (u := 0) dX7_cost_40 (by decide) ?_
        exact e_iret rfl dX7_cost_41 (k6 g1 g2)

set_option maxRecDepth 20000 in
theorem s_X7_fault_0 {M M' : AM} {v : Option AV} {x1 : Int32} {x2 : Int32} {x3 : Int32} (hS : St M)
    (b1 : vp_in x1 32)
    (k2 : ∀ (g1 : ¬ (mI M 38 x1.toNatClampNeg) = 0), none = v ∧ M = M')
    (k3 : ∀ (g1 : (mI M 38 x1.toNatClampNeg) = 0), none = v ∧ (wrI (wrI M 38 x1.toNatClampNeg x2) 39 x1.toNatClampNeg x3) = M') :
    Ev K_X7_fault [aR (some 26), aI x1, aI x2, aI x3] M v M' := by
  refine ⟨Nat.le_of_ble_eq_true rfl, ?_⟩
  show E K_X7_fault 0 [some (aR (some 26)), some (aI x1), some (aI x2), some (aI x3)] [] M v M'
  refine e_aload_n dX7_fault_0 rfl ?_
  refine e_get ff_7_14 hS.l26 w849 dX7_fault_1 (w := aR (some 38)) hS.f26_14 ?_
  refine e_iload_n dX7_fault_4 rfl ?_
  refine e_iald hS.l38 (hS.b38 b1) dX7_fault_5 ?_
  refine e_if_ne (tgt := 23) dX7_fault_6 rfl (fun g1 => ?_) (fun g1 => ?_)
  ·
    exact e_vret rfl dX7_fault_23 (k2 g1)
  ·
    refine e_aload_n dX7_fault_9 rfl ?_
    refine e_get ff_7_14 hS.l26 w849 dX7_fault_10 (w := aR (some 38)) hS.f26_14 ?_
    refine e_iload_n dX7_fault_13 rfl ?_
    refine e_iload_n dX7_fault_14 rfl ?_
    refine e_iast hS.l38 (hS.b38 b1) dX7_fault_15 ?_
    refine e_aload_n dX7_fault_16 rfl ?_
    refine e_get ff_7_15 hS.l26 w850 dX7_fault_17 (w := aR (some 39)) hS.f26_15 ?_
    refine e_iload_n dX7_fault_20 rfl ?_
    refine e_iload_n dX7_fault_21 rfl ?_
    refine e_iast hS.l39 (hS.b39 b1) dX7_fault_22 ?_
    exact e_vret rfl dX7_fault_23 (k3 g1)

set_option maxRecDepth 20000 in
theorem s_X7_brackets_0 {M M' : AM} {v : Option AV} {x1 : Int32} (hS : St M)
    (k1 : E K_X7_brackets 4 [some (aR (some 26)), some (aI x1), some (aI (-1)), some (aI 0), none] [] M v M') :
    Ev K_X7_brackets [aR (some 26), aI x1] M v M' := by
  refine ⟨Nat.le_of_ble_eq_true rfl, ?_⟩
  show E K_X7_brackets 0 [some (aR (some 26)), some (aI x1), none, none, none] [] M v M'
  refine e_iconst (u := (-1)) dX7_brackets_0 (by decide) ?_
  refine e_istore_n dX7_brackets_1 (Nat.le_of_ble_eq_true rfl) ?_
  show E K_X7_brackets 2 [some (aR (some 26)), some (aI x1), some (aI (-1)), none, none] [] M v M'
  refine e_iconst (u := 0) dX7_brackets_2 (by decide) ?_
  refine e_istore_n dX7_brackets_3 (Nat.le_of_ble_eq_true rfl) ?_
  show E K_X7_brackets 4 [some (aR (some 26)), some (aI x1), some (aI (-1)), some (aI 0), none] [] M v M'
  exact k1

set_option maxRecDepth 20000 in
theorem s_X7_brackets_4 {M M' : AM} {v : Option AV} {x1 : Int32} {x2 : Int32} {x3 : Int32} (hS : St M)
    (b1 : vp_in x1 32)
    (k2 : ∀ (g1 : (mI M 30 x1.toNatClampNeg) ≤ x3), none = v ∧ M = M')
    (b3 : ∀ (g1 : ¬ ((mI M 30 x1.toNatClampNeg) ≤ x3)), vp_in ((120 * x1) + x3) 3840)
    (b4 : ∀ (g1 : ¬ ((mI M 30 x1.toNatClampNeg) ≤ x3)) (g2 : 0 ≤ x2), vp_in ((120 * x1) + x2) 3840)
    (k5 : ∀ (g1 : ¬ ((mI M 30 x1.toNatClampNeg) ≤ x3)) (g2 : 0 ≤ x2) (g3 : ¬ (mI M 31 ((120 * x1) + x3).toNatClampNeg) = 14) (g4 : ¬ (mI M 31 ((120 * x1) + x3).toNatClampNeg) = 15), E K_X7_brackets 4 [some (aR (some 26)), some (aI x1), some (aI x2), some (aI (x3 + 1)), some (aI ((120 * x1) + x3))] [] (wrI (wrI (wrI M 35 ((120 * x1) + x3).toNatClampNeg x2) 36 ((120 * x1) + x3).toNatClampNeg (-1)) 37 ((120 * x1) + x3).toNatClampNeg ((mI M 37 ((120 * x1) + x2).toNatClampNeg) + 1)) v M')
    (k6 : ∀ (g1 : ¬ ((mI M 30 x1.toNatClampNeg) ≤ x3)) (g2 : 0 ≤ x2) (g3 : ¬ (mI M 31 ((120 * x1) + x3).toNatClampNeg) = 14) (g4 : (mI M 31 ((120 * x1) + x3).toNatClampNeg) = 15) (g5 : x2 < 0), E K_X7_brackets 4 [some (aR (some 26)), some (aI x1), some (aI x2), some (aI (x3 + 1)), some (aI ((120 * x1) + x3))] [] (wrI (wrI (wrI M 35 ((120 * x1) + x3).toNatClampNeg x2) 36 ((120 * x1) + x3).toNatClampNeg (-1)) 37 ((120 * x1) + x3).toNatClampNeg ((mI M 37 ((120 * x1) + x2).toNatClampNeg) + 1)) v M')
    (k7 : ∀ (g1 : ¬ ((mI M 30 x1.toNatClampNeg) ≤ x3)) (g2 : 0 ≤ x2) (g3 : ¬ (mI M 31 ((120 * x1) + x3).toNatClampNeg) = 14) (g4 : (mI M 31 ((120 * x1) + x3).toNatClampNeg) = 15) (g5 : ¬ (x2 < 0)), E K_X7_brackets 4 [some (aR (some 26)), some (aI x1), some (aI (mI (wrI M 35 ((120 * x1) + x3).toNatClampNeg x2) 35 ((120 * x1) + x2).toNatClampNeg)), some (aI (x3 + 1)), some (aI ((120 * x1) + x3))] [] (wrI (wrI (wrI (wrI (wrI M 35 ((120 * x1) + x3).toNatClampNeg x2) 36 ((120 * x1) + x3).toNatClampNeg (-1)) 37 ((120 * x1) + x3).toNatClampNeg ((mI M 37 ((120 * x1) + x2).toNatClampNeg) + 1)) 36 ((120 * x1) + x3).toNatClampNeg x2) 36 ((120 * x1) + x2).toNatClampNeg x3) v M')
    (k8 : ∀ (g1 : ¬ ((mI M 30 x1.toNatClampNeg) ≤ x3)) (g2 : 0 ≤ x2) (g3 : (mI M 31 ((120 * x1) + x3).toNatClampNeg) = 14), E K_X7_brackets 4 [some (aR (some 26)), some (aI x1), some (aI x3), some (aI (x3 + 1)), some (aI ((120 * x1) + x3))] [] (wrI (wrI (wrI M 35 ((120 * x1) + x3).toNatClampNeg x2) 36 ((120 * x1) + x3).toNatClampNeg (-1)) 37 ((120 * x1) + x3).toNatClampNeg ((mI M 37 ((120 * x1) + x2).toNatClampNeg) + 1)) v M')
    (k9 : ∀ (g1 : ¬ ((mI M 30 x1.toNatClampNeg) ≤ x3)) (g2 : ¬ (0 ≤ x2)) (g6 : ¬ (mI M 31 ((120 * x1) + x3).toNatClampNeg) = 14) (g7 : ¬ (mI M 31 ((120 * x1) + x3).toNatClampNeg) = 15), E K_X7_brackets 4 [some (aR (some 26)), some (aI x1), some (aI x2), some (aI (x3 + 1)), some (aI ((120 * x1) + x3))] [] (wrI (wrI (wrI M 35 ((120 * x1) + x3).toNatClampNeg x2) 36 ((120 * x1) + x3).toNatClampNeg (-1)) 37 ((120 * x1) + x3).toNatClampNeg 0) v M')
    (k10 : ∀ (g1 : ¬ ((mI M 30 x1.toNatClampNeg) ≤ x3)) (g2 : ¬ (0 ≤ x2)) (g6 : ¬ (mI M 31 ((120 * x1) + x3).toNatClampNeg) = 14) (g7 : (mI M 31 ((120 * x1) + x3).toNatClampNeg) = 15) (g8 : x2 < 0), E K_X7_brackets 4 [some (aR (some 26)), some (aI x1), some (aI x2), some (aI (x3 + 1)), some (aI ((120 * x1) + x3))] [] (wrI (wrI (wrI M 35 ((120 * x1) + x3).toNatClampNeg x2) 36 ((120 * x1) + x3).toNatClampNeg (-1)) 37 ((120 * x1) + x3).toNatClampNeg 0) v M')
    (b11 : ∀ (g1 : ¬ ((mI M 30 x1.toNatClampNeg) ≤ x3)) (g2 : ¬ (0 ≤ x2)) (g6 : ¬ (mI M 31 ((120 * x1) + x3).toNatClampNeg) = 14) (g7 : (mI M 31 ((120 * x1) + x3).toNatClampNeg) = 15) (g8 : ¬ (x2 < 0)), vp_in ((120 * x1) + x2) 3840)
    (k12 : ∀ (g1 : ¬ ((mI M 30 x1.toNatClampNeg) ≤ x3)) (g2 : ¬ (0 ≤ x2)) (g6 : ¬ (mI M 31 ((120 * x1) + x3).toNatClampNeg) = 14) (g7 : (mI M 31 ((120 * x1) + x3).toNatClampNeg) = 15) (g8 : ¬ (x2 < 0)), E K_X7_brackets 4 [some (aR (some 26)), some (aI x1), some (aI (mI (wrI M 35 ((120 * x1) + x3).toNatClampNeg x2) 35 ((120 * x1) + x2).toNatClampNeg)), some (aI (x3 + 1)), some (aI ((120 * x1) + x3))] [] (wrI (wrI (wrI (wrI (wrI M 35 ((120 * x1) + x3).toNatClampNeg x2) 36 ((120 * x1) + x3).toNatClampNeg (-1)) 37 ((120 * x1) + x3).toNatClampNeg 0) 36 ((120 * x1) + x3).toNatClampNeg x2) 36 ((120 * x1) + x2).toNatClampNeg x3) v M')
    (k13 : ∀ (g1 : ¬ ((mI M 30 x1.toNatClampNeg) ≤ x3)) (g2 : ¬ (0 ≤ x2)) (g6 : (mI M 31 ((120 * x1) + x3).toNatClampNeg) = 14), E K_X7_brackets 4 [some (aR (some 26)), some (aI x1), some (aI x3), some (aI (x3 + 1)), some (aI ((120 * x1) + x3))] [] (wrI (wrI (wrI M 35 ((120 * x1) + x3).toNatClampNeg x2) 36 ((120 * x1) + x3).toNatClampNeg (-1)) 37 ((120 * x1) + x3).toNatClampNeg 0) v M') :
    E K_X7_brackets 4 [some (aR (some 26)), some (aI x1), some (aI x2), some (aI x3), none] [] M v M' := by
  refine e_iload_n dX7_brackets_4 rfl ?_
  refine e_aload_n dX7_brackets_5 rfl ?_
  refine e_get ff_7_3 hS.l26 w838 dX7_brackets_6 (w := aR (some 30)) hS.f26_3 ?_
  refine e_iload_n dX7_brackets_9 rfl ?_
  refine e_iald hS.l30 (hS.b30 b1) dX7_brackets_10 ?_
  refine e_icmp_ge (tgt := 137) dX7_brackets_11 rfl (fun g1 => ?_) (fun g1 => ?_)
  ·
    exact e_vret rfl dX7_brackets_137 (k2 g1)
  ·
    refine e_bipush (u := 120) dX7_brackets_14 (by decide) ?_
    refine e_iload_n dX7_brackets_16 rfl ?_
    refine e_imul dX7_brackets_17 ?_
    refine e_iload_n dX7_brackets_18 rfl ?_
    refine e_iadd dX7_brackets_19 ?_
    refine e_istore dX7_brackets_20 (Nat.le_of_ble_eq_true rfl) ?_
    show E K_X7_brackets 22 [some (aR (some 26)), some (aI x1), some (aI x2), some (aI x3), some (aI ((120 * x1) + x3))] [] M v M'
    refine e_aload_n dX7_brackets_22 rfl ?_
    refine e_get ff_7_11 hS.l26 w846 dX7_brackets_23 (w := aR (some 35)) hS.f26_11 ?_
    refine e_iload dX7_brackets_26 rfl ?_
    refine e_iload_n dX7_brackets_28 rfl ?_
    refine e_iast hS.l35 (hS.b35 (b3 g1)) dX7_brackets_29 ?_
    refine e_aload_n dX7_brackets_30 rfl ?_
    refine e_get ff_7_12 hS.l26 w847 dX7_brackets_31 (w := aR (some 36)) hS.f26_12 ?_
    refine e_iload dX7_brackets_34 rfl ?_
    refine e_iconst (u := (-1)) dX7_brackets_36 (by decide) ?_
    refine e_iast hS.l36 (hS.b36 (b3 g1)) dX7_brackets_37 ?_
    refine e_aload_n dX7_brackets_38 rfl ?_
    refine e_get ff_7_13 hS.l26 w848 dX7_brackets_39 (w := aR (some 37)) hS.f26_13 ?_
    refine e_iload dX7_brackets_42 rfl ?_
    refine e_iload_n dX7_brackets_44 rfl ?_
    refine e_if_ge (tgt := 52) dX7_brackets_45 rfl (fun g2 => ?_) (fun g2 => ?_)
    ·
      refine e_aload_n dX7_brackets_52 rfl ?_
      refine e_get ff_7_13 hS.l26 w848 dX7_brackets_53 (w := aR (some 37)) hS.f26_13 ?_
      refine e_bipush (u := 120) dX7_brackets_56 (by decide) ?_
      refine e_iload_n dX7_brackets_58 rfl ?_
      refine e_imul dX7_brackets_59 ?_
      refine e_iload_n dX7_brackets_60 rfl ?_
      refine e_iadd dX7_brackets_61 ?_
      refine e_iald hS.l37 (hS.b37 (b4 g1 g2)) dX7_brackets_62 ?_
      show E K_X7_brackets 63 [some (aR (some 26)), some (aI x1), some (aI x2), some (aI x3), some (aI ((120 * x1) + x3))] [aI (mI M 37 ((120 * x1) + x2).toNatClampNeg), aI ((120 * x1) + x3), aR (some 37)] (wrI (wrI M 35 ((120 * x1) + x3).toNatClampNeg x2) 36 ((120 * x1) + x3).toNatClampNeg (-1)) v M'
      refine e_iconst (u := 1) dX7_brackets_63 (by decide) ?_
      refine e_iadd dX7_brackets_64 ?_
      refine e_iast hS.l37 (hS.b37 (b3 g1)) dX7_brackets_65 ?_
      refine e_aload_n dX7_brackets_66 rfl ?_
      refine e_get ff_7_5 hS.l26 w840 dX7_brackets_67 (w := aR (some 31)) hS.f26_5 ?_
      refine e_iload dX7_brackets_70 rfl ?_
      refine e_iald hS.l31 (hS.b31 (b3 g1)) dX7_brackets_72 ?_
      show E K_X7_brackets 73 [some (aR (some 26)), some (aI x1), some (aI x2), some (aI x3), some (aI ((120 * x1) + x3))] [aI (mI M 31 ((120 * x1) + x3).toNatClampNeg)] (wrI (wrI (wrI M 35 ((120 * x1) + x3).toNatClampNeg x2) 36 ((120 * x1) + x3).toNatClampNeg (-1)) 37 ((120 * x1) + x3).toNatClampNeg ((mI M 37 ((120 * x1) + x2).toNatClampNeg) + 1)) v M'
      refine e_bipush (u := 14) dX7_brackets_73 (by decide) ?_
      refine e_icmp_ne (tgt := 83) dX7_brackets_75 rfl (fun g3 => ?_) (fun g3 => ?_)
      ·
        refine e_aload_n dX7_brackets_83 rfl ?_
        refine e_get ff_7_5 hS.l26 w840 dX7_brackets_84 (w := aR (some 31)) hS.f26_5 ?_
        refine e_iload dX7_brackets_87 rfl ?_
        refine e_iald hS.l31 (hS.b31 (b3 g1)) dX7_brackets_89 ?_
        show E K_X7_brackets 90 [some (aR (some 26)), some (aI x1), some (aI x2), some (aI x3), some (aI ((120 * x1) + x3))] [aI (mI M 31 ((120 * x1) + x3).toNatClampNeg)] (wrI (wrI (wrI M 35 ((120 * x1) + x3).toNatClampNeg x2) 36 ((120 * x1) + x3).toNatClampNeg (-1)) 37 ((120 * x1) + x3).toNatClampNeg ((mI M 37 ((120 * x1) + x2).toNatClampNeg) + 1)) v M'
        refine e_bipush (u := 15) dX7_brackets_90 (by decide) ?_
        refine e_icmp_ne (tgt := 131) dX7_brackets_92 rfl (fun g4 => ?_) (fun g4 => ?_)
        ·
          refine e_iinc dX7_brackets_131 rfl ?_
          show E K_X7_brackets 134 [some (aR (some 26)), some (aI x1), some (aI x2), some (aI (x3 + 1)), some (aI ((120 * x1) + x3))] [] (wrI (wrI (wrI M 35 ((120 * x1) + x3).toNatClampNeg x2) 36 ((120 * x1) + x3).toNatClampNeg (-1)) 37 ((120 * x1) + x3).toNatClampNeg ((mI M 37 ((120 * x1) + x2).toNatClampNeg) + 1)) v M'
          refine e_goto (tgt := 4) dX7_brackets_134 rfl ?_
          exact (k5 g1 g2 g3 g4)
        ·
          refine e_iload_n dX7_brackets_95 rfl ?_
          refine e_if_lt (tgt := 131) dX7_brackets_96 rfl (fun g5 => ?_) (fun g5 => ?_)
          ·
            refine e_iinc dX7_brackets_131 rfl ?_
            show E K_X7_brackets 134 [some (aR (some 26)), some (aI x1), some (aI x2), some (aI (x3 + 1)), some (aI ((120 * x1) + x3))] [] (wrI (wrI (wrI M 35 ((120 * x1) + x3).toNatClampNeg x2) 36 ((120 * x1) + x3).toNatClampNeg (-1)) 37 ((120 * x1) + x3).toNatClampNeg ((mI M 37 ((120 * x1) + x2).toNatClampNeg) + 1)) v M'
            refine e_goto (tgt := 4) dX7_brackets_134 rfl ?_
            exact (k6 g1 g2 g3 g4 g5)
          ·
            refine e_aload_n dX7_brackets_99 rfl ?_
            refine e_get ff_7_12 hS.l26 w847 dX7_brackets_100 (w := aR (some 36)) hS.f26_12 ?_
            refine e_iload dX7_brackets_103 rfl ?_
            refine e_iload_n dX7_brackets_105 rfl ?_
            refine e_iast hS.l36 (hS.b36 (b3 g1)) dX7_brackets_106 ?_
            refine e_aload_n dX7_brackets_107 rfl ?_
            refine e_get ff_7_12 hS.l26 w847 dX7_brackets_108 (w := aR (some 36)) hS.f26_12 ?_
            refine e_bipush (u := 120) dX7_brackets_111 (by decide) ?_
            refine e_iload_n dX7_brackets_113 rfl ?_
            refine e_imul dX7_brackets_114 ?_
            refine e_iload_n dX7_brackets_115 rfl ?_
            refine e_iadd dX7_brackets_116 ?_
            refine e_iload_n dX7_brackets_117 rfl ?_
            refine e_iast hS.l36 (hS.b36 (b4 g1 g2)) dX7_brackets_118 ?_
            refine e_aload_n dX7_brackets_119 rfl ?_
            refine e_get ff_7_11 hS.l26 w846 dX7_brackets_120 (w := aR (some 35)) hS.f26_11 ?_
            refine e_bipush (u := 120) dX7_brackets_123 (by decide) ?_
            refine e_iload_n dX7_brackets_125 rfl ?_
            refine e_imul dX7_brackets_126 ?_
            refine e_iload_n dX7_brackets_127 rfl ?_
            refine e_iadd dX7_brackets_128 ?_
            refine e_iald hS.l35 (hS.b35 (b4 g1 g2)) dX7_brackets_129 ?_
            show E K_X7_brackets 130 [some (aR (some 26)), some (aI x1), some (aI x2), some (aI x3), some (aI ((120 * x1) + x3))] [aI (mI (wrI M 35 ((120 * x1) + x3).toNatClampNeg x2) 35 ((120 * x1) + x2).toNatClampNeg)] (wrI (wrI (wrI (wrI (wrI M 35 ((120 * x1) + x3).toNatClampNeg x2) 36 ((120 * x1) + x3).toNatClampNeg (-1)) 37 ((120 * x1) + x3).toNatClampNeg ((mI M 37 ((120 * x1) + x2).toNatClampNeg) + 1)) 36 ((120 * x1) + x3).toNatClampNeg x2) 36 ((120 * x1) + x2).toNatClampNeg x3) v M'
            refine e_istore_n dX7_brackets_130 (Nat.le_of_ble_eq_true rfl) ?_
            show E K_X7_brackets 131 [some (aR (some 26)), some (aI x1), some (aI (mI (wrI M 35 ((120 * x1) + x3).toNatClampNeg x2) 35 ((120 * x1) + x2).toNatClampNeg)), some (aI x3), some (aI ((120 * x1) + x3))] [] (wrI (wrI (wrI (wrI (wrI M 35 ((120 * x1) + x3).toNatClampNeg x2) 36 ((120 * x1) + x3).toNatClampNeg (-1)) 37 ((120 * x1) + x3).toNatClampNeg ((mI M 37 ((120 * x1) + x2).toNatClampNeg) + 1)) 36 ((120 * x1) + x3).toNatClampNeg x2) 36 ((120 * x1) + x2).toNatClampNeg x3) v M'
            refine e_iinc dX7_brackets_131 rfl ?_
            show E K_X7_brackets 134 [some (aR (some 26)), some (aI x1), some (aI (mI (wrI M 35 ((120 * x1) + x3).toNatClampNeg x2) 35 ((120 * x1) + x2).toNatClampNeg)), some (aI (x3 + 1)), some (aI ((120 * x1) + x3))] [] (wrI (wrI (wrI (wrI (wrI M 35 ((120 * x1) + x3).toNatClampNeg x2) 36 ((120 * x1) + x3).toNatClampNeg (-1)) 37 ((120 * x1) + x3).toNatClampNeg ((mI M 37 ((120 * x1) + x2).toNatClampNeg) + 1)) 36 ((120 * x1) + x3).toNatClampNeg x2) 36 ((120 * x1) + x2).toNatClampNeg x3) v M'
            refine e_goto (tgt := 4) dX7_brackets_134 rfl ?_
            exact (k7 g1 g2 g3 g4 g5)
      ·
        refine e_iload_n dX7_brackets_78 rfl ?_
        refine e_istore_n dX7_brackets_79 (Nat.le_of_ble_eq_true rfl) ?_
        show E K_X7_brackets 80 [some (aR (some 26)), some (aI x1), some (aI x3), some (aI x3), some (aI ((120 * x1) + x3))] [] (wrI (wrI (wrI M 35 ((120 * x1) + x3).toNatClampNeg x2) 36 ((120 * x1) + x3).toNatClampNeg (-1)) 37 ((120 * x1) + x3).toNatClampNeg ((mI M 37 ((120 * x1) + x2).toNatClampNeg) + 1)) v M'
        refine e_goto (tgt := 131) dX7_brackets_80 rfl ?_
        refine e_iinc dX7_brackets_131 rfl ?_
        show E K_X7_brackets 134 [some (aR (some 26)), some (aI x1), some (aI x3), some (aI (x3 + 1)), some (aI ((120 * x1) + x3))] [] (wrI (wrI (wrI M 35 ((120 * x1) + x3).toNatClampNeg x2) 36 ((120 * x1) + x3).toNatClampNeg (-1)) 37 ((120 * x1) + x3).toNatClampNeg ((mI M 37 ((120 * x1) + x2).toNatClampNeg) + 1)) v M'
        refine e_goto (tgt := 4) dX7_brackets_134 rfl ?_
        exact (k8 g1 g2 g3)
    ·
      refine e_iconst (u := 0) dX7_brackets_48 (by decide) ?_
      refine e_goto (tgt := 65) dX7_brackets_49 rfl ?_
      refine e_iast hS.l37 (hS.b37 (b3 g1)) dX7_brackets_65 ?_
      refine e_aload_n dX7_brackets_66 rfl ?_
      refine e_get ff_7_5 hS.l26 w840 dX7_brackets_67 (w := aR (some 31)) hS.f26_5 ?_
      refine e_iload dX7_brackets_70 rfl ?_
      refine e_iald hS.l31 (hS.b31 (b3 g1)) dX7_brackets_72 ?_
      show E K_X7_brackets 73 [some (aR (some 26)), some (aI x1), some (aI x2), some (aI x3), some (aI ((120 * x1) + x3))] [aI (mI M 31 ((120 * x1) + x3).toNatClampNeg)] (wrI (wrI (wrI M 35 ((120 * x1) + x3).toNatClampNeg x2) 36 ((120 * x1) + x3).toNatClampNeg (-1)) 37 ((120 * x1) + x3).toNatClampNeg 0) v M'
      refine e_bipush (u := 14) dX7_brackets_73 (by decide) ?_
      refine e_icmp_ne (tgt := 83) dX7_brackets_75 rfl (fun g6 => ?_) (fun g6 => ?_)
      ·
        refine e_aload_n dX7_brackets_83 rfl ?_
        refine e_get ff_7_5 hS.l26 w840 dX7_brackets_84 (w := aR (some 31)) hS.f26_5 ?_
        refine e_iload dX7_brackets_87 rfl ?_
        refine e_iald hS.l31 (hS.b31 (b3 g1)) dX7_brackets_89 ?_
        show E K_X7_brackets 90 [some (aR (some 26)), some (aI x1), some (aI x2), some (aI x3), some (aI ((120 * x1) + x3))] [aI (mI M 31 ((120 * x1) + x3).toNatClampNeg)] (wrI (wrI (wrI M 35 ((120 * x1) + x3).toNatClampNeg x2) 36 ((120 * x1) + x3).toNatClampNeg (-1)) 37 ((120 * x1) + x3).toNatClampNeg 0) v M'
        refine e_bipush (u := 15) dX7_brackets_90 (by decide) ?_
        refine e_icmp_ne (tgt := 131) dX7_brackets_92 rfl (fun g7 => ?_) (fun g7 => ?_)
        ·
          refine e_iinc dX7_brackets_131 rfl ?_
          show E K_X7_brackets 134 [some (aR (some 26)), some (aI x1), some (aI x2), some (aI (x3 + 1)), some (aI ((120 * x1) + x3))] [] (wrI (wrI (wrI M 35 ((120 * x1) + x3).toNatClampNeg x2) 36 ((120 * x1) + x3).toNatClampNeg (-1)) 37 ((120 * x1) + x3).toNatClampNeg 0) v M'
          refine e_goto (tgt := 4) dX7_brackets_134 rfl ?_
          exact (k9 g1 g2 g6 g7)
        ·
          refine e_iload_n dX7_brackets_95 rfl ?_
          refine e_if_lt (tgt := 131) dX7_brackets_96 rfl (fun g8 => ?_) (fun g8 => ?_)
          ·
            refine e_iinc dX7_brackets_131 rfl ?_
            show E K_X7_brackets 134 [some (aR (some 26)), some (aI x1), some (aI x2), some (aI (x3 + 1)), some (aI ((120 * x1) + x3))] [] (wrI (wrI (wrI M 35 ((120 * x1) + x3).toNatClampNeg x2) 36 ((120 * x1) + x3).toNatClampNeg (-1)) 37 ((120 * x1) + x3).toNatClampNeg 0) v M'
            refine e_goto (tgt := 4) dX7_brackets_134 rfl ?_
            exact (k10 g1 g2 g6 g7 g8)
          ·
            refine e_aload_n dX7_brackets_99 rfl ?_
            refine e_get ff_7_12 hS.l26 w847 dX7_brackets_100 (w := aR (some 36)) hS.f26_12 ?_
            refine e_iload dX7_brackets_103 rfl ?_
            refine e_iload_n dX7_brackets_105 rfl ?_
            refine e_iast hS.l36 (hS.b36 (b3 g1)) dX7_brackets_106 ?_
            refine e_aload_n dX7_brackets_107 rfl ?_
            refine e_get ff_7_12 hS.l26 w847 dX7_brackets_108 (w := aR (some 36)) hS.f26_12 ?_
            refine e_bipush (u := 120) dX7_brackets_111 (by decide) ?_
            refine e_iload_n dX7_brackets_113 rfl ?_
            refine e_imul dX7_brackets_114 ?_
            refine e_iload_n dX7_brackets_115 rfl ?_
            refine e_iadd dX7_brackets_116 ?_
            refine e_iload_n dX7_brackets_117 rfl ?_
            refine e_iast hS.l36 (hS.b36 (b11 g1 g2 g6 g7 g8)) dX7_brackets_118 ?_
            refine e_aload_n dX7_brackets_119 rfl ?_
            refine e_get ff_7_11 hS.l26 w846 dX7_brackets_120 (w := aR (some 35)) hS.f26_11 ?_
            refine e_bipush (u := 120) dX7_brackets_123 (by decide) ?_
            refine e_iload_n dX7_brackets_125 rfl ?_
            refine e_imul dX7_brackets_126 ?_
            refine e_iload_n dX7_brackets_127 rfl ?_
            refine e_iadd dX7_brackets_128 ?_
            refine e_iald hS.l35 (hS.b35 (b11 g1 g2 g6 g7 g8)) dX7_brackets_129 ?_
            show E K_X7_brackets 130 [some (aR (some 26)), some (aI x1), some (aI x2), some (aI x3), some (aI ((120 * x1) + x3))] [aI (mI (wrI M 35 ((120 * x1) + x3).toNatClampNeg x2) 35 ((120 * x1) + x2).toNatClampNeg)] (wrI (wrI (wrI (wrI (wrI M 35 ((120 * x1) + x3).toNatClampNeg x2) 36 ((120 * x1) + x3).toNatClampNeg (-1)) 37 ((120 * x1) + x3).toNatClampNeg 0) 36 ((120 * x1) + x3).toNatClampNeg x2) 36 ((120 * x1) + x2).toNatClampNeg x3) v M'
            refine e_istore_n dX7_brackets_130 (Nat.le_of_ble_eq_true rfl) ?_
            show E K_X7_brackets 131 [some (aR (some 26)), some (aI x1), some (aI (mI (wrI M 35 ((120 * x1) + x3).toNatClampNeg x2) 35 ((120 * x1) + x2).toNatClampNeg)), some (aI x3), some (aI ((120 * x1) + x3))] [] (wrI (wrI (wrI (wrI (wrI M 35 ((120 * x1) + x3).toNatClampNeg x2) 36 ((120 * x1) + x3).toNatClampNeg (-1)) 37 ((120 * x1) + x3).toNatClampNeg 0) 36 ((120 * x1) + x3).toNatClampNeg x2) 36 ((120 * x1) + x2).toNatClampNeg x3) v M'
            refine e_iinc dX7_brackets_131 rfl ?_
            show E K_X7_brackets 134 [some (aR (some 26)), some (aI x1), some (aI (mI (wrI M 35 ((120 * x1) + x3).toNatClampNeg x2) 35 ((120 * x1) + x2).toNatClampNeg)), some (aI (x3 + 1)), some (aI ((120 * x1) + x3))] [] (wrI (wrI (wrI (wrI (wrI M 35 ((120 * x1) + x3).toNatClampNeg x2) 36 ((120 * x1) + x3).toNatClampNeg (-1)) 37 ((120 * x1) + x3).toNatClampNeg 0) 36 ((120 * x1) + x3).toNatClampNeg x2) 36 ((120 * x1) + x2).toNatClampNeg x3) v M'
            refine e_goto (tgt := 4) dX7_brackets_134 rfl ?_
            exact (k12 g1 g2 g6 g7 g8)
      ·
        refine e_iload_n dX7_brackets_78 rfl ?_
        refine e_istore_n dX7_brackets_79 (Nat.le_of_ble_eq_true rfl) ?_
        show E K_X7_brackets 80 [some (aR (some 26)), some (aI x1), some (aI x3), some (aI x3), some (aI ((120 * x1) + x3))] [] (wrI (wrI (wrI M 35 ((120 * x1) + x3).toNatClampNeg x2) 36 ((120 * x1) + x3).toNatClampNeg (-1)) 37 ((120 * x1) + x3).toNatClampNeg 0) v M'
        refine e_goto (tgt := 131) dX7_brackets_80 rfl ?_
        refine e_iinc dX7_brackets_131 rfl ?_
        show E K_X7_brackets 134 [some (aR (some 26)), some (aI x1), some (aI x3), some (aI (x3 + 1)), some (aI ((120 * x1) + x3))] [] (wrI (wrI (wrI M 35 ((120 * x1) + x3).toNatClampNeg x2) 36 ((120 * x1) + x3).toNatClampNeg (-1)) 37 ((120 * x1) + x3).toNatClampNeg 0) v M'
        refine e_goto (tgt := 4) dX7_brackets_134 rfl ?_
        exact (k13 g1 g2 g6)

set_option maxRecDepth 20000 in
theorem s_X7_badArg_0 {M M' : AM} {v : Option AV} {x1 : Int32} {x2 : Int32} (hS : St M)
    (b1 : vp_in ((120 * x1) + x2) 3840)
    (k2 : ∀ (g1 : (mI M 31 ((120 * x1) + x2).toNatClampNeg) = 0 ∨ (mI M 31 ((120 * x1) + x2).toNatClampNeg) = 16), some (aI 0) = v ∧ M = M')
    (k3 : ∀ (g1 : ¬ ((mI M 31 ((120 * x1) + x2).toNatClampNeg) = 0 ∨ (mI M 31 ((120 * x1) + x2).toNatClampNeg) = 16)) (g2 : (mI M 31 ((120 * x1) + x2).toNatClampNeg) = 9 ∨ (mI M 31 ((120 * x1) + x2).toNatClampNeg) = 10) (g3 : (mJ M 32 ((120 * x1) + x2).toNatClampNeg) < 0), some (aI 1) = v ∧ M = M')
    (b4 : ∀ (g1 : ¬ ((mI M 31 ((120 * x1) + x2).toNatClampNeg) = 0 ∨ (mI M 31 ((120 * x1) + x2).toNatClampNeg) = 16)) (g2 : (mI M 31 ((120 * x1) + x2).toNatClampNeg) = 9 ∨ (mI M 31 ((120 * x1) + x2).toNatClampNeg) = 10) (g3 : ¬ ((mJ M 32 ((120 * x1) + x2).toNatClampNeg) < 0)), vp_in x1 32)
    (k5 : ∀ (g1 : ¬ ((mI M 31 ((120 * x1) + x2).toNatClampNeg) = 0 ∨ (mI M 31 ((120 * x1) + x2).toNatClampNeg) = 16)) (g2 : (mI M 31 ((120 * x1) + x2).toNatClampNeg) = 9 ∨ (mI M 31 ((120 * x1) + x2).toNatClampNeg) = 10) (g3 : ¬ ((mJ M 32 ((120 * x1) + x2).toNatClampNeg) < 0)) (g4 : (mJ M 32 ((120 * x1) + x2).toNatClampNeg) < ((mI M 29 x1.toNatClampNeg : Int32).toInt64)), some (aI 0) = v ∧ M = M')
    (k6 : ∀ (g1 : ¬ ((mI M 31 ((120 * x1) + x2).toNatClampNeg) = 0 ∨ (mI M 31 ((120 * x1) + x2).toNatClampNeg) = 16)) (g2 : (mI M 31 ((120 * x1) + x2).toNatClampNeg) = 9 ∨ (mI M 31 ((120 * x1) + x2).toNatClampNeg) = 10) (g3 : ¬ ((mJ M 32 ((120 * x1) + x2).toNatClampNeg) < 0)) (g4 : ¬ ((mJ M 32 ((120 * x1) + x2).toNatClampNeg) < ((mI M 29 x1.toNatClampNeg : Int32).toInt64))), some (aI 1) = v ∧ M = M')
    (k7 : ∀ (g1 : ¬ ((mI M 31 ((120 * x1) + x2).toNatClampNeg) = 0 ∨ (mI M 31 ((120 * x1) + x2).toNatClampNeg) = 16)) (g2 : ¬ ((mI M 31 ((120 * x1) + x2).toNatClampNeg) = 9 ∨ (mI M 31 ((120 * x1) + x2).toNatClampNeg) = 10)) (g5 : (mI M 31 ((120 * x1) + x2).toNatClampNeg) = 11) (g6 : (mJ M 32 ((120 * x1) + x2).toNatClampNeg) < 0), some (aI 1) = v ∧ M = M')
    (k8 : ∀ (g1 : ¬ ((mI M 31 ((120 * x1) + x2).toNatClampNeg) = 0 ∨ (mI M 31 ((120 * x1) + x2).toNatClampNeg) = 16)) (g2 : ¬ ((mI M 31 ((120 * x1) + x2).toNatClampNeg) = 9 ∨ (mI M 31 ((120 * x1) + x2).toNatClampNeg) = 10)) (g5 : (mI M 31 ((120 * x1) + x2).toNatClampNeg) = 11) (g6 : ¬ ((mJ M 32 ((120 * x1) + x2).toNatClampNeg) < 0)) (g7 : ¬ (100 < (mJ M 32 ((120 * x1) + x2).toNatClampNeg))), some (aI 0) = v ∧ M = M')
    (k9 : ∀ (g1 : ¬ ((mI M 31 ((120 * x1) + x2).toNatClampNeg) = 0 ∨ (mI M 31 ((120 * x1) + x2).toNatClampNeg) = 16)) (g2 : ¬ ((mI M 31 ((120 * x1) + x2).toNatClampNeg) = 9 ∨ (mI M 31 ((120 * x1) + x2).toNatClampNeg) = 10)) (g5 : (mI M 31 ((120 * x1) + x2).toNatClampNeg) = 11) (g6 : ¬ ((mJ M 32 ((120 * x1) + x2).toNatClampNeg) < 0)) (g7 : 100 < (mJ M 32 ((120 * x1) + x2).toNatClampNeg)), some (aI 1) = v ∧ M = M')
    (k10 : ∀ (g1 : ¬ ((mI M 31 ((120 * x1) + x2).toNatClampNeg) = 0 ∨ (mI M 31 ((120 * x1) + x2).toNatClampNeg) = 16)) (g2 : ¬ ((mI M 31 ((120 * x1) + x2).toNatClampNeg) = 9 ∨ (mI M 31 ((120 * x1) + x2).toNatClampNeg) = 10)) (g5 : ¬ ((mI M 31 ((120 * x1) + x2).toNatClampNeg) = 11)) (g8 : (mI M 31 ((120 * x1) + x2).toNatClampNeg) = 12 ∨ (mI M 31 ((120 * x1) + x2).toNatClampNeg) = 13) (g9 : ¬ (((x2 : Int32).toInt64) < (mJ M 32 ((120 * x1) + x2).toNatClampNeg))), some (aI 1) = v ∧ M = M')
    (b11 : ∀ (g1 : ¬ ((mI M 31 ((120 * x1) + x2).toNatClampNeg) = 0 ∨ (mI M 31 ((120 * x1) + x2).toNatClampNeg) = 16)) (g2 : ¬ ((mI M 31 ((120 * x1) + x2).toNatClampNeg) = 9 ∨ (mI M 31 ((120 * x1) + x2).toNatClampNeg) = 10)) (g5 : ¬ ((mI M 31 ((120 * x1) + x2).toNatClampNeg) = 11)) (g8 : (mI M 31 ((120 * x1) + x2).toNatClampNeg) = 12 ∨ (mI M 31 ((120 * x1) + x2).toNatClampNeg) = 13) (g9 : ((x2 : Int32).toInt64) < (mJ M 32 ((120 * x1) + x2).toNatClampNeg)), vp_in x1 32)
    (k12 : ∀ (g1 : ¬ ((mI M 31 ((120 * x1) + x2).toNatClampNeg) = 0 ∨ (mI M 31 ((120 * x1) + x2).toNatClampNeg) = 16)) (g2 : ¬ ((mI M 31 ((120 * x1) + x2).toNatClampNeg) = 9 ∨ (mI M 31 ((120 * x1) + x2).toNatClampNeg) = 10)) (g5 : ¬ ((mI M 31 ((120 * x1) + x2).toNatClampNeg) = 11)) (g8 : (mI M 31 ((120 * x1) + x2).toNatClampNeg) = 12 ∨ (mI M 31 ((120 * x1) + x2).toNatClampNeg) = 13) (g9 : ((x2 : Int32).toInt64) < (mJ M 32 ((120 * x1) + x2).toNatClampNeg)) (g10 : (mJ M 32 ((120 * x1) + x2).toNatClampNeg) < ((mI M 30 x1.toNatClampNeg : Int32).toInt64)), some (aI 0) = v ∧ M = M')
    (k13 : ∀ (g1 : ¬ ((mI M 31 ((120 * x1) + x2).toNatClampNeg) = 0 ∨ (mI M 31 ((120 * x1) + x2).toNatClampNeg) = 16)) (g2 : ¬ ((mI M 31 ((120 * x1) + x2).toNatClampNeg) = 9 ∨ (mI M 31 ((120 * x1) + x2).toNatClampNeg) = 10)) (g5 : ¬ ((mI M 31 ((120 * x1) + x2).toNatClampNeg) = 11)) (g8 : (mI M 31 ((120 * x1) + x2).toNatClampNeg) = 12 ∨ (mI M 31 ((120 * x1) + x2).toNatClampNeg) = 13) (g9 : ((x2 : Int32).toInt64) < (mJ M 32 ((120 * x1) + x2).toNatClampNeg)) (g10 : ¬ ((mJ M 32 ((120 * x1) + x2).toNatClampNeg) < ((mI M 30 x1.toNatClampNeg : Int32).toInt64))), some (aI 1) = v ∧ M = M')
    (k14 : ∀ (g1 : ¬ ((mI M 31 ((120 * x1) + x2).toNatClampNeg) = 0 ∨ (mI M 31 ((120 * x1) + x2).toNatClampNeg) = 16)) (g2 : ¬ ((mI M 31 ((120 * x1) + x2).toNatClampNeg) = 9 ∨ (mI M 31 ((120 * x1) + x2).toNatClampNeg) = 10)) (g5 : ¬ ((mI M 31 ((120 * x1) + x2).toNatClampNeg) = 11)) (g8 : ¬ ((mI M 31 ((120 * x1) + x2).toNatClampNeg) = 12 ∨ (mI M 31 ((120 * x1) + x2).toNatClampNeg) = 13)) (g11 : (mI M 31 ((120 * x1) + x2).toNatClampNeg) = 14) (g12 : (mJ M 32 ((120 * x1) + x2).toNatClampNeg) < 0), some (aI 1) = v ∧ M = M')
    (k15 : ∀ (g1 : ¬ ((mI M 31 ((120 * x1) + x2).toNatClampNeg) = 0 ∨ (mI M 31 ((120 * x1) + x2).toNatClampNeg) = 16)) (g2 : ¬ ((mI M 31 ((120 * x1) + x2).toNatClampNeg) = 9 ∨ (mI M 31 ((120 * x1) + x2).toNatClampNeg) = 10)) (g5 : ¬ ((mI M 31 ((120 * x1) + x2).toNatClampNeg) = 11)) (g8 : ¬ ((mI M 31 ((120 * x1) + x2).toNatClampNeg) = 12 ∨ (mI M 31 ((120 * x1) + x2).toNatClampNeg) = 13)) (g11 : (mI M 31 ((120 * x1) + x2).toNatClampNeg) = 14) (g12 : ¬ ((mJ M 32 ((120 * x1) + x2).toNatClampNeg) < 0)) (g13 : ¬ (1000000000 < (mJ M 32 ((120 * x1) + x2).toNatClampNeg))), some (aI 0) = v ∧ M = M')
    (k16 : ∀ (g1 : ¬ ((mI M 31 ((120 * x1) + x2).toNatClampNeg) = 0 ∨ (mI M 31 ((120 * x1) + x2).toNatClampNeg) = 16)) (g2 : ¬ ((mI M 31 ((120 * x1) + x2).toNatClampNeg) = 9 ∨ (mI M 31 ((120 * x1) + x2).toNatClampNeg) = 10)) (g5 : ¬ ((mI M 31 ((120 * x1) + x2).toNatClampNeg) = 11)) (g8 : ¬ ((mI M 31 ((120 * x1) + x2).toNatClampNeg) = 12 ∨ (mI M 31 ((120 * x1) + x2).toNatClampNeg) = 13)) (g11 : (mI M 31 ((120 * x1) + x2).toNatClampNeg) = 14) (g12 : ¬ ((mJ M 32 ((120 * x1) + x2).toNatClampNeg) < 0)) (g13 : 1000000000 < (mJ M 32 ((120 * x1) + x2).toNatClampNeg)), some (aI 1) = v ∧ M = M')
    (k17 : ∀ (g1 : ¬ ((mI M 31 ((120 * x1) + x2).toNatClampNeg) = 0 ∨ (mI M 31 ((120 * x1) + x2).toNatClampNeg) = 16)) (g2 : ¬ ((mI M 31 ((120 * x1) + x2).toNatClampNeg) = 9 ∨ (mI M 31 ((120 * x1) + x2).toNatClampNeg) = 10)) (g5 : ¬ ((mI M 31 ((120 * x1) + x2).toNatClampNeg) = 11)) (g8 : ¬ ((mI M 31 ((120 * x1) + x2).toNatClampNeg) = 12 ∨ (mI M 31 ((120 * x1) + x2).toNatClampNeg) = 13)) (g11 : ¬ ((mI M 31 ((120 * x1) + x2).toNatClampNeg) = 14)) (g14 : (mJ M 32 ((120 * x1) + x2).toNatClampNeg) = 0), some (aI 0) = v ∧ M = M')
    (k18 : ∀ (g1 : ¬ ((mI M 31 ((120 * x1) + x2).toNatClampNeg) = 0 ∨ (mI M 31 ((120 * x1) + x2).toNatClampNeg) = 16)) (g2 : ¬ ((mI M 31 ((120 * x1) + x2).toNatClampNeg) = 9 ∨ (mI M 31 ((120 * x1) + x2).toNatClampNeg) = 10)) (g5 : ¬ ((mI M 31 ((120 * x1) + x2).toNatClampNeg) = 11)) (g8 : ¬ ((mI M 31 ((120 * x1) + x2).toNatClampNeg) = 12 ∨ (mI M 31 ((120 * x1) + x2).toNatClampNeg) = 13)) (g11 : ¬ ((mI M 31 ((120 * x1) + x2).toNatClampNeg) = 14)) (g14 : ¬ ((mJ M 32 ((120 * x1) + x2).toNatClampNeg) = 0)), some (aI 1) = v ∧ M = M') :
    Ev K_X7_badArg [aR (some 26), aI x1, aI x2] M v M' := by
  refine ⟨Nat.le_of_ble_eq_true rfl, ?_⟩
  show E K_X7_badArg 0 [some (aR (some 26)), some (aI x1), some (aI x2), none, none, none] [] M v M'
  refine e_bipush (u := 120) dX7_badArg_0 (by decide) ?_
  refine e_iload_n dX7_badArg_2 rfl ?_
  refine e_imul dX7_badArg_3 ?_
  refine e_iload_n dX7_badArg_4 rfl ?_
  refine e_iadd dX7_badArg_5 ?_
  refine e_istore_n dX7_badArg_6 (Nat.le_of_ble_eq_true rfl) ?_
  show E K_X7_badArg 7 [some (aR (some 26)), some (aI x1), some (aI x2), some (aI ((120 * x1) + x2)), none, none] [] M v M'
  refine e_aload_n dX7_badArg_7 rfl ?_
  refine e_get ff_7_6 hS.l26 w841 dX7_badArg_8 (w := aR (some 32)) hS.f26_6 ?_
  refine e_iload_n dX7_badArg_11 rfl ?_
  refine e_lald hS.l32 (hS.b32 b1) dX7_badArg_12 ?_
  refine e_lstore dX7_badArg_13 (Nat.le_of_ble_eq_true rfl) ?_
  show E K_X7_badArg 15 [some (aR (some 26)), some (aI x1), some (aI x2), some (aI ((120 * x1) + x2)), some (aJ (mJ M 32 ((120 * x1) + x2).toNatClampNeg)), none] [] M v M'
  refine e_aload_n dX7_badArg_15 rfl ?_
  refine e_get ff_7_5 hS.l26 w840 dX7_badArg_16 (w := aR (some 31)) hS.f26_5 ?_
  refine e_iload_n dX7_badArg_19 rfl ?_
  refine e_iald hS.l31 (hS.b31 b1) dX7_badArg_20 ?_
  refine e_tsw (d := 203) (tg := [104, 203, 203, 203, 203, 203, 203, 203, 203, 106, 106, 132, 154, 154, 181, 203, 104]) dX7_badArg_21 rfl rfl rfl ?_
  by_cases g1 : (mI M 31 ((120 * x1) + x2).toNatClampNeg) = 0 ∨ (mI M 31 ((120 * x1) + x2).toNatClampNeg) = 16
  · have e9 : tsw 0 [104, 203, 203, 203, 203, 203, 203, 203, 203, 106, 106, 132, 154, 154, 181, 203, 104] 203 (mI M 31 ((120 * x1) + x2).toNatClampNeg) = 104 := by (rcases g1 with h9 | h9); all_goals (rw [h9]; rfl)
    rw [e9]
    refine e_iconst (u := 0) dX7_badArg_104 (by decide) ?_
    exact e_zret rfl (Or.inl rfl) dX7_badArg_105 (k2 g1)
  by_cases g2 : (mI M 31 ((120 * x1) + x2).toNatClampNeg) = 9 ∨ (mI M 31 ((120 * x1) + x2).toNatClampNeg) = 10
  · have e9 : tsw 0 [104, 203, 203, 203, 203, 203, 203, 203, 203, 106, 106, 132, 154, 154, 181, 203, 104] 203 (mI M 31 ((120 * x1) + x2).toNatClampNeg) = 106 := by (rcases g2 with h9 | h9); all_goals (rw [h9]; rfl)
    rw [e9]
    refine e_lload dX7_badArg_106 rfl ?_
    refine e_lconst (u := 0) dX7_badArg_108 (by decide) ?_
    refine e_lcmp_lt (tgt := 126) dX7_badArg_109 dX7_badArg_110 rfl (fun g3 => ?_) (fun g3 => ?_)
    ·
      refine e_iconst (u := 1) dX7_badArg_126 (by decide) ?_
      refine e_goto (tgt := 131) dX7_badArg_127 rfl ?_
      exact e_zret rfl (Or.inr rfl) dX7_badArg_131 (k3 g1 g2 g3)
    ·
      refine e_lload dX7_badArg_113 rfl ?_
      refine e_aload_n dX7_badArg_115 rfl ?_
      refine e_get ff_7_2 hS.l26 w837 dX7_badArg_116 (w := aR (some 29)) hS.f26_2 ?_
      refine e_iload_n dX7_badArg_119 rfl ?_
      refine e_iald hS.l29 (hS.b29 (b4 g1 g2 g3)) dX7_badArg_120 ?_
      refine e_i2l dX7_badArg_121 ?_
      refine e_lcmp_lt (tgt := 130) dX7_badArg_122 dX7_badArg_123 rfl (fun g4 => ?_) (fun g4 => ?_)
      ·
        refine e_iconst (u := 0) dX7_badArg_130 (by decide) ?_
        exact e_zret rfl (Or.inl rfl) dX7_badArg_131 (k5 g1 g2 g3 g4)
      ·
        refine e_iconst (u := 1) dX7_badArg_126 (by decide) ?_
        refine e_goto (tgt := 131) dX7_badArg_127 rfl ?_
        exact e_zret rfl (Or.inr rfl) dX7_badArg_131 (k6 g1 g2 g3 g4)
  by_cases g5 : (mI M 31 ((120 * x1) + x2).toNatClampNeg) = 11
  · have e9 : tsw 0 [104, 203, 203, 203, 203, 203, 203, 203, 203, 106, 106, 132, 154, 154, 181, 203, 104] 203 (mI M 31 ((120 * x1) + x2).toNatClampNeg) = 132 := by rw [g5]; rfl
    rw [e9]
    refine e_lload dX7_badArg_132 rfl ?_
    refine e_lconst (u := 0) dX7_badArg_134 (by decide) ?_
    refine e_lcmp_lt (tgt := 148) dX7_badArg_135 dX7_badArg_136 rfl (fun g6 => ?_) (fun g6 => ?_)
    ·
      refine e_iconst (u := 1) dX7_badArg_148 (by decide) ?_
      refine e_goto (tgt := 153) dX7_badArg_149 rfl ?_
      exact e_zret rfl (Or.inr rfl) dX7_badArg_153 (k7 g1 g2 g5 g6)
    ·
      refine e_lload dX7_badArg_139 rfl ?_
      refine e_ldc2 dX7_badArg_141 w1005 ?_
      refine e_lcmp_le (tgt := 152) dX7_badArg_144 dX7_badArg_145 rfl (fun g7 => ?_) (fun g7 => ?_)
      ·
        refine e_iconst (u := 0) dX7_badArg_152 (by decide) ?_
        exact e_zret rfl (Or.inl rfl) dX7_badArg_153 (k8 g1 g2 g5 g6 g7)
      ·
        refine e_iconst (u := 1) dX7_badArg_148 (by decide) ?_
        refine e_goto (tgt := 153) dX7_badArg_149 rfl ?_
        exact e_zret rfl (Or.inr rfl) dX7_badArg_153 (k9 g1 g2 g5 g6 g7)
  by_cases g8 : (mI M 31 ((120 * x1) + x2).toNatClampNeg) = 12 ∨ (mI M 31 ((120 * x1) + x2).toNatClampNeg) = 13
  · have e9 : tsw 0 [104, 203, 203, 203, 203, 203, 203, 203, 203, 106, 106, 132, 154, 154, 181, 203, 104] 203 (mI M 31 ((120 * x1) + x2).toNatClampNeg) = 154 := by (rcases g8 with h9 | h9); all_goals (rw [h9]; rfl)
    rw [e9]
    refine e_lload dX7_badArg_154 rfl ?_
    refine e_iload_n dX7_badArg_156 rfl ?_
    refine e_i2l dX7_badArg_157 ?_
    refine e_lcmp_le (tgt := 175) dX7_badArg_158 dX7_badArg_159 rfl (fun g9 => ?_) (fun g9 => ?_)
    ·
      refine e_iconst (u := 1) dX7_badArg_175 (by decide) ?_
      refine e_goto (tgt := 180) dX7_badArg_176 rfl ?_
      exact e_zret rfl (Or.inr rfl) dX7_badArg_180 (k10 g1 g2 g5 g8 g9)
    ·
      refine e_lload dX7_badArg_162 rfl ?_
      refine e_aload_n dX7_badArg_164 rfl ?_
      refine e_get ff_7_3 hS.l26 w838 dX7_badArg_165 (w := aR (some 30)) hS.f26_3 ?_
      refine e_iload_n dX7_badArg_168 rfl ?_
      refine e_iald hS.l30 (hS.b30 (b11 g1 g2 g5 g8 g9)) dX7_badArg_169 ?_
      refine e_i2l dX7_badArg_170 ?_
      refine e_lcmp_lt (tgt := 179) dX7_badArg_171 dX7_badArg_172 rfl (fun g10 => ?_) (fun g10 => ?_)
      ·
        refine e_iconst (u := 0) dX7_badArg_179 (by decide) ?_
        exact e_zret rfl (Or.inl rfl) dX7_badArg_180 (k12 g1 g2 g5 g8 g9 g10)
      ·
        refine e_iconst (u := 1) dX7_badArg_175 (by decide) ?_
        refine e_goto (tgt := 180) dX7_badArg_176 rfl ?_
        exact e_zret rfl (Or.inr rfl) dX7_badArg_180 (k13 g1 g2 g5 g8 g9 g10)
  by_cases g11 : (mI M 31 ((120 * x1) + x2).toNatClampNeg) = 14
  · have e9 : tsw 0 [104, 203, 203, 203, 203, 203, 203, 203, 203, 106, 106, 132, 154, 154, 181, 203, 104] 203 (mI M 31 ((120 * x1) + x2).toNatClampNeg) = 181 := by rw [g11]; rfl
    rw [e9]
    refine e_lload dX7_badArg_181 rfl ?_
    refine e_lconst (u := 0) dX7_badArg_183 (by decide) ?_
    refine e_lcmp_lt (tgt := 197) dX7_badArg_184 dX7_badArg_185 rfl (fun g12 => ?_) (fun g12 => ?_)
    ·
      refine e_iconst (u := 1) dX7_badArg_197 (by decide) ?_
      refine e_goto (tgt := 202) dX7_badArg_198 rfl ?_
      exact e_zret rfl (Or.inr rfl) dX7_badArg_202 (k14 g1 g2 g5 g8 g11 g12)
    ·
      refine e_lload dX7_badArg_188 rfl ?_
      refine e_ldc2 dX7_badArg_190 w1006 ?_
      refine e_lcmp_le (tgt := 201) dX7_badArg_193 dX7_badArg_194 rfl (fun g13 => ?_) (fun g13 => ?_)
      ·
        refine e_iconst (u := 0) dX7_badArg_201 (by decide) ?_
        exact e_zret rfl (Or.inl rfl) dX7_badArg_202 (k15 g1 g2 g5 g8 g11 g12 g13)
      ·
        refine e_iconst (u := 1) dX7_badArg_197 (by decide) ?_
        refine e_goto (tgt := 202) dX7_badArg_198 rfl ?_
        exact e_zret rfl (Or.inr rfl) dX7_badArg_202 (k16 g1 g2 g5 g8 g11 g12 g13)
  have e9 : tsw 0 [104, 203, 203, 203, 203, 203, 203, 203, 203, 106, 106, 132, 154, 154, 181, 203, 104] 203 (mI M 31 ((120 * x1) + x2).toNatClampNeg) = 203 := tsw_out [0, 16, 9, 10, 11, 12, 13, 14] (by decide) (by
      simp only [List.mem_cons, List.not_mem_nil, or_false, forall_eq_or_imp, forall_eq]
      simp only [not_or] at g1 g2 g5 g8 g11
      exact ⟨g1.1, g1.2, g2.1, g2.2, g5, g8.1, g8.2, g11⟩)
  rw [e9]
  refine e_lload dX7_badArg_203 rfl ?_
  refine e_lconst (u := 0) dX7_badArg_205 (by decide) ?_
  refine e_lcmp_eq (tgt := 214) dX7_badArg_206 dX7_badArg_207 rfl (fun g14 => ?_) (fun g14 => ?_)
  ·
    refine e_iconst (u := 0) dX7_badArg_214 (by decide) ?_
    exact e_zret rfl (Or.inl rfl) dX7_badArg_215 (k17 g1 g2 g5 g8 g11 g14)
  ·
    refine e_iconst (u := 1) dX7_badArg_210 (by decide) ?_
    refine e_goto (tgt := 215) dX7_badArg_211 rfl ?_
    exact e_zret rfl (Or.inr rfl) dX7_badArg_215 (k18 g1 g2 g5 g8 g11 g14)

set_option maxRecDepth 20000 in
theorem s_X7_takes_0 {M M' : AM} {v : Option AV} {x1 : Int32} {x2 : Int32} (hS : St M)
    (b1 : vp_in x2 3840)
    (k2 : ∀ (g1 : (mI M 31 x2.toNatClampNeg) = 1 ∨ (mI M 31 x2.toNatClampNeg) = 2 ∨ (mI M 31 x2.toNatClampNeg) = 10 ∨ (mI M 31 x2.toNatClampNeg) = 13), some (aI 1) = v ∧ M = M')
    (k3 : ∀ (g1 : ¬ ((mI M 31 x2.toNatClampNeg) = 1 ∨ (mI M 31 x2.toNatClampNeg) = 2 ∨ (mI M 31 x2.toNatClampNeg) = 10 ∨ (mI M 31 x2.toNatClampNeg) = 13)) (g2 : (mI M 31 x2.toNatClampNeg) = 3 ∨ (mI M 31 x2.toNatClampNeg) = 4 ∨ (mI M 31 x2.toNatClampNeg) = 5 ∨ (mI M 31 x2.toNatClampNeg) = 6 ∨ (mI M 31 x2.toNatClampNeg) = 7 ∨ (mI M 31 x2.toNatClampNeg) = 8), some (aI 2) = v ∧ M = M')
    (k4 : ∀ (g1 : ¬ ((mI M 31 x2.toNatClampNeg) = 1 ∨ (mI M 31 x2.toNatClampNeg) = 2 ∨ (mI M 31 x2.toNatClampNeg) = 10 ∨ (mI M 31 x2.toNatClampNeg) = 13)) (g2 : ¬ ((mI M 31 x2.toNatClampNeg) = 3 ∨ (mI M 31 x2.toNatClampNeg) = 4 ∨ (mI M 31 x2.toNatClampNeg) = 5 ∨ (mI M 31 x2.toNatClampNeg) = 6 ∨ (mI M 31 x2.toNatClampNeg) = 7 ∨ (mI M 31 x2.toNatClampNeg) = 8)) (g3 : (mI M 31 x2.toNatClampNeg) = 11), some (aI (((mJ M 32 x2.toNatClampNeg : Int64).toInt32) + 1)) = v ∧ M = M')
    (b5 : ∀ (g1 : ¬ ((mI M 31 x2.toNatClampNeg) = 1 ∨ (mI M 31 x2.toNatClampNeg) = 2 ∨ (mI M 31 x2.toNatClampNeg) = 10 ∨ (mI M 31 x2.toNatClampNeg) = 13)) (g2 : ¬ ((mI M 31 x2.toNatClampNeg) = 3 ∨ (mI M 31 x2.toNatClampNeg) = 4 ∨ (mI M 31 x2.toNatClampNeg) = 5 ∨ (mI M 31 x2.toNatClampNeg) = 6 ∨ (mI M 31 x2.toNatClampNeg) = 7 ∨ (mI M 31 x2.toNatClampNeg) = 8)) (g3 : ¬ ((mI M 31 x2.toNatClampNeg) = 11)) (g4 : (mI M 31 x2.toNatClampNeg) = 16), vp_in ((mJ M 32 x2.toNatClampNeg : Int64).toInt32) 32)
    (k6 : ∀ (g1 : ¬ ((mI M 31 x2.toNatClampNeg) = 1 ∨ (mI M 31 x2.toNatClampNeg) = 2 ∨ (mI M 31 x2.toNatClampNeg) = 10 ∨ (mI M 31 x2.toNatClampNeg) = 13)) (g2 : ¬ ((mI M 31 x2.toNatClampNeg) = 3 ∨ (mI M 31 x2.toNatClampNeg) = 4 ∨ (mI M 31 x2.toNatClampNeg) = 5 ∨ (mI M 31 x2.toNatClampNeg) = 6 ∨ (mI M 31 x2.toNatClampNeg) = 7 ∨ (mI M 31 x2.toNatClampNeg) = 8)) (g3 : ¬ ((mI M 31 x2.toNatClampNeg) = 11)) (g4 : (mI M 31 x2.toNatClampNeg) = 16), some (aI (mI M 27 ((mJ M 32 x2.toNatClampNeg : Int64).toInt32).toNatClampNeg)) = v ∧ M = M')
    (b7 : ∀ (g1 : ¬ ((mI M 31 x2.toNatClampNeg) = 1 ∨ (mI M 31 x2.toNatClampNeg) = 2 ∨ (mI M 31 x2.toNatClampNeg) = 10 ∨ (mI M 31 x2.toNatClampNeg) = 13)) (g2 : ¬ ((mI M 31 x2.toNatClampNeg) = 3 ∨ (mI M 31 x2.toNatClampNeg) = 4 ∨ (mI M 31 x2.toNatClampNeg) = 5 ∨ (mI M 31 x2.toNatClampNeg) = 6 ∨ (mI M 31 x2.toNatClampNeg) = 7 ∨ (mI M 31 x2.toNatClampNeg) = 8)) (g3 : ¬ ((mI M 31 x2.toNatClampNeg) = 11)) (g4 : ¬ ((mI M 31 x2.toNatClampNeg) = 16)) (g5 : (mI M 31 x2.toNatClampNeg) = 17), vp_in x1 32)
    (k8 : ∀ (g1 : ¬ ((mI M 31 x2.toNatClampNeg) = 1 ∨ (mI M 31 x2.toNatClampNeg) = 2 ∨ (mI M 31 x2.toNatClampNeg) = 10 ∨ (mI M 31 x2.toNatClampNeg) = 13)) (g2 : ¬ ((mI M 31 x2.toNatClampNeg) = 3 ∨ (mI M 31 x2.toNatClampNeg) = 4 ∨ (mI M 31 x2.toNatClampNeg) = 5 ∨ (mI M 31 x2.toNatClampNeg) = 6 ∨ (mI M 31 x2.toNatClampNeg) = 7 ∨ (mI M 31 x2.toNatClampNeg) = 8)) (g3 : ¬ ((mI M 31 x2.toNatClampNeg) = 11)) (g4 : ¬ ((mI M 31 x2.toNatClampNeg) = 16)) (g5 : (mI M 31 x2.toNatClampNeg) = 17), some (aI (mI M 28 x1.toNatClampNeg)) = v ∧ M = M')
    (k9 : ∀ (g1 : ¬ ((mI M 31 x2.toNatClampNeg) = 1 ∨ (mI M 31 x2.toNatClampNeg) = 2 ∨ (mI M 31 x2.toNatClampNeg) = 10 ∨ (mI M 31 x2.toNatClampNeg) = 13)) (g2 : ¬ ((mI M 31 x2.toNatClampNeg) = 3 ∨ (mI M 31 x2.toNatClampNeg) = 4 ∨ (mI M 31 x2.toNatClampNeg) = 5 ∨ (mI M 31 x2.toNatClampNeg) = 6 ∨ (mI M 31 x2.toNatClampNeg) = 7 ∨ (mI M 31 x2.toNatClampNeg) = 8)) (g3 : ¬ ((mI M 31 x2.toNatClampNeg) = 11)) (g4 : ¬ ((mI M 31 x2.toNatClampNeg) = 16)) (g5 : ¬ ((mI M 31 x2.toNatClampNeg) = 17)), some (aI 0) = v ∧ M = M') :
    Ev K_X7_takes [aR (some 26), aI x1, aI x2] M v M' := by
  refine ⟨Nat.le_of_ble_eq_true rfl, ?_⟩
  show E K_X7_takes 0 [some (aR (some 26)), some (aI x1), some (aI x2)] [] M v M'
  refine e_aload_n dX7_takes_0 rfl ?_
  refine e_get ff_7_5 hS.l26 w840 dX7_takes_1 (w := aR (some 31)) hS.f26_5 ?_
  refine e_iload_n dX7_takes_4 rfl ?_
  refine e_iald hS.l31 (hS.b31 b1) dX7_takes_5 ?_
  refine e_tsw (d := 122) (tg := [88, 88, 90, 90, 90, 90, 90, 90, 122, 88, 92, 122, 88, 122, 122, 102, 115]) dX7_takes_6 rfl rfl rfl ?_
  by_cases g1 : (mI M 31 x2.toNatClampNeg) = 1 ∨ (mI M 31 x2.toNatClampNeg) = 2 ∨ (mI M 31 x2.toNatClampNeg) = 10 ∨ (mI M 31 x2.toNatClampNeg) = 13
  · have e9 : tsw 1 [88, 88, 90, 90, 90, 90, 90, 90, 122, 88, 92, 122, 88, 122, 122, 102, 115] 122 (mI M 31 x2.toNatClampNeg) = 88 := by (rcases g1 with h9 | h9 | h9 | h9); all_goals (rw [h9]; rfl)
    rw [e9]
    refine e_iconst (u := 1) dX7_takes_88 (by decide) ?_
    exact e_iret rfl dX7_takes_89 (k2 g1)
  by_cases g2 : (mI M 31 x2.toNatClampNeg) = 3 ∨ (mI M 31 x2.toNatClampNeg) = 4 ∨ (mI M 31 x2.toNatClampNeg) = 5 ∨ (mI M 31 x2.toNatClampNeg) = 6 ∨ (mI M 31 x2.toNatClampNeg) = 7 ∨ (mI M 31 x2.toNatClampNeg) = 8
  · have e9 : tsw 1 [88, 88, 90, 90, 90, 90, 90, 90, 122, 88, 92, 122, 88, 122, 122, 102, 115] 122 (mI M 31 x2.toNatClampNeg) = 90 := by (rcases g2 with h9 | h9 | h9 | h9 | h9 | h9); all_goals (rw [h9]; rfl)
    rw [e9]
    refine e_iconst (u := 2) dX7_takes_90 (by decide) ?_
    exact e_iret rfl dX7_takes_91 (k3 g1 g2)
  by_cases g3 : (mI M 31 x2.toNatClampNeg) = 11
  · have e9 : tsw 1 [88, 88, 90, 90, 90, 90, 90, 90, 122, 88, 92, 122, 88, 122, 122, 102, 115] 122 (mI M 31 x2.toNatClampNeg) = 92 := by rw [g3]; rfl
    rw [e9]
    refine e_aload_n dX7_takes_92 rfl ?_
    refine e_get ff_7_6 hS.l26 w841 dX7_takes_93 (w := aR (some 32)) hS.f26_6 ?_
    refine e_iload_n dX7_takes_96 rfl ?_
    refine e_lald hS.l32 (hS.b32 b1) dX7_takes_97 ?_
    refine e_l2i dX7_takes_98 ?_
    refine e_iconst (u := 1) dX7_takes_99 (by decide) ?_
    refine e_iadd dX7_takes_100 ?_
    exact e_iret rfl dX7_takes_101 (k4 g1 g2 g3)
  by_cases g4 : (mI M 31 x2.toNatClampNeg) = 16
  · have e9 : tsw 1 [88, 88, 90, 90, 90, 90, 90, 90, 122, 88, 92, 122, 88, 122, 122, 102, 115] 122 (mI M 31 x2.toNatClampNeg) = 102 := by rw [g4]; rfl
    rw [e9]
    refine e_aload_n dX7_takes_102 rfl ?_
    refine e_get ff_7_0 hS.l26 w835 dX7_takes_103 (w := aR (some 27)) hS.f26_0 ?_
    refine e_aload_n dX7_takes_106 rfl ?_
    refine e_get ff_7_6 hS.l26 w841 dX7_takes_107 (w := aR (some 32)) hS.f26_6 ?_
    refine e_iload_n dX7_takes_110 rfl ?_
    refine e_lald hS.l32 (hS.b32 b1) dX7_takes_111 ?_
    refine e_l2i dX7_takes_112 ?_
    refine e_iald hS.l27 (hS.b27 (b5 g1 g2 g3 g4)) dX7_takes_113 ?_
    exact e_iret rfl dX7_takes_114 (k6 g1 g2 g3 g4)
  by_cases g5 : (mI M 31 x2.toNatClampNeg) = 17
  · have e9 : tsw 1 [88, 88, 90, 90, 90, 90, 90, 90, 122, 88, 92, 122, 88, 122, 122, 102, 115] 122 (mI M 31 x2.toNatClampNeg) = 115 := by rw [g5]; rfl
    rw [e9]
    refine e_aload_n dX7_takes_115 rfl ?_
    refine e_get ff_7_1 hS.l26 w836 dX7_takes_116 (w := aR (some 28)) hS.f26_1 ?_
    refine e_iload_n dX7_takes_119 rfl ?_
    refine e_iald hS.l28 (hS.b28 (b7 g1 g2 g3 g4 g5)) dX7_takes_120 ?_
    exact e_iret rfl dX7_takes_121 (k8 g1 g2 g3 g4 g5)
  have e9 : tsw 1 [88, 88, 90, 90, 90, 90, 90, 90, 122, 88, 92, 122, 88, 122, 122, 102, 115] 122 (mI M 31 x2.toNatClampNeg) = 122 := tsw_out [1, 2, 10, 13, 3, 4, 5, 6, 7, 8, 11, 16, 17] (by decide) (by
      simp only [List.mem_cons, List.not_mem_nil, or_false, forall_eq_or_imp, forall_eq]
      simp only [not_or] at g1 g2 g3 g4 g5
      exact ⟨g1.1, g1.2.1, g1.2.2.1, g1.2.2.2, g2.1, g2.2.1, g2.2.2.1, g2.2.2.2.1, g2.2.2.2.2.1, g2.2.2.2.2.2, g3, g4, g5⟩)
  rw [e9]
  refine e_iconst (u := 0) dX7_takes_122 (by decide) ?_
  exact e_iret rfl dX7_takes_123 (k9 g1 g2 g3 g4 g5)

set_option maxRecDepth 20000 in
theorem s_X7_grows_0 {M M' : AM} {v : Option AV} {x1 : Int32} {x2 : Int32} (hS : St M)
    (b1 : vp_in x2 3840)
    (k2 : ∀ (g1 : (mI M 31 x2.toNatClampNeg) = 0 ∨ (mI M 31 x2.toNatClampNeg) = 2 ∨ (mI M 31 x2.toNatClampNeg) = 9 ∨ (mI M 31 x2.toNatClampNeg) = 11), some (aI 1) = v ∧ M = M')
    (k3 : ∀ (g1 : ¬ ((mI M 31 x2.toNatClampNeg) = 0 ∨ (mI M 31 x2.toNatClampNeg) = 2 ∨ (mI M 31 x2.toNatClampNeg) = 9 ∨ (mI M 31 x2.toNatClampNeg) = 11)) (g2 : (mI M 31 x2.toNatClampNeg) = 1 ∨ (mI M 31 x2.toNatClampNeg) = 4 ∨ (mI M 31 x2.toNatClampNeg) = 5 ∨ (mI M 31 x2.toNatClampNeg) = 6 ∨ (mI M 31 x2.toNatClampNeg) = 7 ∨ (mI M 31 x2.toNatClampNeg) = 8 ∨ (mI M 31 x2.toNatClampNeg) = 10 ∨ (mI M 31 x2.toNatClampNeg) = 13), some (aI (-1)) = v ∧ M = M')
    (b4 : ∀ (g1 : ¬ ((mI M 31 x2.toNatClampNeg) = 0 ∨ (mI M 31 x2.toNatClampNeg) = 2 ∨ (mI M 31 x2.toNatClampNeg) = 9 ∨ (mI M 31 x2.toNatClampNeg) = 11)) (g2 : ¬ ((mI M 31 x2.toNatClampNeg) = 1 ∨ (mI M 31 x2.toNatClampNeg) = 4 ∨ (mI M 31 x2.toNatClampNeg) = 5 ∨ (mI M 31 x2.toNatClampNeg) = 6 ∨ (mI M 31 x2.toNatClampNeg) = 7 ∨ (mI M 31 x2.toNatClampNeg) = 8 ∨ (mI M 31 x2.toNatClampNeg) = 10 ∨ (mI M 31 x2.toNatClampNeg) = 13)) (g3 : (mI M 31 x2.toNatClampNeg) = 16), vp_in ((mJ M 32 x2.toNatClampNeg : Int64).toInt32) 32)
    (k5 : ∀ (g1 : ¬ ((mI M 31 x2.toNatClampNeg) = 0 ∨ (mI M 31 x2.toNatClampNeg) = 2 ∨ (mI M 31 x2.toNatClampNeg) = 9 ∨ (mI M 31 x2.toNatClampNeg) = 11)) (g2 : ¬ ((mI M 31 x2.toNatClampNeg) = 1 ∨ (mI M 31 x2.toNatClampNeg) = 4 ∨ (mI M 31 x2.toNatClampNeg) = 5 ∨ (mI M 31 x2.toNatClampNeg) = 6 ∨ (mI M 31 x2.toNatClampNeg) = 7 ∨ (mI M 31 x2.toNatClampNeg) = 8 ∨ (mI M 31 x2.toNatClampNeg) = 10 ∨ (mI M 31 x2.toNatClampNeg) = 13)) (g3 : (mI M 31 x2.toNatClampNeg) = 16), some (aI ((mI M 28 ((mJ M 32 x2.toNatClampNeg : Int64).toInt32).toNatClampNeg) - (mI M 27 ((mJ M 32 x2.toNatClampNeg : Int64).toInt32).toNatClampNeg))) = v ∧ M = M')
    (b6 : ∀ (g1 : ¬ ((mI M 31 x2.toNatClampNeg) = 0 ∨ (mI M 31 x2.toNatClampNeg) = 2 ∨ (mI M 31 x2.toNatClampNeg) = 9 ∨ (mI M 31 x2.toNatClampNeg) = 11)) (g2 : ¬ ((mI M 31 x2.toNatClampNeg) = 1 ∨ (mI M 31 x2.toNatClampNeg) = 4 ∨ (mI M 31 x2.toNatClampNeg) = 5 ∨ (mI M 31 x2.toNatClampNeg) = 6 ∨ (mI M 31 x2.toNatClampNeg) = 7 ∨ (mI M 31 x2.toNatClampNeg) = 8 ∨ (mI M 31 x2.toNatClampNeg) = 10 ∨ (mI M 31 x2.toNatClampNeg) = 13)) (g3 : ¬ ((mI M 31 x2.toNatClampNeg) = 16)) (g4 : (mI M 31 x2.toNatClampNeg) = 17), vp_in x1 32)
    (k7 : ∀ (g1 : ¬ ((mI M 31 x2.toNatClampNeg) = 0 ∨ (mI M 31 x2.toNatClampNeg) = 2 ∨ (mI M 31 x2.toNatClampNeg) = 9 ∨ (mI M 31 x2.toNatClampNeg) = 11)) (g2 : ¬ ((mI M 31 x2.toNatClampNeg) = 1 ∨ (mI M 31 x2.toNatClampNeg) = 4 ∨ (mI M 31 x2.toNatClampNeg) = 5 ∨ (mI M 31 x2.toNatClampNeg) = 6 ∨ (mI M 31 x2.toNatClampNeg) = 7 ∨ (mI M 31 x2.toNatClampNeg) = 8 ∨ (mI M 31 x2.toNatClampNeg) = 10 ∨ (mI M 31 x2.toNatClampNeg) = 13)) (g3 : ¬ ((mI M 31 x2.toNatClampNeg) = 16)) (g4 : (mI M 31 x2.toNatClampNeg) = 17), some (aI (-(mI M 28 x1.toNatClampNeg))) = v ∧ M = M')
    (k8 : ∀ (g1 : ¬ ((mI M 31 x2.toNatClampNeg) = 0 ∨ (mI M 31 x2.toNatClampNeg) = 2 ∨ (mI M 31 x2.toNatClampNeg) = 9 ∨ (mI M 31 x2.toNatClampNeg) = 11)) (g2 : ¬ ((mI M 31 x2.toNatClampNeg) = 1 ∨ (mI M 31 x2.toNatClampNeg) = 4 ∨ (mI M 31 x2.toNatClampNeg) = 5 ∨ (mI M 31 x2.toNatClampNeg) = 6 ∨ (mI M 31 x2.toNatClampNeg) = 7 ∨ (mI M 31 x2.toNatClampNeg) = 8 ∨ (mI M 31 x2.toNatClampNeg) = 10 ∨ (mI M 31 x2.toNatClampNeg) = 13)) (g3 : ¬ ((mI M 31 x2.toNatClampNeg) = 16)) (g4 : ¬ ((mI M 31 x2.toNatClampNeg) = 17)), some (aI 0) = v ∧ M = M') :
    Ev K_X7_grows [aR (some 26), aI x1, aI x2] M v M' := by
  refine ⟨Nat.le_of_ble_eq_true rfl, ?_⟩
  show E K_X7_grows 0 [some (aR (some 26)), some (aI x1), some (aI x2)] [] M v M'
  refine e_aload_n dX7_grows_0 rfl ?_
  refine e_get ff_7_5 hS.l26 w840 dX7_grows_1 (w := aR (some 31)) hS.f26_5 ?_
  refine e_iload_n dX7_grows_4 rfl ?_
  refine e_iald hS.l31 (hS.b31 b1) dX7_grows_5 ?_
  refine e_tsw (d := 130) (tg := [92, 94, 92, 130, 94, 94, 94, 94, 94, 92, 94, 92, 130, 94, 130, 130, 96, 122]) dX7_grows_6 rfl rfl rfl ?_
  by_cases g1 : (mI M 31 x2.toNatClampNeg) = 0 ∨ (mI M 31 x2.toNatClampNeg) = 2 ∨ (mI M 31 x2.toNatClampNeg) = 9 ∨ (mI M 31 x2.toNatClampNeg) = 11
  · have e9 : tsw 0 [92, 94, 92, 130, 94, 94, 94, 94, 94, 92, 94, 92, 130, 94, 130, 130, 96, 122] 130 (mI M 31 x2.toNatClampNeg) = 92 := by (rcases g1 with h9 | h9 | h9 | h9); all_goals (rw [h9]; rfl)
    rw [e9]
    refine e_iconst (u := 1) dX7_grows_92 (by decide) ?_
    exact e_iret rfl dX7_grows_93 (k2 g1)
  by_cases g2 : (mI M 31 x2.toNatClampNeg) = 1 ∨ (mI M 31 x2.toNatClampNeg) = 4 ∨ (mI M 31 x2.toNatClampNeg) = 5 ∨ (mI M 31 x2.toNatClampNeg) = 6 ∨ (mI M 31 x2.toNatClampNeg) = 7 ∨ (mI M 31 x2.toNatClampNeg) = 8 ∨ (mI M 31 x2.toNatClampNeg) = 10 ∨ (mI M 31 x2.toNatClampNeg) = 13
  · have e9 : tsw 0 [92, 94, 92, 130, 94, 94, 94, 94, 94, 92, 94, 92, 130, 94, 130, 130, 96, 122] 130 (mI M 31 x2.toNatClampNeg) = 94 := by (rcases g2 with h9 | h9 | h9 | h9 | h9 | h9 | h9 | h9); all_goals (rw [h9]; rfl)
    rw [e9]
    refine e_iconst (u := (-1)) dX7_grows_94 (by decide) ?_
    exact e_iret rfl dX7_grows_95 (k3 g1 g2)
  by_cases g3 : (mI M 31 x2.toNatClampNeg) = 16
  · have e9 : tsw 0 [92, 94, 92, 130, 94, 94, 94, 94, 94, 92, 94, 92, 130, 94, 130, 130, 96, 122] 130 (mI M 31 x2.toNatClampNeg) = 96 := by rw [g3]; rfl
    rw [e9]
    refine e_aload_n dX7_grows_96 rfl ?_
    refine e_get ff_7_1 hS.l26 w836 dX7_grows_97 (w := aR (some 28)) hS.f26_1 ?_
    refine e_aload_n dX7_grows_100 rfl ?_
    refine e_get ff_7_6 hS.l26 w841 dX7_grows_101 (w := aR (some 32)) hS.f26_6 ?_
    refine e_iload_n dX7_grows_104 rfl ?_
    refine e_lald hS.l32 (hS.b32 b1) dX7_grows_105 ?_
    refine e_l2i dX7_grows_106 ?_
    refine e_iald hS.l28 (hS.b28 (b4 g1 g2 g3)) dX7_grows_107 ?_
    refine e_aload_n dX7_grows_108 rfl ?_
    refine e_get ff_7_0 hS.l26 w835 dX7_grows_109 (w := aR (some 27)) hS.f26_0 ?_
    refine e_aload_n dX7_grows_112 rfl ?_
    refine e_get ff_7_6 hS.l26 w841 dX7_grows_113 (w := aR (some 32)) hS.f26_6 ?_
    refine e_iload_n dX7_grows_116 rfl ?_
    refine e_lald hS.l32 (hS.b32 b1) dX7_grows_117 ?_
    refine e_l2i dX7_grows_118 ?_
    refine e_iald hS.l27 (hS.b27 (b4 g1 g2 g3)) dX7_grows_119 ?_
    refine e_isub dX7_grows_120 ?_
    exact e_iret rfl dX7_grows_121 (k5 g1 g2 g3)
  by_cases g4 : (mI M 31 x2.toNatClampNeg) = 17
  · have e9 : tsw 0 [92, 94, 92, 130, 94, 94, 94, 94, 94, 92, 94, 92, 130, 94, 130, 130, 96, 122] 130 (mI M 31 x2.toNatClampNeg) = 122 := by rw [g4]; rfl
    rw [e9]
    refine e_aload_n dX7_grows_122 rfl ?_
    refine e_get ff_7_1 hS.l26 w836 dX7_grows_123 (w := aR (some 28)) hS.f26_1 ?_
    refine e_iload_n dX7_grows_126 rfl ?_
    refine e_iald hS.l28 (hS.b28 (b6 g1 g2 g3 g4)) dX7_grows_127 ?_
    refine e_ineg dX7_grows_128 ?_
    exact e_iret rfl dX7_grows_129 (k7 g1 g2 g3 g4)
  have e9 : tsw 0 [92, 94, 92, 130, 94, 94, 94, 94, 94, 92, 94, 92, 130, 94, 130, 130, 96, 122] 130 (mI M 31 x2.toNatClampNeg) = 130 := tsw_out [0, 2, 9, 11, 1, 4, 5, 6, 7, 8, 10, 13, 16, 17] (by decide) (by
      simp only [List.mem_cons, List.not_mem_nil, or_false, forall_eq_or_imp, forall_eq]
      simp only [not_or] at g1 g2 g3 g4
      exact ⟨g1.1, g1.2.1, g1.2.2.1, g1.2.2.2, g2.1, g2.2.1, g2.2.2.1, g2.2.2.2.1, g2.2.2.2.2.1, g2.2.2.2.2.2.1, g2.2.2.2.2.2.2.1, g2.2.2.2.2.2.2.2, g3, g4⟩)
  rw [e9]
  refine e_iconst (u := 0) dX7_grows_130 (by decide) ?_
  exact e_iret rfl dX7_grows_131 (k8 g1 g2 g3 g4)

set_option maxRecDepth 20000 in
theorem s_X7_isOther_0 {M M' : AM} {v : Option AV} {x1 : Int32} {x2 : Int32} {x3 : Int32} (hS : St M)
    (b1 : vp_in x1 32)
    (k2 : ∀ (g1 : (mI M 30 x1.toNatClampNeg) ≤ x2), some (aI 0) = v ∧ M = M')
    (b3 : ∀ (g1 : ¬ ((mI M 30 x1.toNatClampNeg) ≤ x2)), vp_in ((120 * x1) + x2) 3840)
    (k4 : ∀ (g1 : ¬ ((mI M 30 x1.toNatClampNeg) ≤ x2)) (g2 : (mI M 34 ((120 * x1) + x2).toNatClampNeg) < 0), some (aI 0) = v ∧ M = M')
    (k5 : ∀ (g1 : ¬ ((mI M 30 x1.toNatClampNeg) ≤ x2)) (g2 : ¬ ((mI M 34 ((120 * x1) + x2).toNatClampNeg) < 0)) (g3 : (mI M 34 ((120 * x1) + x2).toNatClampNeg) = x3), some (aI 0) = v ∧ M = M')
    (k6 : ∀ (g1 : ¬ ((mI M 30 x1.toNatClampNeg) ≤ x2)) (g2 : ¬ ((mI M 34 ((120 * x1) + x2).toNatClampNeg) < 0)) (g3 : ¬ (mI M 34 ((120 * x1) + x2).toNatClampNeg) = x3), some (aI 1) = v ∧ M = M') :
    Ev K_X7_isOther [aR (some 26), aI x1, aI x2, aI x3] M v M' := by
  refine ⟨Nat.le_of_ble_eq_true rfl, ?_⟩
  show E K_X7_isOther 0 [some (aR (some 26)), some (aI x1), some (aI x2), some (aI x3)] [] M v M'
  refine e_iload_n dX7_isOther_0 rfl ?_
  refine e_aload_n dX7_isOther_1 rfl ?_
  refine e_get ff_7_3 hS.l26 w838 dX7_isOther_2 (w := aR (some 30)) hS.f26_3 ?_
  refine e_iload_n dX7_isOther_5 rfl ?_
  refine e_iald hS.l30 (hS.b30 b1) dX7_isOther_6 ?_
  refine e_icmp_ge (tgt := 43) dX7_isOther_7 rfl (fun g1 => ?_) (fun g1 => ?_)
  ·
    refine e_iconst (u := 0) dX7_isOther_43 (by decide) ?_
    exact e_zret rfl (Or.inl rfl) dX7_isOther_44 (k2 g1)
  ·
    refine e_aload_n dX7_isOther_10 rfl ?_
    refine e_get ff_7_10 hS.l26 w845 dX7_isOther_11 (w := aR (some 34)) hS.f26_10 ?_
    refine e_bipush (u := 120) dX7_isOther_14 (by decide) ?_
    refine e_iload_n dX7_isOther_16 rfl ?_
    refine e_imul dX7_isOther_17 ?_
    refine e_iload_n dX7_isOther_18 rfl ?_
    refine e_iadd dX7_isOther_19 ?_
    refine e_iald hS.l34 (hS.b34 (b3 g1)) dX7_isOther_20 ?_
    refine e_if_lt (tgt := 43) dX7_isOther_21 rfl (fun g2 => ?_) (fun g2 => ?_)
    ·
      refine e_iconst (u := 0) dX7_isOther_43 (by decide) ?_
      exact e_zret rfl (Or.inl rfl) dX7_isOther_44 (k4 g1 g2)
    ·
      refine e_aload_n dX7_isOther_24 rfl ?_
      refine e_get ff_7_10 hS.l26 w845 dX7_isOther_25 (w := aR (some 34)) hS.f26_10 ?_
      refine e_bipush (u := 120) dX7_isOther_28 (by decide) ?_
      refine e_iload_n dX7_isOther_30 rfl ?_
      refine e_imul dX7_isOther_31 ?_
      refine e_iload_n dX7_isOther_32 rfl ?_
      refine e_iadd dX7_isOther_33 ?_
      refine e_iald hS.l34 (hS.b34 (b3 g1)) dX7_isOther_34 ?_
      refine e_iload_n dX7_isOther_35 rfl ?_
      refine e_icmp_eq (tgt := 43) dX7_isOther_36 rfl (fun g3 => ?_) (fun g3 => ?_)
      ·
        refine e_iconst (u := 0) dX7_isOther_43 (by decide) ?_
        exact e_zret rfl (Or.inl rfl) dX7_isOther_44 (k5 g1 g2 g3)
      ·
        refine e_iconst (u := 1) dX7_isOther_39 (by decide) ?_
        refine e_goto (tgt := 44) dX7_isOther_40 rfl ?_
        exact e_zret rfl (Or.inr rfl) dX7_isOther_44 (k6 g1 g2 g3)

set_option maxRecDepth 20000 in
theorem s_X7_tell_0 {M M' : AM} {v : Option AV} {x1 : Int32} {x2 : Int32} {x3 : Int32} (hS : St M)
    (b1 : vp_in x1 32)
    (k2 : ∀ (g1 : (mI M 30 x1.toNatClampNeg) ≤ x2), none = v ∧ M = M')
    (b3 : ∀ (g1 : ¬ ((mI M 30 x1.toNatClampNeg) ≤ x2)), vp_in ((120 * x1) + x2) 3840)
    (k4 : ∀ (g1 : ¬ ((mI M 30 x1.toNatClampNeg) ≤ x2)), none = v ∧ (wrI M 34 ((120 * x1) + x2).toNatClampNeg x3) = M') :
    Ev K_X7_tell [aR (some 26), aI x1, aI x2, aI x3] M v M' := by
  refine ⟨Nat.le_of_ble_eq_true rfl, ?_⟩
  show E K_X7_tell 0 [some (aR (some 26)), some (aI x1), some (aI x2), some (aI x3)] [] M v M'
  refine e_iload_n dX7_tell_0 rfl ?_
  refine e_aload_n dX7_tell_1 rfl ?_
  refine e_get ff_7_3 hS.l26 w838 dX7_tell_2 (w := aR (some 30)) hS.f26_3 ?_
  refine e_iload_n dX7_tell_5 rfl ?_
  refine e_iald hS.l30 (hS.b30 b1) dX7_tell_6 ?_
  refine e_icmp_ge (tgt := 22) dX7_tell_7 rfl (fun g1 => ?_) (fun g1 => ?_)
  ·
    exact e_vret rfl dX7_tell_22 (k2 g1)
  ·
    refine e_aload_n dX7_tell_10 rfl ?_
    refine e_get ff_7_10 hS.l26 w845 dX7_tell_11 (w := aR (some 34)) hS.f26_10 ?_
    refine e_bipush (u := 120) dX7_tell_14 (by decide) ?_
    refine e_iload_n dX7_tell_16 rfl ?_
    refine e_imul dX7_tell_17 ?_
    refine e_iload_n dX7_tell_18 rfl ?_
    refine e_iadd dX7_tell_19 ?_
    refine e_iload_n dX7_tell_20 rfl ?_
    refine e_iast hS.l34 (hS.b34 (b3 g1)) dX7_tell_21 ?_
    exact e_vret rfl dX7_tell_22 (k4 g1)

set_option maxRecDepth 20000 in
theorem s_X7_onward_0 {M M' : AM} {v : Option AV} {x1 : Int32} {x2 : Int32} (hS : St M)
    (b1 : vp_in ((120 * x1) + x2) 3840)
    (k2 : ∀ (g1 : (mI M 31 ((120 * x1) + x2).toNatClampNeg) = 12), some (aI (-1)) = v ∧ M = M')
    (k3 : ∀ (g1 : ¬ (mI M 31 ((120 * x1) + x2).toNatClampNeg) = 12) (g2 : ¬ (mI M 31 ((120 * x1) + x2).toNatClampNeg) = 17) (g3 : ¬ (mI M 31 ((120 * x1) + x2).toNatClampNeg) = 14), some (aI (x2 + 1)) = v ∧ M = M')
    (k4 : ∀ (g1 : ¬ (mI M 31 ((120 * x1) + x2).toNatClampNeg) = 12) (g2 : ¬ (mI M 31 ((120 * x1) + x2).toNatClampNeg) = 17) (g3 : (mI M 31 ((120 * x1) + x2).toNatClampNeg) = 14) (g4 : ¬ ((mJ M 32 ((120 * x1) + x2).toNatClampNeg) = 0)), some (aI (x2 + 1)) = v ∧ M = M')
    (k5 : ∀ (g1 : ¬ (mI M 31 ((120 * x1) + x2).toNatClampNeg) = 12) (g2 : ¬ (mI M 31 ((120 * x1) + x2).toNatClampNeg) = 17) (g3 : (mI M 31 ((120 * x1) + x2).toNatClampNeg) = 14) (g4 : (mJ M 32 ((120 * x1) + x2).toNatClampNeg) = 0), some (aI ((mI M 36 ((120 * x1) + x2).toNatClampNeg) + 1)) = v ∧ M = M')
    (k6 : ∀ (g1 : ¬ (mI M 31 ((120 * x1) + x2).toNatClampNeg) = 12) (g2 : (mI M 31 ((120 * x1) + x2).toNatClampNeg) = 17), some (aI (-1)) = v ∧ M = M') :
    Ev K_X7_onward [aR (some 26), aI x1, aI x2] M v M' := by
  refine ⟨Nat.le_of_ble_eq_true rfl, ?_⟩
  show E K_X7_onward 0 [some (aR (some 26)), some (aI x1), some (aI x2), none] [] M v M'
  refine e_bipush (u := 120) dX7_onward_0 (by decide) ?_
  refine e_iload_n dX7_onward_2 rfl ?_
  refine e_imul dX7_onward_3 ?_
  refine e_iload_n dX7_onward_4 rfl ?_
  refine e_iadd dX7_onward_5 ?_
  refine e_istore_n dX7_onward_6 (Nat.le_of_ble_eq_true rfl) ?_
  show E K_X7_onward 7 [some (aR (some 26)), some (aI x1), some (aI x2), some (aI ((120 * x1) + x2))] [] M v M'
  refine e_aload_n dX7_onward_7 rfl ?_
  refine e_get ff_7_5 hS.l26 w840 dX7_onward_8 (w := aR (some 31)) hS.f26_5 ?_
  refine e_iload_n dX7_onward_11 rfl ?_
  refine e_iald hS.l31 (hS.b31 b1) dX7_onward_12 ?_
  refine e_bipush (u := 12) dX7_onward_13 (by decide) ?_
  refine e_icmp_eq (tgt := 29) dX7_onward_15 rfl (fun g1 => ?_) (fun g1 => ?_)
  ·
    refine e_iconst (u := (-1)) dX7_onward_29 (by decide) ?_
    refine e_goto (tgt := 69) dX7_onward_30 rfl ?_
    exact e_iret rfl dX7_onward_69 (k2 g1)
  ·
    refine e_aload_n dX7_onward_18 rfl ?_
    refine e_get ff_7_5 hS.l26 w840 dX7_onward_19 (w := aR (some 31)) hS.f26_5 ?_
    refine e_iload_n dX7_onward_22 rfl ?_
    refine e_iald hS.l31 (hS.b31 b1) dX7_onward_23 ?_
    refine e_bipush (u := 17) dX7_onward_24 (by decide) ?_
    refine e_icmp_ne (tgt := 33) dX7_onward_26 rfl (fun g2 => ?_) (fun g2 => ?_)
    ·
      refine e_aload_n dX7_onward_33 rfl ?_
      refine e_get ff_7_5 hS.l26 w840 dX7_onward_34 (w := aR (some 31)) hS.f26_5 ?_
      refine e_iload_n dX7_onward_37 rfl ?_
      refine e_iald hS.l31 (hS.b31 b1) dX7_onward_38 ?_
      refine e_bipush (u := 14) dX7_onward_39 (by decide) ?_
      refine e_icmp_ne (tgt := 66) dX7_onward_41 rfl (fun g3 => ?_) (fun g3 => ?_)
      ·
        refine e_iload_n dX7_onward_66 rfl ?_
        refine e_iconst (u := 1) dX7_onward_67 (by decide) ?_
        refine e_iadd dX7_onward_68 ?_
        exact e_iret rfl dX7_onward_69 (k3 g1 g2 g3)
      ·
        refine e_aload_n dX7_onward_44 rfl ?_
        refine e_get ff_7_6 hS.l26 w841 dX7_onward_45 (w := aR (some 32)) hS.f26_6 ?_
        refine e_iload_n dX7_onward_48 rfl ?_
        refine e_lald hS.l32 (hS.b32 b1) dX7_onward_49 ?_
        refine e_lconst (u := 0) dX7_onward_50 (by decide) ?_
        refine e_lcmp_ne (tgt := 66) dX7_onward_51 dX7_onward_52 rfl (fun g4 => ?_) (fun g4 => ?_)
        ·
          refine e_iload_n dX7_onward_66 rfl ?_
          refine e_iconst (u := 1) dX7_onward_67 (by decide) ?_
          refine e_iadd dX7_onward_68 ?_
          exact e_iret rfl dX7_onward_69 (k4 g1 g2 g3 g4)
        ·
          refine e_aload_n dX7_onward_55 rfl ?_
          refine e_get ff_7_12 hS.l26 w847 dX7_onward_56 (w := aR (some 36)) hS.f26_12 ?_
          refine e_iload_n dX7_onward_59 rfl ?_
          refine e_iald hS.l36 (hS.b36 b1) dX7_onward_60 ?_
          refine e_iconst (u := 1) dX7_onward_61 (by decide) ?_
          refine e_iadd dX7_onward_62 ?_
          refine e_goto (tgt := 69) dX7_onward_63 rfl ?_
          exact e_iret rfl dX7_onward_69 (k5 g1 g2 g3 g4)
    ·
      refine e_iconst (u := (-1)) dX7_onward_29 (by decide) ?_
      refine e_goto (tgt := 69) dX7_onward_30 rfl ?_
      exact e_iret rfl dX7_onward_69 (k6 g1 g2)

set_option maxRecDepth 20000 in
theorem s_X7_examine_0 {M M' : AM} {v : Option AV} {x1 : Int32} {M1 : AM} {M2 : AM} (hS : St M)
    (b1 : vp_in x1 32)
    (c2 : Ev K_X7_forms [aR (some 26), aI x1] (wrI (wrI M 38 x1.toNatClampNeg 0) 39 x1.toNatClampNeg (-1)) (none) M1)
    (k3 : ∀ (g1 : ¬ (mI M1 38 x1.toNatClampNeg) = 0), none = v ∧ M1 = M')
    (c4 : ∀ (g1 : (mI M1 38 x1.toNatClampNeg) = 0), Ev K_X7_heights [aR (some 26), aI x1] M1 (none) M2)
    (k5 : ∀ (g1 : (mI M1 38 x1.toNatClampNeg) = 0), none = v ∧ M2 = M') :
    Ev K_X7_examine [aR (some 26), aI x1] M v M' := by
  refine ⟨Nat.le_of_ble_eq_true rfl, ?_⟩
  show E K_X7_examine 0 [some (aR (some 26)), some (aI x1)] [] M v M'
  refine e_aload_n dX7_examine_0 rfl ?_
  refine e_get ff_7_14 hS.l26 w849 dX7_examine_1 (w := aR (some 38)) hS.f26_14 ?_
  refine e_iload_n dX7_examine_4 rfl ?_
  refine e_iconst (u := 0) dX7_examine_5 (by decide) ?_
  refine e_iast hS.l38 (hS.b38 b1) dX7_examine_6 ?_
  refine e_aload_n dX7_examine_7 rfl ?_
  refine e_get ff_7_15 hS.l26 w850 dX7_examine_8 (w := aR (some 39)) hS.f26_15 ?_
  refine e_iload_n dX7_examine_11 rfl ?_
  refine e_iconst (u := (-1)) dX7_examine_12 (by decide) ?_
  refine e_iast hS.l39 (hS.b39 b1) dX7_examine_13 ?_
  refine e_aload_n dX7_examine_14 rfl ?_
  refine e_iload_n dX7_examine_15 rfl ?_
  refine e_callV (As := [aI x1]) (rest := []) vk_X7_forms hS.l26 w993 ⟨by decide, by decide⟩ (Nat.le_of_ble_eq_true rfl) dX7_examine_16 c2 ?_
  show E K_X7_examine 19 [some (aR (some 26)), some (aI x1)] [] M1 v M'
  have hS_1 : St M1 := St.sh (M := (wrI (wrI M 38 x1.toNatClampNeg 0) 39 x1.toNatClampNeg (-1))) c2.2.1 hS
  refine e_aload_n dX7_examine_19 rfl ?_
  refine e_get ff_7_14 hS_1.l26 w849 dX7_examine_20 (w := aR (some 38)) hS_1.f26_14 ?_
  refine e_iload_n dX7_examine_23 rfl ?_
  refine e_iald hS_1.l38 (hS_1.b38 b1) dX7_examine_24 ?_
  refine e_if_ne (tgt := 33) dX7_examine_25 rfl (fun g1 => ?_) (fun g1 => ?_)
  ·
    exact e_vret rfl dX7_examine_33 (k3 g1)
  ·
    refine e_aload_n dX7_examine_28 rfl ?_
    refine e_iload_n dX7_examine_29 rfl ?_
    refine e_callV (As := [aI x1]) (rest := []) vk_X7_heights hS_1.l26 w1011 ⟨by decide, by decide⟩ (Nat.le_of_ble_eq_true rfl) dX7_examine_30 (c4 g1) ?_
    show E K_X7_examine 33 [some (aR (some 26)), some (aI x1)] [] M2 v M'
    have hS_2 : St M2 := St.sh (M := M1) (c4 g1).2.1 hS_1
    exact e_vret rfl dX7_examine_33 (k5 g1)

set_option maxRecDepth 20000 in
theorem s_X7_examineAll_0 {M M' : AM} {v : Option AV} (hS : St M)
    (k1 : E K_X7_examineAll 2 [some (aR (some 26)), some (aI 0)] [] M v M') :
    Ev K_X7_examineAll [aR (some 26)] M v M' := by
  refine ⟨Nat.le_of_ble_eq_true rfl, ?_⟩
  show E K_X7_examineAll 0 [some (aR (some 26)), none] [] M v M'
  refine e_iconst (u := 0) dX7_examineAll_0 (by decide) ?_
  refine e_istore_n dX7_examineAll_1 (Nat.le_of_ble_eq_true rfl) ?_
  show E K_X7_examineAll 2 [some (aR (some 26)), some (aI 0)] [] M v M'
  exact k1

set_option maxRecDepth 20000 in
theorem s_X7_examineAll_2 {M M' : AM} {v : Option AV} {x1 : Int32} {M1 : AM} (hS : St M)
    (k1 : ∀ (g1 : (mI M 26 4) ≤ x1), none = v ∧ M = M')
    (c2 : ∀ (g1 : ¬ ((mI M 26 4) ≤ x1)), Ev K_X7_examine [aR (some 26), aI x1] M (none) M1)
    (k3 : ∀ (g1 : ¬ ((mI M 26 4) ≤ x1)), E K_X7_examineAll 2 [some (aR (some 26)), some (aI (x1 + 1))] [] M1 v M') :
    E K_X7_examineAll 2 [some (aR (some 26)), some (aI x1)] [] M v M' := by
  refine e_iload_n dX7_examineAll_2 rfl ?_
  refine e_aload_n dX7_examineAll_3 rfl ?_
  refine e_get ff_7_4 hS.l26 w839 dX7_examineAll_4 (w := aI (mI M 26 4)) rfl ?_
  refine e_icmp_ge (tgt := 21) dX7_examineAll_7 rfl (fun g1 => ?_) (fun g1 => ?_)
  ·
    exact e_vret rfl dX7_examineAll_21 (k1 g1)
  ·
    refine e_aload_n dX7_examineAll_10 rfl ?_
    refine e_iload_n dX7_examineAll_11 rfl ?_
    refine e_callV (As := [aI x1]) (rest := []) vk_X7_examine hS.l26 w989 ⟨by decide, by decide⟩ (Nat.le_of_ble_eq_true rfl) dX7_examineAll_12 (c2 g1) ?_
    show E K_X7_examineAll 15 [some (aR (some 26)), some (aI x1)] [] M1 v M'
    have hS_1 : St M1 := St.sh (M := M) (c2 g1).2.1 hS
    refine e_iinc dX7_examineAll_15 rfl ?_
    show E K_X7_examineAll 18 [some (aR (some 26)), some (aI (x1 + 1))] [] M1 v M'
    refine e_goto (tgt := 2) dX7_examineAll_18 rfl ?_
    exact (k3 g1)

set_option maxRecDepth 20000 in
theorem s_X7_check_0 {M M' : AM} {v : Option AV} {x1 : Int32} {M1 : AM} {x101 : Int32} {M2 : AM} (hS : St M)
    (c1 : Ev K_X7_noMethod [aR (some 26), aI x1] M (some (aI x101)) M1)
    (c2 : ∀ (g2 : x101 = 0), Ev K_X7_examine [aR (some 26), aI x1] (wrI M1 26 9 0) (none) M2)
    (b3 : ∀ (g2 : x101 = 0), vp_in x1 32)
    (k4 : ∀ (g2 : x101 = 0), some (aI (mI M2 38 x1.toNatClampNeg)) = v ∧ (wrI M2 26 8 (mI M2 39 x1.toNatClampNeg)) = M')
    (k5 : ∀ (g2 : ¬ x101 = 0), some (aI 0) = v ∧ (wrI M1 26 9 1) = M') :
    Ev K_X7_check [aR (some 26), aI x1] M v M' := by
  refine ⟨Nat.le_of_ble_eq_true rfl, ?_⟩
  show E K_X7_check 0 [some (aR (some 26)), some (aI x1)] [] M v M'
  refine e_aload_n dX7_check_0 rfl ?_
  refine e_aload_n dX7_check_1 rfl ?_
  refine e_iload_n dX7_check_2 rfl ?_
  refine e_callV (As := [aI x1]) (rest := [aR (some 26)]) vk_X7_noMethod hS.l26 w972 ⟨by decide, by decide⟩ (Nat.le_of_ble_eq_true rfl) dX7_check_3 c1 ?_
  show E K_X7_check 6 [some (aR (some 26)), some (aI x1)] [aI x101, aR (some 26)] M1 v M'
  have hS_1 : St M1 := St.sh (M := M) c1.2.1 hS
  refine e_if_eq (tgt := 13) dX7_check_6 rfl (fun g2 => ?_) (fun g2 => ?_)
  ·
    refine e_iconst (u := 0) dX7_check_13 (by decide) ?_
    refine e_putI ff_7_9 rfl hS_1.l26 w844 dX7_check_14 ?_
    refine e_aload_n dX7_check_17 rfl ?_
    refine e_get ff_7_9 hS_1.l26 w844 dX7_check_18 (w := aI 0) rfl ?_
    refine e_if_le (tgt := 26) dX7_check_21 rfl (fun z => ?_) (fun z => ?_)
    ·
      refine e_aload_n dX7_check_26 rfl ?_
      refine e_iload_n dX7_check_27 rfl ?_
      refine e_callV (As := [aI x1]) (rest := []) vk_X7_examine hS_1.l26 w989 ⟨by decide, by decide⟩ (Nat.le_of_ble_eq_true rfl) dX7_check_28 (c2 g2) ?_
      show E K_X7_check 31 [some (aR (some 26)), some (aI x1)] [] M2 v M'
      have hS_2 : St M2 := St.sh (M := (wrI M1 26 9 0)) (c2 g2).2.1 hS_1
      refine e_aload_n dX7_check_31 rfl ?_
      refine e_aload_n dX7_check_32 rfl ?_
      refine e_get ff_7_15 hS_2.l26 w850 dX7_check_33 (w := aR (some 39)) hS_2.f26_15 ?_
      refine e_iload_n dX7_check_36 rfl ?_
      refine e_iald hS_2.l39 (hS_2.b39 (b3 g2)) dX7_check_37 ?_
      refine e_putI ff_7_8 rfl hS_2.l26 w843 dX7_check_38 ?_
      refine e_aload_n dX7_check_41 rfl ?_
      refine e_get ff_7_14 hS_2.l26 w849 dX7_check_42 (w := aR (some 38)) hS_2.f26_14 ?_
      refine e_iload_n dX7_check_45 rfl ?_
      refine e_iald hS_2.l38 (hS_2.b38 (b3 g2)) dX7_check_46 ?_
      show E K_X7_check 47 [some (aR (some 26)), some (aI x1)] [aI (mI M2 38 x1.toNatClampNeg)] (wrI M2 26 8 (mI M2 39 x1.toNatClampNeg)) v M'
      exact e_iret rfl dX7_check_47 (k4 g2)
    · exact absurd z (by decide)
  ·
    refine e_iconst (u := 1) dX7_check_9 (by decide) ?_
    refine e_goto (tgt := 14) dX7_check_10 rfl ?_
    refine e_putI ff_7_9 rfl hS_1.l26 w844 dX7_check_14 ?_
    refine e_aload_n dX7_check_17 rfl ?_
    refine e_get ff_7_9 hS_1.l26 w844 dX7_check_18 (w := aI 1) rfl ?_
    refine e_if_le (tgt := 26) dX7_check_21 rfl (fun z => ?_) (fun z => ?_)
    · exact absurd z (by decide)
    ·
      refine e_iconst (u := 0) dX7_check_24 (by decide) ?_
      exact e_iret rfl dX7_check_25 (k5 g2)

set_option maxRecDepth 20000 in
theorem s_X7_place_0 {M M' : AM} {v : Option AV} (hS : St M)
    (k1 : some (aI (mI M 26 8)) = v ∧ (wrI M 26 9 0) = M') :
    Ev K_X7_place [aR (some 26)] M v M' := by
  refine ⟨Nat.le_of_ble_eq_true rfl, ?_⟩
  show E K_X7_place 0 [some (aR (some 26))] [] M v M'
  refine e_aload_n dX7_place_0 rfl ?_
  refine e_iconst (u := 0) dX7_place_1 (by decide) ?_
  refine e_putI ff_7_9 rfl hS.l26 w844 dX7_place_2 ?_
  refine e_aload_n dX7_place_5 rfl ?_
  refine e_get ff_7_8 hS.l26 w843 dX7_place_6 (w := aI (mI M 26 8)) rfl ?_
  exact e_iret rfl dX7_place_9 k1

set_option maxRecDepth 20000 in
theorem s_X7_height_0 {M M' : AM} {v : Option AV} {x1 : Int32} {x2 : Int32} {M1 : AM} {x101 : Int32} {M2 : AM} (hS : St M)
    (c1 : Ev K_X7_noMethod [aR (some 26), aI x1] M (some (aI x101)) M1)
    (k2 : ∀ (g2 : ¬ x101 = 0), some (aI 0) = v ∧ (wrI M1 26 9 1) = M')
    (k3 : ∀ (g2 : x101 = 0) (g3 : x2 < 0), some (aI 0) = v ∧ (wrI M1 26 9 1) = M')
    (b4 : ∀ (g2 : x101 = 0) (g3 : ¬ (x2 < 0)), vp_in x1 32)
    (c5 : ∀ (g2 : x101 = 0) (g3 : ¬ (x2 < 0)) (g4 : x2 < (mI M1 30 x1.toNatClampNeg)), Ev K_X7_examine [aR (some 26), aI x1] (wrI M1 26 9 0) (none) M2)
    (b6 : ∀ (g2 : x101 = 0) (g3 : ¬ (x2 < 0)) (g4 : x2 < (mI M1 30 x1.toNatClampNeg)) (g5 : (mI M2 38 x1.toNatClampNeg) ≤ 0), vp_in ((120 * x1) + x2) 3840)
    (k7 : ∀ (g2 : x101 = 0) (g3 : ¬ (x2 < 0)) (g4 : x2 < (mI M1 30 x1.toNatClampNeg)) (g5 : (mI M2 38 x1.toNatClampNeg) ≤ 0), some (aI (mI M2 34 ((120 * x1) + x2).toNatClampNeg)) = v ∧ M2 = M')
    (k8 : ∀ (g2 : x101 = 0) (g3 : ¬ (x2 < 0)) (g4 : x2 < (mI M1 30 x1.toNatClampNeg)) (g5 : ¬ ((mI M2 38 x1.toNatClampNeg) ≤ 0)), some (aI (-1)) = v ∧ M2 = M')
    (k9 : ∀ (g2 : x101 = 0) (g3 : ¬ (x2 < 0)) (g4 : ¬ (x2 < (mI M1 30 x1.toNatClampNeg))), some (aI 0) = v ∧ (wrI M1 26 9 1) = M') :
    Ev K_X7_height [aR (some 26), aI x1, aI x2] M v M' := by
  refine ⟨Nat.le_of_ble_eq_true rfl, ?_⟩
  show E K_X7_height 0 [some (aR (some 26)), some (aI x1), some (aI x2)] [] M v M'
  refine e_aload_n dX7_height_0 rfl ?_
  refine e_aload_n dX7_height_1 rfl ?_
  refine e_iload_n dX7_height_2 rfl ?_
  refine e_callV (As := [aI x1]) (rest := [aR (some 26)]) vk_X7_noMethod hS.l26 w972 ⟨by decide, by decide⟩ (Nat.le_of_ble_eq_true rfl) dX7_height_3 c1 ?_
  show E K_X7_height 6 [some (aR (some 26)), some (aI x1), some (aI x2)] [aI x101, aR (some 26)] M1 v M'
  have hS_1 : St M1 := St.sh (M := M) c1.2.1 hS
  refine e_if_ne (tgt := 23) dX7_height_6 rfl (fun g2 => ?_) (fun g2 => ?_)
  ·
    refine e_iconst (u := 1) dX7_height_23 (by decide) ?_
    refine e_goto (tgt := 28) dX7_height_24 rfl ?_
    refine e_putI ff_7_9 rfl hS_1.l26 w844 dX7_height_28 ?_
    refine e_aload_n dX7_height_31 rfl ?_
    refine e_get ff_7_9 hS_1.l26 w844 dX7_height_32 (w := aI 1) rfl ?_
    refine e_if_le (tgt := 40) dX7_height_35 rfl (fun z => ?_) (fun z => ?_)
    · exact absurd z (by decide)
    ·
      refine e_iconst (u := 0) dX7_height_38 (by decide) ?_
      exact e_iret rfl dX7_height_39 (k2 g2)
  ·
    refine e_iload_n dX7_height_9 rfl ?_
    refine e_if_lt (tgt := 23) dX7_height_10 rfl (fun g3 => ?_) (fun g3 => ?_)
    ·
      refine e_iconst (u := 1) dX7_height_23 (by decide) ?_
      refine e_goto (tgt := 28) dX7_height_24 rfl ?_
      refine e_putI ff_7_9 rfl hS_1.l26 w844 dX7_height_28 ?_
      refine e_aload_n dX7_height_31 rfl ?_
      refine e_get ff_7_9 hS_1.l26 w844 dX7_height_32 (w := aI 1) rfl ?_
      refine e_if_le (tgt := 40) dX7_height_35 rfl (fun z => ?_) (fun z => ?_)
      · exact absurd z (by decide)
      ·
        refine e_iconst (u := 0) dX7_height_38 (by decide) ?_
        exact e_iret rfl dX7_height_39 (k3 g2 g3)
    ·
      refine e_iload_n dX7_height_13 rfl ?_
      refine e_aload_n dX7_height_14 rfl ?_
      refine e_get ff_7_3 hS_1.l26 w838 dX7_height_15 (w := aR (some 30)) hS_1.f26_3 ?_
      refine e_iload_n dX7_height_18 rfl ?_
      refine e_iald hS_1.l30 (hS_1.b30 (b4 g2 g3)) dX7_height_19 ?_
      refine e_icmp_lt (tgt := 27) dX7_height_20 rfl (fun g4 => ?_) (fun g4 => ?_)
      ·
        refine e_iconst (u := 0) dX7_height_27 (by decide) ?_
        refine e_putI ff_7_9 rfl hS_1.l26 w844 dX7_height_28 ?_
        refine e_aload_n dX7_height_31 rfl ?_
        refine e_get ff_7_9 hS_1.l26 w844 dX7_height_32 (w := aI 0) rfl ?_
        refine e_if_le (tgt := 40) dX7_height_35 rfl (fun z => ?_) (fun z => ?_)
        ·
          refine e_aload_n dX7_height_40 rfl ?_
          refine e_iload_n dX7_height_41 rfl ?_
          refine e_callV (As := [aI x1]) (rest := []) vk_X7_examine hS_1.l26 w989 ⟨by decide, by decide⟩ (Nat.le_of_ble_eq_true rfl) dX7_height_42 (c5 g2 g3 g4) ?_
          show E K_X7_height 45 [some (aR (some 26)), some (aI x1), some (aI x2)] [] M2 v M'
          have hS_2 : St M2 := St.sh (M := (wrI M1 26 9 0)) (c5 g2 g3 g4).2.1 hS_1
          refine e_aload_n dX7_height_45 rfl ?_
          refine e_get ff_7_14 hS_2.l26 w849 dX7_height_46 (w := aR (some 38)) hS_2.f26_14 ?_
          refine e_iload_n dX7_height_49 rfl ?_
          refine e_iald hS_2.l38 (hS_2.b38 (b4 g2 g3)) dX7_height_50 ?_
          refine e_if_le (tgt := 58) dX7_height_51 rfl (fun g5 => ?_) (fun g5 => ?_)
          ·
            refine e_aload_n dX7_height_58 rfl ?_
            refine e_get ff_7_10 hS_2.l26 w845 dX7_height_59 (w := aR (some 34)) hS_2.f26_10 ?_
            refine e_bipush (u := 120) dX7_height_62 (by decide) ?_
            refine e_iload_n dX7_height_64 rfl ?_
            refine e_imul dX7_height_65 ?_
            refine e_iload_n dX7_height_66 rfl ?_
            refine e_iadd dX7_height_67 ?_
            refine e_iald hS_2.l34 (hS_2.b34 (b6 g2 g3 g4 g5)) dX7_height_68 ?_
            exact e_iret rfl dX7_height_69 (k7 g2 g3 g4 g5)
          ·
            refine e_iconst (u := (-1)) dX7_height_54 (by decide) ?_
            refine e_goto (tgt := 69) dX7_height_55 rfl ?_
            exact e_iret rfl dX7_height_69 (k8 g2 g3 g4 g5)
        · exact absurd z (by decide)
      ·
        refine e_iconst (u := 1) dX7_height_23 (by decide) ?_
        refine e_goto (tgt := 28) dX7_height_24 rfl ?_
        refine e_putI ff_7_9 rfl hS_1.l26 w844 dX7_height_28 ?_
        refine e_aload_n dX7_height_31 rfl ?_
        refine e_get ff_7_9 hS_1.l26 w844 dX7_height_32 (w := aI 1) rfl ?_
        refine e_if_le (tgt := 40) dX7_height_35 rfl (fun z => ?_) (fun z => ?_)
        · exact absurd z (by decide)
        ·
          refine e_iconst (u := 0) dX7_height_38 (by decide) ?_
          exact e_iret rfl dX7_height_39 (k9 g2 g3 g4)

set_option maxRecDepth 20000 in
theorem s_X7_plus_0 {M M' : AM} {v : Option AV} {x0 : Int64} {x2 : Int64} (hS : St M)
    (k1 : ∀ (g1 : x0 = (-2)), some (aJ (-2)) = v ∧ M = M')
    (k2 : ∀ (g1 : ¬ (x0 = (-2))) (g2 : ¬ (x2 = (-2))) (g3 : ¬ ((x0 + x2) < 0)), some (aJ (x0 + x2)) = v ∧ M = M')
    (k3 : ∀ (g1 : ¬ (x0 = (-2))) (g2 : ¬ (x2 = (-2))) (g3 : (x0 + x2) < 0), some (aJ (-2)) = v ∧ M = M')
    (k4 : ∀ (g1 : ¬ (x0 = (-2))) (g2 : x2 = (-2)), some (aJ (-2)) = v ∧ M = M') :
    Ev K_X7_plus [aJ x0, aJ x2] M v M' := by
  refine ⟨Nat.le_of_ble_eq_true rfl, ?_⟩
  show E K_X7_plus 0 [some (aJ x0), none, some (aJ x2), none, none, none] [] M v M'
  refine e_lload_n dX7_plus_0 rfl ?_
  refine e_ldc2 dX7_plus_1 w1079 ?_
  refine e_lcmp_eq (tgt := 16) dX7_plus_4 dX7_plus_5 rfl (fun g1 => ?_) (fun g1 => ?_)
  ·
    refine e_ldc2 dX7_plus_16 w1079 ?_
    exact e_lret rfl dX7_plus_19 (k1 g1)
  ·
    refine e_lload_n dX7_plus_8 rfl ?_
    refine e_ldc2 dX7_plus_9 w1079 ?_
    refine e_lcmp_ne (tgt := 20) dX7_plus_12 dX7_plus_13 rfl (fun g2 => ?_) (fun g2 => ?_)
    ·
      refine e_lload_n dX7_plus_20 rfl ?_
      refine e_lload_n dX7_plus_21 rfl ?_
      refine e_ladd dX7_plus_22 ?_
      refine e_lstore dX7_plus_23 (Nat.le_of_ble_eq_true rfl) ?_
      show E K_X7_plus 25 [some (aJ x0), none, some (aJ x2), none, some (aJ (x0 + x2)), none] [] M v M'
      refine e_lload dX7_plus_25 rfl ?_
      refine e_lconst (u := 0) dX7_plus_27 (by decide) ?_
      refine e_lcmp_ge (tgt := 38) dX7_plus_28 dX7_plus_29 rfl (fun g3 => ?_) (fun g3 => ?_)
      ·
        refine e_lload dX7_plus_38 rfl ?_
        exact e_lret rfl dX7_plus_40 (k2 g1 g2 g3)
      ·
        refine e_ldc2 dX7_plus_32 w1079 ?_
        refine e_goto (tgt := 40) dX7_plus_35 rfl ?_
        exact e_lret rfl dX7_plus_40 (k3 g1 g2 g3)
    ·
      refine e_ldc2 dX7_plus_16 w1079 ?_
      exact e_lret rfl dX7_plus_19 (k4 g1 g2)

set_option maxRecDepth 20000 in
theorem s_X7_times_0 {M M' : AM} {v : Option AV} {x0 : Int64} {x2 : Int64} (hS : St M)
    (k1 : ∀ (g1 : x2 = 0), some (aJ 0) = v ∧ M = M')
    (k2 : ∀ (g1 : ¬ (x2 = 0)) (g2 : ¬ (x0 = 0)) (g3 : x0 = (-2)), some (aJ (-2)) = v ∧ M = M')
    (z3 : ∀ (g1 : ¬ (x2 = 0)) (g2 : ¬ (x0 = 0)) (g3 : ¬ (x0 = (-2))), ¬ x2 = 0)
    (k4 : ∀ (g1 : ¬ (x2 = 0)) (g2 : ¬ (x0 = 0)) (g3 : ¬ (x0 = (-2))) (g4 : ¬ ((9223372036854775807 / x2) < x0)), some (aJ (x0 * x2)) = v ∧ M = M')
    (k5 : ∀ (g1 : ¬ (x2 = 0)) (g2 : ¬ (x0 = 0)) (g3 : ¬ (x0 = (-2))) (g4 : (9223372036854775807 / x2) < x0), some (aJ (-2)) = v ∧ M = M')
    (k6 : ∀ (g1 : ¬ (x2 = 0)) (g2 : x0 = 0), some (aJ 0) = v ∧ M = M') :
    Ev K_X7_times [aJ x0, aJ x2] M v M' := by
  refine ⟨Nat.le_of_ble_eq_true rfl, ?_⟩
  show E K_X7_times 0 [some (aJ x0), none, some (aJ x2), none] [] M v M'
  refine e_lload_n dX7_times_0 rfl ?_
  refine e_lconst (u := 0) dX7_times_1 (by decide) ?_
  refine e_lcmp_eq (tgt := 12) dX7_times_2 dX7_times_3 rfl (fun g1 => ?_) (fun g1 => ?_)
  ·
    refine e_lconst (u := 0) dX7_times_12 (by decide) ?_
    exact e_lret rfl dX7_times_13 (k1 g1)
  ·
    refine e_lload_n dX7_times_6 rfl ?_
    refine e_lconst (u := 0) dX7_times_7 (by decide) ?_
    refine e_lcmp_ne (tgt := 14) dX7_times_8 dX7_times_9 rfl (fun g2 => ?_) (fun g2 => ?_)
    ·
      refine e_lload_n dX7_times_14 rfl ?_
      refine e_ldc2 dX7_times_15 w1079 ?_
      refine e_lcmp_eq (tgt := 32) dX7_times_18 dX7_times_19 rfl (fun g3 => ?_) (fun g3 => ?_)
      ·
        refine e_ldc2 dX7_times_32 w1079 ?_
        refine e_goto (tgt := 41) dX7_times_35 rfl ?_
        exact e_lret rfl dX7_times_41 (k2 g1 g2 g3)
      ·
        refine e_lload_n dX7_times_22 rfl ?_
        refine e_ldc2 dX7_times_23 w1086 ?_
        refine e_lload_n dX7_times_26 rfl ?_
        refine e_ldiv dX7_times_27 (z3 g1 g2 g3) ?_
        refine e_lcmp_le (tgt := 38) dX7_times_28 dX7_times_29 rfl (fun g4 => ?_) (fun g4 => ?_)
        ·
          refine e_lload_n dX7_times_38 rfl ?_
          refine e_lload_n dX7_times_39 rfl ?_
          refine e_lmul dX7_times_40 ?_
          exact e_lret rfl dX7_times_41 (k4 g1 g2 g3 g4)
        ·
          refine e_ldc2 dX7_times_32 w1079 ?_
          refine e_goto (tgt := 41) dX7_times_35 rfl ?_
          exact e_lret rfl dX7_times_41 (k5 g1 g2 g3 g4)
    ·
      refine e_lconst (u := 0) dX7_times_12 (by decide) ?_
      exact e_lret rfl dX7_times_13 (k6 g1 g2)

set_option maxRecDepth 20000 in
theorem s_X7_greater_0 {M M' : AM} {v : Option AV} {x0 : Int64} {x2 : Int64} (hS : St M)
    (k1 : ∀ (g1 : x0 = (-2)), some (aJ (-2)) = v ∧ M = M')
    (k2 : ∀ (g1 : ¬ (x0 = (-2))) (g2 : ¬ (x2 = (-2))) (g3 : ¬ (x2 < x0)), some (aJ x2) = v ∧ M = M')
    (k3 : ∀ (g1 : ¬ (x0 = (-2))) (g2 : ¬ (x2 = (-2))) (g3 : x2 < x0), some (aJ x0) = v ∧ M = M')
    (k4 : ∀ (g1 : ¬ (x0 = (-2))) (g2 : x2 = (-2)), some (aJ (-2)) = v ∧ M = M') :
    Ev K_X7_greater [aJ x0, aJ x2] M v M' := by
  refine ⟨Nat.le_of_ble_eq_true rfl, ?_⟩
  show E K_X7_greater 0 [some (aJ x0), none, some (aJ x2), none] [] M v M'
  refine e_lload_n dX7_greater_0 rfl ?_
  refine e_ldc2 dX7_greater_1 w1079 ?_
  refine e_lcmp_eq (tgt := 16) dX7_greater_4 dX7_greater_5 rfl (fun g1 => ?_) (fun g1 => ?_)
  ·
    refine e_ldc2 dX7_greater_16 w1079 ?_
    refine e_goto (tgt := 33) dX7_greater_19 rfl ?_
    exact e_lret rfl dX7_greater_33 (k1 g1)
  ·
    refine e_lload_n dX7_greater_8 rfl ?_
    refine e_ldc2 dX7_greater_9 w1079 ?_
    refine e_lcmp_ne (tgt := 22) dX7_greater_12 dX7_greater_13 rfl (fun g2 => ?_) (fun g2 => ?_)
    ·
      refine e_lload_n dX7_greater_22 rfl ?_
      refine e_lload_n dX7_greater_23 rfl ?_
      refine e_lcmp_le (tgt := 32) dX7_greater_24 dX7_greater_25 rfl (fun g3 => ?_) (fun g3 => ?_)
      ·
        refine e_lload_n dX7_greater_32 rfl ?_
        exact e_lret rfl dX7_greater_33 (k2 g1 g2 g3)
      ·
        refine e_lload_n dX7_greater_28 rfl ?_
        refine e_goto (tgt := 33) dX7_greater_29 rfl ?_
        exact e_lret rfl dX7_greater_33 (k3 g1 g2 g3)
    ·
      refine e_ldc2 dX7_greater_16 w1079 ?_
      refine e_goto (tgt := 33) dX7_greater_19 rfl ?_
      exact e_lret rfl dX7_greater_33 (k4 g1 g2)

set_option maxRecDepth 20000 in
theorem s_X7_reach_0 {M M' : AM} {v : Option AV} {x1 : Int32} {x2 : Int64} {M1 : AM} {x101 : Int64} (hS : St M)
    (b1 : vp_in x1 121)
    (c2 : Ev K_X7_greater [aJ (mJ M 46 x1.toNatClampNeg), aJ x2] M (some (aJ x101)) M1)
    (k3 : none = v ∧ (wrJ M1 46 x1.toNatClampNeg x101) = M') :
    Ev K_X7_reach [aR (some 26), aI x1, aJ x2] M v M' := by
  refine ⟨Nat.le_of_ble_eq_true rfl, ?_⟩
  show E K_X7_reach 0 [some (aR (some 26)), some (aI x1), some (aJ x2), none] [] M v M'
  refine e_aload_n dX7_reach_0 rfl ?_
  refine e_get ff_7_22 hS.l26 w857 dX7_reach_1 (w := aR (some 46)) hS.f26_22 ?_
  refine e_iload_n dX7_reach_4 rfl ?_
  refine e_aload_n dX7_reach_5 rfl ?_
  refine e_get ff_7_22 hS.l26 w857 dX7_reach_6 (w := aR (some 46)) hS.f26_22 ?_
  refine e_iload_n dX7_reach_9 rfl ?_
  refine e_lald hS.l46 (hS.b46 b1) dX7_reach_10 ?_
  refine e_lload_n dX7_reach_11 rfl ?_
  refine e_callS (As := [aJ (mJ M 46 x1.toNatClampNeg), aJ x2]) (rest := [aI x1, aR (some 46)]) sk_X7_greater w1080 ⟨by decide, by decide⟩ (Nat.le_of_ble_eq_true rfl) dX7_reach_12 c2 ?_
  show E K_X7_reach 15 [some (aR (some 26)), some (aI x1), some (aJ x2), none] [aJ x101, aI x1, aR (some 46)] M1 v M'
  have hS_1 : St M1 := St.sh (M := M) c2.2.1 hS
  refine e_last hS_1.l46 (hS_1.b46 b1) dX7_reach_15 ?_
  exact e_vret rfl dX7_reach_16 k3

set_option maxRecDepth 20000 in
theorem s_X7_boundOne_0 {M M' : AM} {v : Option AV} {x1 : Int32} (hS : St M)
    (b1 : vp_in x1 32)
    (k2 : E K_X7_boundOne 9 [some (aR (some 26)), some (aI x1), some (aI ((mI M 30 x1.toNatClampNeg) - 1)), none, none, none, none, none, none, none] [] M v M') :
    Ev K_X7_boundOne [aR (some 26), aI x1] M v M' := by
  refine ⟨Nat.le_of_ble_eq_true rfl, ?_⟩
  show E K_X7_boundOne 0 [some (aR (some 26)), some (aI x1), none, none, none, none, none, none, none, none] [] M v M'
  refine e_aload_n dX7_boundOne_0 rfl ?_
  refine e_get ff_7_3 hS.l26 w838 dX7_boundOne_1 (w := aR (some 30)) hS.f26_3 ?_
  refine e_iload_n dX7_boundOne_4 rfl ?_
  refine e_iald hS.l30 (hS.b30 b1) dX7_boundOne_5 ?_
  refine e_iconst (u := 1) dX7_boundOne_6 (by decide) ?_
  refine e_isub dX7_boundOne_7 ?_
  refine e_istore_n dX7_boundOne_8 (Nat.le_of_ble_eq_true rfl) ?_
  show E K_X7_boundOne 9 [some (aR (some 26)), some (aI x1), some (aI ((mI M 30 x1.toNatClampNeg) - 1)), none, none, none, none, none, none, none] [] M v M'
  exact k2

set_option maxRecDepth 20000 in
theorem s_X7_boundOne_9 {M M' : AM} {v : Option AV} {x1 : Int32} {x2 : Int32} {M1 : AM} {x102 : Int64} {M2 : AM} {x104 : Int64} (hS : St M)
    (c1 : ∀ (g1 : x2 < 0), Ev K_X7_region [aR (some 26), aI x1, aI (-1)] M (some (aJ x102)) M1)
    (b2 : ∀ (g1 : x2 < 0), vp_in x1 32)
    (k3 : ∀ (g1 : x2 < 0), E K_X7_boundOne 59 [some (aR (some 26)), some (aI x1), some (aJ 0), none, some (aI 0), none, none, none, none, none] [] (wrJ M1 45 x1.toNatClampNeg x102) v M')
    (b4 : ∀ (g1 : ¬ (x2 < 0)), vp_in ((120 * x1) + x2) 3840)
    (k5 : ∀ (g1 : ¬ (x2 < 0)) (g3 : ¬ (mI M 31 ((120 * x1) + x2).toNatClampNeg) = 14), E K_X7_boundOne 9 [some (aR (some 26)), some (aI x1), some (aI (x2 + (-1))), none, none, none, none, none, none, none] [] M v M')
    (c6 : ∀ (g1 : ¬ (x2 < 0)) (g3 : (mI M 31 ((120 * x1) + x2).toNatClampNeg) = 14), Ev K_X7_region [aR (some 26), aI x1, aI x2] M (some (aJ x104)) M2)
    (k7 : ∀ (g1 : ¬ (x2 < 0)) (g3 : (mI M 31 ((120 * x1) + x2).toNatClampNeg) = 14), E K_X7_boundOne 9 [some (aR (some 26)), some (aI x1), some (aI (x2 + (-1))), some (aJ x104), none, none, none, none, none, none] [] M2 v M') :
    E K_X7_boundOne 9 [some (aR (some 26)), some (aI x1), some (aI x2), none, none, none, none, none, none, none] [] M v M' := by
  refine e_iload_n dX7_boundOne_9 rfl ?_
  refine e_if_lt (tgt := 42) dX7_boundOne_10 rfl (fun g1 => ?_) (fun g1 => ?_)
  ·
    refine e_aload_n dX7_boundOne_42 rfl ?_
    refine e_get ff_7_21 hS.l26 w856 dX7_boundOne_43 (w := aR (some 45)) hS.f26_21 ?_
    refine e_iload_n dX7_boundOne_46 rfl ?_
    refine e_aload_n dX7_boundOne_47 rfl ?_
    refine e_iload_n dX7_boundOne_48 rfl ?_
    refine e_iconst (u := (-1)) dX7_boundOne_49 (by decide) ?_
    refine e_callV (As := [aI x1, aI (-1)]) (rest := [aI x1, aR (some 45)]) vk_X7_region hS.l26 w1071 ⟨by decide, by decide⟩ (Nat.le_of_ble_eq_true rfl) dX7_boundOne_50 (c1 g1) ?_
    show E K_X7_boundOne 53 [some (aR (some 26)), some (aI x1), some (aI x2), none, none, none, none, none, none, none] [aJ x102, aI x1, aR (some 45)] M1 v M'
    have hS_1 : St M1 := St.sh (M := M) (c1 g1).2.1 hS
    refine e_last hS_1.l45 (hS_1.b45 (b2 g1)) dX7_boundOne_53 ?_
    refine e_lconst (u := 0) dX7_boundOne_54 (by decide) ?_
    refine e_lstore_n dX7_boundOne_55 (Nat.le_of_ble_eq_true rfl) ?_
    show E K_X7_boundOne 56 [some (aR (some 26)), some (aI x1), some (aJ 0), none, none, none, none, none, none, none] [] (wrJ M1 45 x1.toNatClampNeg x102) v M'
    refine e_iconst (u := 0) dX7_boundOne_56 (by decide) ?_
    refine e_istore dX7_boundOne_57 (Nat.le_of_ble_eq_true rfl) ?_
    show E K_X7_boundOne 59 [some (aR (some 26)), some (aI x1), some (aJ 0), none, some (aI 0), none, none, none, none, none] [] (wrJ M1 45 x1.toNatClampNeg x102) v M'
    exact (k3 g1)
  ·
    refine e_aload_n dX7_boundOne_13 rfl ?_
    refine e_get ff_7_5 hS.l26 w840 dX7_boundOne_14 (w := aR (some 31)) hS.f26_5 ?_
    refine e_bipush (u := 120) dX7_boundOne_17 (by decide) ?_
    refine e_iload_n dX7_boundOne_19 rfl ?_
    refine e_imul dX7_boundOne_20 ?_
    refine e_iload_n dX7_boundOne_21 rfl ?_
    refine e_iadd dX7_boundOne_22 ?_
    refine e_iald hS.l31 (hS.b31 (b4 g1)) dX7_boundOne_23 ?_
    refine e_bipush (u := 14) dX7_boundOne_24 (by decide) ?_
    refine e_icmp_ne (tgt := 36) dX7_boundOne_26 rfl (fun g3 => ?_) (fun g3 => ?_)
    ·
      refine e_iinc dX7_boundOne_36 rfl ?_
      show E K_X7_boundOne 39 [some (aR (some 26)), some (aI x1), some (aI (x2 + (-1))), none, none, none, none, none, none, none] [] M v M'
      refine e_goto (tgt := 9) dX7_boundOne_39 rfl ?_
      exact (k5 g1 g3)
    ·
      refine e_aload_n dX7_boundOne_29 rfl ?_
      refine e_iload_n dX7_boundOne_30 rfl ?_
      refine e_iload_n dX7_boundOne_31 rfl ?_
      refine e_callV (As := [aI x1, aI x2]) (rest := []) vk_X7_region hS.l26 w1071 ⟨by decide, by decide⟩ (Nat.le_of_ble_eq_true rfl) dX7_boundOne_32 (c6 g1 g3) ?_
      show E K_X7_boundOne 35 [some (aR (some 26)), some (aI x1), some (aI x2), none, none, none, none, none, none, none] [aJ x104] M2 v M'
      have hS_2 : St M2 := St.sh (M := M) (c6 g1 g3).2.1 hS
      refine e_lstore_n dX7_boundOne_35 (Nat.le_of_ble_eq_true rfl) ?_
      show E K_X7_boundOne 36 [some (aR (some 26)), some (aI x1), some (aI x2), some (aJ x104), none, none, none, none, none, none] [] M2 v M'
      refine e_iinc dX7_boundOne_36 rfl ?_
      show E K_X7_boundOne 39 [some (aR (some 26)), some (aI x1), some (aI (x2 + (-1))), some (aJ x104), none, none, none, none, none, none] [] M2 v M'
      refine e_goto (tgt := 9) dX7_boundOne_39 rfl ?_
      exact (k7 g1 g3)

set_option maxRecDepth 20000 in
theorem s_X7_boundOne_59 {M M' : AM} {v : Option AV} {x1 : Int32} {x2 : Int64} {x4 : Int32} {M1 : AM} {x103 : Int32} {M2 : AM} {x105 : Int64} {M3 : AM} {x107 : Int64} {M4 : AM} {x108 : Int64} {M5 : AM} {x109 : Int32} {M6 : AM} {x110 : Int64} {M7 : AM} {x112 : Int64} {M8 : AM} {x113 : Int64} (hS : St M)
    (b1 : vp_in x1 32)
    (k2 : ∀ (g1 : (mI M 30 x1.toNatClampNeg) ≤ x4), none = v ∧ (wrI (wrJ M 44 x1.toNatClampNeg x2) 43 x1.toNatClampNeg 1) = M')
    (b3 : ∀ (g1 : ¬ ((mI M 30 x1.toNatClampNeg) ≤ x4)), vp_in ((120 * x1) + x4) 3840)
    (k4 : ∀ (g1 : ¬ ((mI M 30 x1.toNatClampNeg) ≤ x4)) (g2 : (mI M 34 ((120 * x1) + x4).toNatClampNeg) < 0), E K_X7_boundOne 59 [some (aR (some 26)), some (aI x1), some (aJ x2), none, some (aI (x4 + 1)), some (aI ((120 * x1) + x4)), some (aI (mI M 34 ((120 * x1) + x4).toNatClampNeg)), none, none, none] [] M v M')
    (c5 : ∀ (g1 : ¬ ((mI M 30 x1.toNatClampNeg) ≤ x4)) (g2 : ¬ ((mI M 34 ((120 * x1) + x4).toNatClampNeg) < 0)), Ev K_X7_grows [aR (some 26), aI x1, aI ((120 * x1) + x4)] M (some (aI x103)) M1)
    (c6 : ∀ (g1 : ¬ ((mI M 30 x1.toNatClampNeg) ≤ x4)) (g2 : ¬ ((mI M 34 ((120 * x1) + x4).toNatClampNeg) < 0)) (g4 : x103 ≤ 0), Ev K_X7_greater [aJ x2, aJ (((mI M 29 x1.toNatClampNeg) + (mI M 34 ((120 * x1) + x4).toNatClampNeg) : Int32).toInt64)] M1 (some (aJ x105)) M2)
    (k7 : ∀ (g1 : ¬ ((mI M 30 x1.toNatClampNeg) ≤ x4)) (g2 : ¬ ((mI M 34 ((120 * x1) + x4).toNatClampNeg) < 0)) (g4 : x103 ≤ 0) (g6 : ¬ (mI M2 31 ((120 * x1) + x4).toNatClampNeg) = 16), E K_X7_boundOne 59 [some (aR (some 26)), some (aI x1), some (aJ x105), none, some (aI (x4 + 1)), some (aI ((120 * x1) + x4)), some (aI (mI M 34 ((120 * x1) + x4).toNatClampNeg)), some (aJ (((mI M 29 x1.toNatClampNeg) + (mI M 34 ((120 * x1) + x4).toNatClampNeg) : Int32).toInt64)), none, none] [] M2 v M')
    (b8 : ∀ (g1 : ¬ ((mI M 30 x1.toNatClampNeg) ≤ x4)) (g2 : ¬ ((mI M 34 ((120 * x1) + x4).toNatClampNeg) < 0)) (g4 : x103 ≤ 0) (g6 : (mI M2 31 ((120 * x1) + x4).toNatClampNeg) = 16), vp_in ((mJ M2 32 ((120 * x1) + x4).toNatClampNeg : Int64).toInt32) 32)
    (c9 : ∀ (g1 : ¬ ((mI M 30 x1.toNatClampNeg) ≤ x4)) (g2 : ¬ ((mI M 34 ((120 * x1) + x4).toNatClampNeg) < 0)) (g4 : x103 ≤ 0) (g6 : (mI M2 31 ((120 * x1) + x4).toNatClampNeg) = 16), Ev K_X7_plus [aJ (((((mI M2 29 x1.toNatClampNeg) + (mI M 34 ((120 * x1) + x4).toNatClampNeg)) - (mI M2 27 ((mJ M2 32 ((120 * x1) + x4).toNatClampNeg : Int64).toInt32).toNatClampNeg) : Int32).toInt64) + 2), aJ (mJ M2 44 ((mJ M2 32 ((120 * x1) + x4).toNatClampNeg : Int64).toInt32).toNatClampNeg)] M2 (some (aJ x107)) M3)
    (c10 : ∀ (g1 : ¬ ((mI M 30 x1.toNatClampNeg) ≤ x4)) (g2 : ¬ ((mI M 34 ((120 * x1) + x4).toNatClampNeg) < 0)) (g4 : x103 ≤ 0) (g6 : (mI M2 31 ((120 * x1) + x4).toNatClampNeg) = 16), Ev K_X7_greater [aJ x105, aJ x107] M3 (some (aJ x108)) M4)
    (k11 : ∀ (g1 : ¬ ((mI M 30 x1.toNatClampNeg) ≤ x4)) (g2 : ¬ ((mI M 34 ((120 * x1) + x4).toNatClampNeg) < 0)) (g4 : x103 ≤ 0) (g6 : (mI M2 31 ((120 * x1) + x4).toNatClampNeg) = 16), E K_X7_boundOne 59 [some (aR (some 26)), some (aI x1), some (aJ x108), none, some (aI (x4 + 1)), some (aI ((120 * x1) + x4)), some (aI (mI M 34 ((120 * x1) + x4).toNatClampNeg)), some (aJ (((mI M 29 x1.toNatClampNeg) + (mI M 34 ((120 * x1) + x4).toNatClampNeg) : Int32).toInt64)), none, some (aI ((mJ M2 32 ((120 * x1) + x4).toNatClampNeg : Int64).toInt32))] [] M4 v M')
    (c12 : ∀ (g1 : ¬ ((mI M 30 x1.toNatClampNeg) ≤ x4)) (g2 : ¬ ((mI M 34 ((120 * x1) + x4).toNatClampNeg) < 0)) (g4 : ¬ (x103 ≤ 0)), Ev K_X7_grows [aR (some 26), aI x1, aI ((120 * x1) + x4)] M1 (some (aI x109)) M5)
    (c13 : ∀ (g1 : ¬ ((mI M 30 x1.toNatClampNeg) ≤ x4)) (g2 : ¬ ((mI M 34 ((120 * x1) + x4).toNatClampNeg) < 0)) (g4 : ¬ (x103 ≤ 0)), Ev K_X7_greater [aJ x2, aJ (((mI M 29 x1.toNatClampNeg) + ((mI M 34 ((120 * x1) + x4).toNatClampNeg) + x109) : Int32).toInt64)] M5 (some (aJ x110)) M6)
    (k14 : ∀ (g1 : ¬ ((mI M 30 x1.toNatClampNeg) ≤ x4)) (g2 : ¬ ((mI M 34 ((120 * x1) + x4).toNatClampNeg) < 0)) (g4 : ¬ (x103 ≤ 0)) (g11 : ¬ (mI M6 31 ((120 * x1) + x4).toNatClampNeg) = 16), E K_X7_boundOne 59 [some (aR (some 26)), some (aI x1), some (aJ x110), none, some (aI (x4 + 1)), some (aI ((120 * x1) + x4)), some (aI (mI M 34 ((120 * x1) + x4).toNatClampNeg)), some (aJ (((mI M 29 x1.toNatClampNeg) + ((mI M 34 ((120 * x1) + x4).toNatClampNeg) + x109) : Int32).toInt64)), none, none] [] M6 v M')
    (b15 : ∀ (g1 : ¬ ((mI M 30 x1.toNatClampNeg) ≤ x4)) (g2 : ¬ ((mI M 34 ((120 * x1) + x4).toNatClampNeg) < 0)) (g4 : ¬ (x103 ≤ 0)) (g11 : (mI M6 31 ((120 * x1) + x4).toNatClampNeg) = 16), vp_in ((mJ M6 32 ((120 * x1) + x4).toNatClampNeg : Int64).toInt32) 32)
    (c16 : ∀ (g1 : ¬ ((mI M 30 x1.toNatClampNeg) ≤ x4)) (g2 : ¬ ((mI M 34 ((120 * x1) + x4).toNatClampNeg) < 0)) (g4 : ¬ (x103 ≤ 0)) (g11 : (mI M6 31 ((120 * x1) + x4).toNatClampNeg) = 16), Ev K_X7_plus [aJ (((((mI M6 29 x1.toNatClampNeg) + (mI M 34 ((120 * x1) + x4).toNatClampNeg)) - (mI M6 27 ((mJ M6 32 ((120 * x1) + x4).toNatClampNeg : Int64).toInt32).toNatClampNeg) : Int32).toInt64) + 2), aJ (mJ M6 44 ((mJ M6 32 ((120 * x1) + x4).toNatClampNeg : Int64).toInt32).toNatClampNeg)] M6 (some (aJ x112)) M7)
    (c17 : ∀ (g1 : ¬ ((mI M 30 x1.toNatClampNeg) ≤ x4)) (g2 : ¬ ((mI M 34 ((120 * x1) + x4).toNatClampNeg) < 0)) (g4 : ¬ (x103 ≤ 0)) (g11 : (mI M6 31 ((120 * x1) + x4).toNatClampNeg) = 16), Ev K_X7_greater [aJ x110, aJ x112] M7 (some (aJ x113)) M8)
    (k18 : ∀ (g1 : ¬ ((mI M 30 x1.toNatClampNeg) ≤ x4)) (g2 : ¬ ((mI M 34 ((120 * x1) + x4).toNatClampNeg) < 0)) (g4 : ¬ (x103 ≤ 0)) (g11 : (mI M6 31 ((120 * x1) + x4).toNatClampNeg) = 16), E K_X7_boundOne 59 [some (aR (some 26)), some (aI x1), some (aJ x113), none, some (aI (x4 + 1)), some (aI ((120 * x1) + x4)), some (aI (mI M 34 ((120 * x1) + x4).toNatClampNeg)), some (aJ (((mI M 29 x1.toNatClampNeg) + ((mI M 34 ((120 * x1) + x4).toNatClampNeg) + x109) : Int32).toInt64)), none, some (aI ((mJ M6 32 ((120 * x1) + x4).toNatClampNeg : Int64).toInt32))] [] M8 v M') :
    E K_X7_boundOne 59 [some (aR (some 26)), some (aI x1), some (aJ x2), none, some (aI x4), none, none, none, none, none] [] M v M' := by
  refine e_iload dX7_boundOne_59 rfl ?_
  refine e_aload_n dX7_boundOne_61 rfl ?_
  refine e_get ff_7_3 hS.l26 w838 dX7_boundOne_62 (w := aR (some 30)) hS.f26_3 ?_
  refine e_iload_n dX7_boundOne_65 rfl ?_
  refine e_iald hS.l30 (hS.b30 b1) dX7_boundOne_66 ?_
  refine e_icmp_ge (tgt := 200) dX7_boundOne_67 rfl (fun g1 => ?_) (fun g1 => ?_)
  ·
    refine e_aload_n dX7_boundOne_200 rfl ?_
    refine e_get ff_7_20 hS.l26 w855 dX7_boundOne_201 (w := aR (some 44)) hS.f26_20 ?_
    refine e_iload_n dX7_boundOne_204 rfl ?_
    refine e_lload_n dX7_boundOne_205 rfl ?_
    refine e_last hS.l44 (hS.b44 b1) dX7_boundOne_206 ?_
    refine e_aload_n dX7_boundOne_207 rfl ?_
    refine e_get ff_7_19 hS.l26 w854 dX7_boundOne_208 (w := aR (some 43)) hS.f26_19 ?_
    refine e_iload_n dX7_boundOne_211 rfl ?_
    refine e_iconst (u := 1) dX7_boundOne_212 (by decide) ?_
    refine e_zast hS.l43 (hS.b43 b1) (Or.inr rfl) dX7_boundOne_213 ?_
    exact e_vret rfl dX7_boundOne_214 (k2 g1)
  ·
    refine e_bipush (u := 120) dX7_boundOne_70 (by decide) ?_
    refine e_iload_n dX7_boundOne_72 rfl ?_
    refine e_imul dX7_boundOne_73 ?_
    refine e_iload dX7_boundOne_74 rfl ?_
    refine e_iadd dX7_boundOne_76 ?_
    refine e_istore dX7_boundOne_77 (Nat.le_of_ble_eq_true rfl) ?_
    show E K_X7_boundOne 79 [some (aR (some 26)), some (aI x1), some (aJ x2), none, some (aI x4), some (aI ((120 * x1) + x4)), none, none, none, none] [] M v M'
    refine e_aload_n dX7_boundOne_79 rfl ?_
    refine e_get ff_7_10 hS.l26 w845 dX7_boundOne_80 (w := aR (some 34)) hS.f26_10 ?_
    refine e_iload dX7_boundOne_83 rfl ?_
    refine e_iald hS.l34 (hS.b34 (b3 g1)) dX7_boundOne_85 ?_
    refine e_istore dX7_boundOne_86 (Nat.le_of_ble_eq_true rfl) ?_
    show E K_X7_boundOne 88 [some (aR (some 26)), some (aI x1), some (aJ x2), none, some (aI x4), some (aI ((120 * x1) + x4)), some (aI (mI M 34 ((120 * x1) + x4).toNatClampNeg)), none, none, none] [] M v M'
    refine e_iload dX7_boundOne_88 rfl ?_
    refine e_if_lt (tgt := 194) dX7_boundOne_90 rfl (fun g2 => ?_) (fun g2 => ?_)
    ·
      refine e_iinc dX7_boundOne_194 rfl ?_
      show E K_X7_boundOne 197 [some (aR (some 26)), some (aI x1), some (aJ x2), none, some (aI (x4 + 1)), some (aI ((120 * x1) + x4)), some (aI (mI M 34 ((120 * x1) + x4).toNatClampNeg)), none, none, none] [] M v M'
      refine e_goto (tgt := 59) dX7_boundOne_197 rfl ?_
      exact (k4 g1 g2)
    ·
      refine e_aload_n dX7_boundOne_93 rfl ?_
      refine e_get ff_7_2 hS.l26 w837 dX7_boundOne_94 (w := aR (some 29)) hS.f26_2 ?_
      refine e_iload_n dX7_boundOne_97 rfl ?_
      refine e_iald hS.l29 (hS.b29 b1) dX7_boundOne_98 ?_
      refine e_aload_n dX7_boundOne_99 rfl ?_
      refine e_iload_n dX7_boundOne_100 rfl ?_
      refine e_iload dX7_boundOne_101 rfl ?_
      refine e_callV (As := [aI x1, aI ((120 * x1) + x4)]) (rest := [aI (mI M 29 x1.toNatClampNeg)]) vk_X7_grows hS.l26 w1015 ⟨by decide, by decide⟩ (Nat.le_of_ble_eq_true rfl) dX7_boundOne_103 (c5 g1 g2) ?_
      show E K_X7_boundOne 106 [some (aR (some 26)), some (aI x1), some (aJ x2), none, some (aI x4), some (aI ((120 * x1) + x4)), some (aI (mI M 34 ((120 * x1) + x4).toNatClampNeg)), none, none, none] [aI x103, aI (mI M 29 x1.toNatClampNeg)] M1 v M'
      have hS_1 : St M1 := St.sh (M := M) (c5 g1 g2).2.1 hS
      refine e_if_le (tgt := 122) dX7_boundOne_106 rfl (fun g4 => ?_) (fun g4 => ?_)
      ·
        refine e_iload dX7_boundOne_122 rfl ?_
        refine e_iadd dX7_boundOne_124 ?_
        refine e_i2l dX7_boundOne_125 ?_
        refine e_lstore dX7_boundOne_126 (Nat.le_of_ble_eq_true rfl) ?_
        show E K_X7_boundOne 128 [some (aR (some 26)), some (aI x1), some (aJ x2), none, some (aI x4), some (aI ((120 * x1) + x4)), some (aI (mI M 34 ((120 * x1) + x4).toNatClampNeg)), some (aJ (((mI M 29 x1.toNatClampNeg) + (mI M 34 ((120 * x1) + x4).toNatClampNeg) : Int32).toInt64)), none, none] [] M1 v M'
        refine e_lload_n dX7_boundOne_128 rfl ?_
        refine e_lload dX7_boundOne_129 rfl ?_
        refine e_callS (As := [aJ x2, aJ (((mI M 29 x1.toNatClampNeg) + (mI M 34 ((120 * x1) + x4).toNatClampNeg) : Int32).toInt64)]) (rest := []) sk_X7_greater w1080 ⟨by decide, by decide⟩ (Nat.le_of_ble_eq_true rfl) dX7_boundOne_131 (c6 g1 g2 g4) ?_
        show E K_X7_boundOne 134 [some (aR (some 26)), some (aI x1), some (aJ x2), none, some (aI x4), some (aI ((120 * x1) + x4)), some (aI (mI M 34 ((120 * x1) + x4).toNatClampNeg)), some (aJ (((mI M 29 x1.toNatClampNeg) + (mI M 34 ((120 * x1) + x4).toNatClampNeg) : Int32).toInt64)), none, none] [aJ x105] M2 v M'
        have hS_2 : St M2 := St.sh (M := M1) (c6 g1 g2 g4).2.1 hS_1
        refine e_lstore_n dX7_boundOne_134 (Nat.le_of_ble_eq_true rfl) ?_
        show E K_X7_boundOne 135 [some (aR (some 26)), some (aI x1), some (aJ x105), none, some (aI x4), some (aI ((120 * x1) + x4)), some (aI (mI M 34 ((120 * x1) + x4).toNatClampNeg)), some (aJ (((mI M 29 x1.toNatClampNeg) + (mI M 34 ((120 * x1) + x4).toNatClampNeg) : Int32).toInt64)), none, none] [] M2 v M'
        refine e_aload_n dX7_boundOne_135 rfl ?_
        refine e_get ff_7_5 hS_2.l26 w840 dX7_boundOne_136 (w := aR (some 31)) hS_2.f26_5 ?_
        refine e_iload dX7_boundOne_139 rfl ?_
        refine e_iald hS_2.l31 (hS_2.b31 (b3 g1)) dX7_boundOne_141 ?_
        refine e_bipush (u := 16) dX7_boundOne_142 (by decide) ?_
        refine e_icmp_ne (tgt := 194) dX7_boundOne_144 rfl (fun g6 => ?_) (fun g6 => ?_)
        ·
          refine e_iinc dX7_boundOne_194 rfl ?_
          show E K_X7_boundOne 197 [some (aR (some 26)), some (aI x1), some (aJ x105), none, some (aI (x4 + 1)), some (aI ((120 * x1) + x4)), some (aI (mI M 34 ((120 * x1) + x4).toNatClampNeg)), some (aJ (((mI M 29 x1.toNatClampNeg) + (mI M 34 ((120 * x1) + x4).toNatClampNeg) : Int32).toInt64)), none, none] [] M2 v M'
          refine e_goto (tgt := 59) dX7_boundOne_197 rfl ?_
          exact (k7 g1 g2 g4 g6)
        ·
          refine e_aload_n dX7_boundOne_147 rfl ?_
          refine e_get ff_7_6 hS_2.l26 w841 dX7_boundOne_148 (w := aR (some 32)) hS_2.f26_6 ?_
          refine e_iload dX7_boundOne_151 rfl ?_
          refine e_lald hS_2.l32 (hS_2.b32 (b3 g1)) dX7_boundOne_153 ?_
          refine e_l2i dX7_boundOne_154 ?_
          refine e_istore dX7_boundOne_155 (Nat.le_of_ble_eq_true rfl) ?_
          show E K_X7_boundOne 157 [some (aR (some 26)), some (aI x1), some (aJ x105), none, some (aI x4), some (aI ((120 * x1) + x4)), some (aI (mI M 34 ((120 * x1) + x4).toNatClampNeg)), some (aJ (((mI M 29 x1.toNatClampNeg) + (mI M 34 ((120 * x1) + x4).toNatClampNeg) : Int32).toInt64)), none, some (aI ((mJ M2 32 ((120 * x1) + x4).toNatClampNeg : Int64).toInt32))] [] M2 v M'
          refine e_lload_n dX7_boundOne_157 rfl ?_
          refine e_aload_n dX7_boundOne_158 rfl ?_
          refine e_get ff_7_2 hS_2.l26 w837 dX7_boundOne_159 (w := aR (some 29)) hS_2.f26_2 ?_
          refine e_iload_n dX7_boundOne_162 rfl ?_
          refine e_iald hS_2.l29 (hS_2.b29 b1) dX7_boundOne_163 ?_
          refine e_iload dX7_boundOne_164 rfl ?_
          refine e_iadd dX7_boundOne_166 ?_
          refine e_aload_n dX7_boundOne_167 rfl ?_
          refine e_get ff_7_0 hS_2.l26 w835 dX7_boundOne_168 (w := aR (some 27)) hS_2.f26_0 ?_
          refine e_iload dX7_boundOne_171 rfl ?_
          refine e_iald hS_2.l27 (hS_2.b27 (b8 g1 g2 g4 g6)) dX7_boundOne_173 ?_
          refine e_isub dX7_boundOne_174 ?_
          refine e_i2l dX7_boundOne_175 ?_
          refine e_ldc2 dX7_boundOne_176 w1091 ?_
          refine e_ladd dX7_boundOne_179 ?_
          refine e_aload_n dX7_boundOne_180 rfl ?_
          refine e_get ff_7_20 hS_2.l26 w855 dX7_boundOne_181 (w := aR (some 44)) hS_2.f26_20 ?_
          refine e_iload dX7_boundOne_184 rfl ?_
          refine e_lald hS_2.l44 (hS_2.b44 (b8 g1 g2 g4 g6)) dX7_boundOne_186 ?_
          refine e_callS (As := [aJ (((((mI M2 29 x1.toNatClampNeg) + (mI M 34 ((120 * x1) + x4).toNatClampNeg)) - (mI M2 27 ((mJ M2 32 ((120 * x1) + x4).toNatClampNeg : Int64).toInt32).toNatClampNeg) : Int32).toInt64) + 2), aJ (mJ M2 44 ((mJ M2 32 ((120 * x1) + x4).toNatClampNeg : Int64).toInt32).toNatClampNeg)]) (rest := [aJ x105]) sk_X7_plus w1076 ⟨by decide, by decide⟩ (Nat.le_of_ble_eq_true rfl) dX7_boundOne_187 (c9 g1 g2 g4 g6) ?_
          show E K_X7_boundOne 190 [some (aR (some 26)), some (aI x1), some (aJ x105), none, some (aI x4), some (aI ((120 * x1) + x4)), some (aI (mI M 34 ((120 * x1) + x4).toNatClampNeg)), some (aJ (((mI M 29 x1.toNatClampNeg) + (mI M 34 ((120 * x1) + x4).toNatClampNeg) : Int32).toInt64)), none, some (aI ((mJ M2 32 ((120 * x1) + x4).toNatClampNeg : Int64).toInt32))] [aJ x107, aJ x105] M3 v M'
          have hS_3 : St M3 := St.sh (M := M2) (c9 g1 g2 g4 g6).2.1 hS_2
          refine e_callS (As := [aJ x105, aJ x107]) (rest := []) sk_X7_greater w1080 ⟨by decide, by decide⟩ (Nat.le_of_ble_eq_true rfl) dX7_boundOne_190 (c10 g1 g2 g4 g6) ?_
          show E K_X7_boundOne 193 [some (aR (some 26)), some (aI x1), some (aJ x105), none, some (aI x4), some (aI ((120 * x1) + x4)), some (aI (mI M 34 ((120 * x1) + x4).toNatClampNeg)), some (aJ (((mI M 29 x1.toNatClampNeg) + (mI M 34 ((120 * x1) + x4).toNatClampNeg) : Int32).toInt64)), none, some (aI ((mJ M2 32 ((120 * x1) + x4).toNatClampNeg : Int64).toInt32))] [aJ x108] M4 v M'
          have hS_4 : St M4 := St.sh (M := M3) (c10 g1 g2 g4 g6).2.1 hS_3
          refine e_lstore_n dX7_boundOne_193 (Nat.le_of_ble_eq_true rfl) ?_
          show E K_X7_boundOne 194 [some (aR (some 26)), some (aI x1), some (aJ x108), none, some (aI x4), some (aI ((120 * x1) + x4)), some (aI (mI M 34 ((120 * x1) + x4).toNatClampNeg)), some (aJ (((mI M 29 x1.toNatClampNeg) + (mI M 34 ((120 * x1) + x4).toNatClampNeg) : Int32).toInt64)), none, some (aI ((mJ M2 32 ((120 * x1) + x4).toNatClampNeg : Int64).toInt32))] [] M4 v M'
          refine e_iinc dX7_boundOne_194 rfl ?_
          show E K_X7_boundOne 197 [some (aR (some 26)), some (aI x1), some (aJ x108), none, some (aI (x4 + 1)), some (aI ((120 * x1) + x4)), some (aI (mI M 34 ((120 * x1) + x4).toNatClampNeg)), some (aJ (((mI M 29 x1.toNatClampNeg) + (mI M 34 ((120 * x1) + x4).toNatClampNeg) : Int32).toInt64)), none, some (aI ((mJ M2 32 ((120 * x1) + x4).toNatClampNeg : Int64).toInt32))] [] M4 v M'
          refine e_goto (tgt := 59) dX7_boundOne_197 rfl ?_
          exact (k11 g1 g2 g4 g6)
      ·
        refine e_iload dX7_boundOne_109 rfl ?_
        refine e_aload_n dX7_boundOne_111 rfl ?_
        refine e_iload_n dX7_boundOne_112 rfl ?_
        refine e_iload dX7_boundOne_113 rfl ?_
        refine e_callV (As := [aI x1, aI ((120 * x1) + x4)]) (rest := [aI (mI M 34 ((120 * x1) + x4).toNatClampNeg), aI (mI M 29 x1.toNatClampNeg)]) vk_X7_grows hS_1.l26 w1015 ⟨by decide, by decide⟩ (Nat.le_of_ble_eq_true rfl) dX7_boundOne_115 (c12 g1 g2 g4) ?_
        show E K_X7_boundOne 118 [some (aR (some 26)), some (aI x1), some (aJ x2), none, some (aI x4), some (aI ((120 * x1) + x4)), some (aI (mI M 34 ((120 * x1) + x4).toNatClampNeg)), none, none, none] [aI x109, aI (mI M 34 ((120 * x1) + x4).toNatClampNeg), aI (mI M 29 x1.toNatClampNeg)] M5 v M'
        have hS_5 : St M5 := St.sh (M := M1) (c12 g1 g2 g4).2.1 hS_1
        refine e_iadd dX7_boundOne_118 ?_
        refine e_goto (tgt := 124) dX7_boundOne_119 rfl ?_
        refine e_iadd dX7_boundOne_124 ?_
        refine e_i2l dX7_boundOne_125 ?_
        refine e_lstore dX7_boundOne_126 (Nat.le_of_ble_eq_true rfl) ?_
        show E K_X7_boundOne 128 [some (aR (some 26)), some (aI x1), some (aJ x2), none, some (aI x4), some (aI ((120 * x1) + x4)), some (aI (mI M 34 ((120 * x1) + x4).toNatClampNeg)), some (aJ (((mI M 29 x1.toNatClampNeg) + ((mI M 34 ((120 * x1) + x4).toNatClampNeg) + x109) : Int32).toInt64)), none, none] [] M5 v M'
        refine e_lload_n dX7_boundOne_128 rfl ?_
        refine e_lload dX7_boundOne_129 rfl ?_
        refine e_callS (As := [aJ x2, aJ (((mI M 29 x1.toNatClampNeg) + ((mI M 34 ((120 * x1) + x4).toNatClampNeg) + x109) : Int32).toInt64)]) (rest := []) sk_X7_greater w1080 ⟨by decide, by decide⟩ (Nat.le_of_ble_eq_true rfl) dX7_boundOne_131 (c13 g1 g2 g4) ?_
        show E K_X7_boundOne 134 [some (aR (some 26)), some (aI x1), some (aJ x2), none, some (aI x4), some (aI ((120 * x1) + x4)), some (aI (mI M 34 ((120 * x1) + x4).toNatClampNeg)), some (aJ (((mI M 29 x1.toNatClampNeg) + ((mI M 34 ((120 * x1) + x4).toNatClampNeg) + x109) : Int32).toInt64)), none, none] [aJ x110] M6 v M'
        have hS_6 : St M6 := St.sh (M := M5) (c13 g1 g2 g4).2.1 hS_5
        refine e_lstore_n dX7_boundOne_134 (Nat.le_of_ble_eq_true rfl) ?_
        show E K_X7_boundOne 135 [some (aR (some 26)), some (aI x1), some (aJ x110), none, some (aI x4), some (aI ((120 * x1) + x4)), some (aI (mI M 34 ((120 * x1) + x4).toNatClampNeg)), some (aJ (((mI M 29 x1.toNatClampNeg) + ((mI M 34 ((120 * x1) + x4).toNatClampNeg) + x109) : Int32).toInt64)), none, none] [] M6 v M'
        refine e_aload_n dX7_boundOne_135 rfl ?_
        refine e_get ff_7_5 hS_6.l26 w840 dX7_boundOne_136 (w := aR (some 31)) hS_6.f26_5 ?_
        refine e_iload dX7_boundOne_139 rfl ?_
        refine e_iald hS_6.l31 (hS_6.b31 (b3 g1)) dX7_boundOne_141 ?_
        refine e_bipush (u := 16) dX7_boundOne_142 (by decide) ?_
        refine e_icmp_ne (tgt := 194) dX7_boundOne_144 rfl (fun g11 => ?_) (fun g11 => ?_)
        ·
          refine e_iinc dX7_boundOne_194 rfl ?_
          show E K_X7_boundOne 197 [some (aR (some 26)), some (aI x1), some (aJ x110), none, some (aI (x4 + 1)), some (aI ((120 * x1) + x4)), some (aI (mI M 34 ((120 * x1) + x4).toNatClampNeg)), some (aJ (((mI M 29 x1.toNatClampNeg) + ((mI M 34 ((120 * x1) + x4).toNatClampNeg) + x109) : Int32).toInt64)), none, none] [] M6 v M'
          refine e_goto (tgt := 59) dX7_boundOne_197 rfl ?_
          exact (k14 g1 g2 g4 g11)
        ·
          refine e_aload_n dX7_boundOne_147 rfl ?_
          refine e_get ff_7_6 hS_6.l26 w841 dX7_boundOne_148 (w := aR (some 32)) hS_6.f26_6 ?_
          refine e_iload dX7_boundOne_151 rfl ?_
          refine e_lald hS_6.l32 (hS_6.b32 (b3 g1)) dX7_boundOne_153 ?_
          refine e_l2i dX7_boundOne_154 ?_
          refine e_istore dX7_boundOne_155 (Nat.le_of_ble_eq_true rfl) ?_
          show E K_X7_boundOne 157 [some (aR (some 26)), some (aI x1), some (aJ x110), none, some (aI x4), some (aI ((120 * x1) + x4)), some (aI (mI M 34 ((120 * x1) + x4).toNatClampNeg)), some (aJ (((mI M 29 x1.toNatClampNeg) + ((mI M 34 ((120 * x1) + x4).toNatClampNeg) + x109) : Int32).toInt64)), none, some (aI ((mJ M6 32 ((120 * x1) + x4).toNatClampNeg : Int64).toInt32))] [] M6 v M'
          refine e_lload_n dX7_boundOne_157 rfl ?_
          refine e_aload_n dX7_boundOne_158 rfl ?_
          refine e_get ff_7_2 hS_6.l26 w837 dX7_boundOne_159 (w := aR (some 29)) hS_6.f26_2 ?_
          refine e_iload_n dX7_boundOne_162 rfl ?_
          refine e_iald hS_6.l29 (hS_6.b29 b1) dX7_boundOne_163 ?_
          refine e_iload dX7_boundOne_164 rfl ?_
          refine e_iadd dX7_boundOne_166 ?_
          refine e_aload_n dX7_boundOne_167 rfl ?_
          refine e_get ff_7_0 hS_6.l26 w835 dX7_boundOne_168 (w := aR (some 27)) hS_6.f26_0 ?_
          refine e_iload dX7_boundOne_171 rfl ?_
          refine e_iald hS_6.l27 (hS_6.b27 (b15 g1 g2 g4 g11)) dX7_boundOne_173 ?_
          refine e_isub dX7_boundOne_174 ?_
          refine e_i2l dX7_boundOne_175 ?_
          refine e_ldc2 dX7_boundOne_176 w1091 ?_
          refine e_ladd dX7_boundOne_179 ?_
          refine e_aload_n dX7_boundOne_180 rfl ?_
          refine e_get ff_7_20 hS_6.l26 w855 dX7_boundOne_181 (w := aR (some 44)) hS_6.f26_20 ?_
          refine e_iload dX7_boundOne_184 rfl ?_
          refine e_lald hS_6.l44 (hS_6.b44 (b15 g1 g2 g4 g11)) dX7_boundOne_186 ?_
          refine e_callS (As := [aJ (((((mI M6 29 x1.toNatClampNeg) + (mI M 34 ((120 * x1) + x4).toNatClampNeg)) - (mI M6 27 ((mJ M6 32 ((120 * x1) + x4).toNatClampNeg : Int64).toInt32).toNatClampNeg) : Int32).toInt64) + 2), aJ (mJ M6 44 ((mJ M6 32 ((120 * x1) + x4).toNatClampNeg : Int64).toInt32).toNatClampNeg)]) (rest := [aJ x110]) sk_X7_plus w1076 ⟨by decide, by decide⟩ (Nat.le_of_ble_eq_true rfl) dX7_boundOne_187 (c16 g1 g2 g4 g11) ?_
          show E K_X7_boundOne 190 [some (aR (some 26)), some (aI x1), some (aJ x110), none, some (aI x4), some (aI ((120 * x1) + x4)), some (aI (mI M 34 ((120 * x1) + x4).toNatClampNeg)), some (aJ (((mI M 29 x1.toNatClampNeg) + ((mI M 34 ((120 * x1) + x4).toNatClampNeg) + x109) : Int32).toInt64)), none, some (aI ((mJ M6 32 ((120 * x1) + x4).toNatClampNeg : Int64).toInt32))] [aJ x112, aJ x110] M7 v M'
          have hS_7 : St M7 := St.sh (M := M6) (c16 g1 g2 g4 g11).2.1 hS_6
          refine e_callS (As := [aJ x110, aJ x112]) (rest := []) sk_X7_greater w1080 ⟨by decide, by decide⟩ (Nat.le_of_ble_eq_true rfl) dX7_boundOne_190 (c17 g1 g2 g4 g11) ?_
          show E K_X7_boundOne 193 [some (aR (some 26)), some (aI x1), some (aJ x110), none, some (aI x4), some (aI ((120 * x1) + x4)), some (aI (mI M 34 ((120 * x1) + x4).toNatClampNeg)), some (aJ (((mI M 29 x1.toNatClampNeg) + ((mI M 34 ((120 * x1) + x4).toNatClampNeg) + x109) : Int32).toInt64)), none, some (aI ((mJ M6 32 ((120 * x1) + x4).toNatClampNeg : Int64).toInt32))] [aJ x113] M8 v M'
          have hS_8 : St M8 := St.sh (M := M7) (c17 g1 g2 g4 g11).2.1 hS_7
          refine e_lstore_n dX7_boundOne_193 (Nat.le_of_ble_eq_true rfl) ?_
          show E K_X7_boundOne 194 [some (aR (some 26)), some (aI x1), some (aJ x113), none, some (aI x4), some (aI ((120 * x1) + x4)), some (aI (mI M 34 ((120 * x1) + x4).toNatClampNeg)), some (aJ (((mI M 29 x1.toNatClampNeg) + ((mI M 34 ((120 * x1) + x4).toNatClampNeg) + x109) : Int32).toInt64)), none, some (aI ((mJ M6 32 ((120 * x1) + x4).toNatClampNeg : Int64).toInt32))] [] M8 v M'
          refine e_iinc dX7_boundOne_194 rfl ?_
          show E K_X7_boundOne 197 [some (aR (some 26)), some (aI x1), some (aJ x113), none, some (aI (x4 + 1)), some (aI ((120 * x1) + x4)), some (aI (mI M 34 ((120 * x1) + x4).toNatClampNeg)), some (aJ (((mI M 29 x1.toNatClampNeg) + ((mI M 34 ((120 * x1) + x4).toNatClampNeg) + x109) : Int32).toInt64)), none, some (aI ((mJ M6 32 ((120 * x1) + x4).toNatClampNeg : Int64).toInt32))] [] M8 v M'
          refine e_goto (tgt := 59) dX7_boundOne_197 rfl ?_
          exact (k18 g1 g2 g4 g11)

set_option maxRecDepth 20000 in
theorem s_X7_calls_0 {M M' : AM} {v : Option AV} {x1 : Int32} {x2 : Int32} (hS : St M)
    (k1 : E K_X7_calls 2 [some (aR (some 26)), some (aI x1), some (aI x2), some (aI 0), none] [] M v M') :
    Ev K_X7_calls [aR (some 26), aI x1, aI x2] M v M' := by
  refine ⟨Nat.le_of_ble_eq_true rfl, ?_⟩
  show E K_X7_calls 0 [some (aR (some 26)), some (aI x1), some (aI x2), none, none] [] M v M'
  refine e_iconst (u := 0) dX7_calls_0 (by decide) ?_
  refine e_istore_n dX7_calls_1 (Nat.le_of_ble_eq_true rfl) ?_
  show E K_X7_calls 2 [some (aR (some 26)), some (aI x1), some (aI x2), some (aI 0), none] [] M v M'
  exact k1

set_option maxRecDepth 20000 in
theorem s_X7_calls_2 {M M' : AM} {v : Option AV} {x1 : Int32} {x2 : Int32} {x3 : Int32} (hS : St M)
    (b1 : vp_in x1 32)
    (k2 : ∀ (g1 : (mI M 30 x1.toNatClampNeg) ≤ x3), some (aI 0) = v ∧ M = M')
    (b3 : ∀ (g1 : ¬ ((mI M 30 x1.toNatClampNeg) ≤ x3)), vp_in ((120 * x1) + x3) 3840)
    (k4 : ∀ (g1 : ¬ ((mI M 30 x1.toNatClampNeg) ≤ x3)) (g2 : ¬ (mI M 31 ((120 * x1) + x3).toNatClampNeg) = 16), E K_X7_calls 2 [some (aR (some 26)), some (aI x1), some (aI x2), some (aI (x3 + 1)), some (aI ((120 * x1) + x3))] [] M v M')
    (k5 : ∀ (g1 : ¬ ((mI M 30 x1.toNatClampNeg) ≤ x3)) (g2 : (mI M 31 ((120 * x1) + x3).toNatClampNeg) = 16) (g3 : (mI M 34 ((120 * x1) + x3).toNatClampNeg) < 0), E K_X7_calls 2 [some (aR (some 26)), some (aI x1), some (aI x2), some (aI (x3 + 1)), some (aI ((120 * x1) + x3))] [] M v M')
    (k6 : ∀ (g1 : ¬ ((mI M 30 x1.toNatClampNeg) ≤ x3)) (g2 : (mI M 31 ((120 * x1) + x3).toNatClampNeg) = 16) (g3 : ¬ ((mI M 34 ((120 * x1) + x3).toNatClampNeg) < 0)) (g4 : ¬ ((mJ M 32 ((120 * x1) + x3).toNatClampNeg) = ((x2 : Int32).toInt64))), E K_X7_calls 2 [some (aR (some 26)), some (aI x1), some (aI x2), some (aI (x3 + 1)), some (aI ((120 * x1) + x3))] [] M v M')
    (k7 : ∀ (g1 : ¬ ((mI M 30 x1.toNatClampNeg) ≤ x3)) (g2 : (mI M 31 ((120 * x1) + x3).toNatClampNeg) = 16) (g3 : ¬ ((mI M 34 ((120 * x1) + x3).toNatClampNeg) < 0)) (g4 : (mJ M 32 ((120 * x1) + x3).toNatClampNeg) = ((x2 : Int32).toInt64)), some (aI 1) = v ∧ M = M') :
    E K_X7_calls 2 [some (aR (some 26)), some (aI x1), some (aI x2), some (aI x3), none] [] M v M' := by
  refine e_iload_n dX7_calls_2 rfl ?_
  refine e_aload_n dX7_calls_3 rfl ?_
  refine e_get ff_7_3 hS.l26 w838 dX7_calls_4 (w := aR (some 30)) hS.f26_3 ?_
  refine e_iload_n dX7_calls_7 rfl ?_
  refine e_iald hS.l30 (hS.b30 b1) dX7_calls_8 ?_
  refine e_icmp_ge (tgt := 63) dX7_calls_9 rfl (fun g1 => ?_) (fun g1 => ?_)
  ·
    refine e_iconst (u := 0) dX7_calls_63 (by decide) ?_
    exact e_zret rfl (Or.inl rfl) dX7_calls_64 (k2 g1)
  ·
    refine e_bipush (u := 120) dX7_calls_12 (by decide) ?_
    refine e_iload_n dX7_calls_14 rfl ?_
    refine e_imul dX7_calls_15 ?_
    refine e_iload_n dX7_calls_16 rfl ?_
    refine e_iadd dX7_calls_17 ?_
    refine e_istore dX7_calls_18 (Nat.le_of_ble_eq_true rfl) ?_
    show E K_X7_calls 20 [some (aR (some 26)), some (aI x1), some (aI x2), some (aI x3), some (aI ((120 * x1) + x3))] [] M v M'
    refine e_aload_n dX7_calls_20 rfl ?_
    refine e_get ff_7_5 hS.l26 w840 dX7_calls_21 (w := aR (some 31)) hS.f26_5 ?_
    refine e_iload dX7_calls_24 rfl ?_
    refine e_iald hS.l31 (hS.b31 (b3 g1)) dX7_calls_26 ?_
    refine e_bipush (u := 16) dX7_calls_27 (by decide) ?_
    refine e_icmp_ne (tgt := 57) dX7_calls_29 rfl (fun g2 => ?_) (fun g2 => ?_)
    ·
      refine e_iinc dX7_calls_57 rfl ?_
      show E K_X7_calls 60 [some (aR (some 26)), some (aI x1), some (aI x2), some (aI (x3 + 1)), some (aI ((120 * x1) + x3))] [] M v M'
      refine e_goto (tgt := 2) dX7_calls_60 rfl ?_
      exact (k4 g1 g2)
    ·
      refine e_aload_n dX7_calls_32 rfl ?_
      refine e_get ff_7_10 hS.l26 w845 dX7_calls_33 (w := aR (some 34)) hS.f26_10 ?_
      refine e_iload dX7_calls_36 rfl ?_
      refine e_iald hS.l34 (hS.b34 (b3 g1)) dX7_calls_38 ?_
      refine e_if_lt (tgt := 57) dX7_calls_39 rfl (fun g3 => ?_) (fun g3 => ?_)
      ·
        refine e_iinc dX7_calls_57 rfl ?_
        show E K_X7_calls 60 [some (aR (some 26)), some (aI x1), some (aI x2), some (aI (x3 + 1)), some (aI ((120 * x1) + x3))] [] M v M'
        refine e_goto (tgt := 2) dX7_calls_60 rfl ?_
        exact (k5 g1 g2 g3)
      ·
        refine e_aload_n dX7_calls_42 rfl ?_
        refine e_get ff_7_6 hS.l26 w841 dX7_calls_43 (w := aR (some 32)) hS.f26_6 ?_
        refine e_iload dX7_calls_46 rfl ?_
        refine e_lald hS.l32 (hS.b32 (b3 g1)) dX7_calls_48 ?_
        refine e_iload_n dX7_calls_49 rfl ?_
        refine e_i2l dX7_calls_50 ?_
        refine e_lcmp_ne (tgt := 57) dX7_calls_51 dX7_calls_52 rfl (fun g4 => ?_) (fun g4 => ?_)
        ·
          refine e_iinc dX7_calls_57 rfl ?_
          show E K_X7_calls 60 [some (aR (some 26)), some (aI x1), some (aI x2), some (aI (x3 + 1)), some (aI ((120 * x1) + x3))] [] M v M'
          refine e_goto (tgt := 2) dX7_calls_60 rfl ?_
          exact (k6 g1 g2 g3 g4)
        ·
          refine e_iconst (u := 1) dX7_calls_55 (by decide) ?_
          exact e_zret rfl (Or.inr rfl) dX7_calls_56 (k7 g1 g2 g3 g4)

set_option maxRecDepth 20000 in
theorem s_X7_analyseFrom_0 {M M' : AM} {v : Option AV} {x1 : Int32} {M1 : AM} (hS : St M)
    (c1 : Ev K_X7_examineAll [aR (some 26)] M (none) M1)
    (k2 : E K_X7_analyseFrom 6 [some (aR (some 26)), some (aI x1), some (aI 0), none, none, none] [] M1 v M') :
    Ev K_X7_analyseFrom [aR (some 26), aI x1] M v M' := by
  refine ⟨Nat.le_of_ble_eq_true rfl, ?_⟩
  show E K_X7_analyseFrom 0 [some (aR (some 26)), some (aI x1), none, none, none, none] [] M v M'
  refine e_aload_n dX7_analyseFrom_0 rfl ?_
  refine e_callV (As := []) (rest := []) vk_X7_examineAll hS.l26 w1051 ⟨by decide, by decide⟩ (Nat.le_of_ble_eq_true rfl) dX7_analyseFrom_1 c1 ?_
  show E K_X7_analyseFrom 4 [some (aR (some 26)), some (aI x1), none, none, none, none] [] M1 v M'
  have hS_1 : St M1 := St.sh (M := M) c1.2.1 hS
  refine e_iconst (u := 0) dX7_analyseFrom_4 (by decide) ?_
  refine e_istore_n dX7_analyseFrom_5 (Nat.le_of_ble_eq_true rfl) ?_
  show E K_X7_analyseFrom 6 [some (aR (some 26)), some (aI x1), some (aI 0), none, none, none] [] M1 v M'
  exact k2

set_option maxRecDepth 20000 in
theorem s_X7_analyseFrom_6 {M M' : AM} {v : Option AV} {x1 : Int32} {x2 : Int32} (hS : St M)
    (k1 : ∀ (g1 : 32 ≤ x2), E K_X7_analyseFrom 59 [some (aR (some 26)), some (aI x1), some (aI 0), some (aI 1), none, none] [] M v M')
    (b2 : ∀ (g1 : ¬ (32 ≤ x2)) (g2 : ¬ x2 = x1), vp_in x2 32)
    (k3 : ∀ (g1 : ¬ (32 ≤ x2)) (g2 : ¬ x2 = x1), E K_X7_analyseFrom 6 [some (aR (some 26)), some (aI x1), some (aI (x2 + 1)), none, none, none] [] (wrI (wrI (wrI (wrI M 40 x2.toNatClampNeg 0) 41 x2.toNatClampNeg 0) 42 x2.toNatClampNeg 0) 43 x2.toNatClampNeg 0) v M')
    (b4 : ∀ (g1 : ¬ (32 ≤ x2)) (g2 : x2 = x1), vp_in x2 32)
    (k5 : ∀ (g1 : ¬ (32 ≤ x2)) (g2 : x2 = x1), E K_X7_analyseFrom 6 [some (aR (some 26)), some (aI x1), some (aI (x2 + 1)), none, none, none] [] (wrI (wrI (wrI (wrI M 40 x2.toNatClampNeg 1) 41 x2.toNatClampNeg 0) 42 x2.toNatClampNeg 0) 43 x2.toNatClampNeg 0) v M') :
    E K_X7_analyseFrom 6 [some (aR (some 26)), some (aI x1), some (aI x2), none, none, none] [] M v M' := by
  refine e_iload_n dX7_analyseFrom_6 rfl ?_
  refine e_bipush (u := 32) dX7_analyseFrom_7 (by decide) ?_
  refine e_icmp_ge (tgt := 55) dX7_analyseFrom_9 rfl (fun g1 => ?_) (fun g1 => ?_)
  ·
    refine e_iconst (u := 0) dX7_analyseFrom_55 (by decide) ?_
    refine e_istore_n dX7_analyseFrom_56 (Nat.le_of_ble_eq_true rfl) ?_
    show E K_X7_analyseFrom 57 [some (aR (some 26)), some (aI x1), some (aI 0), none, none, none] [] M v M'
    refine e_iconst (u := 1) dX7_analyseFrom_57 (by decide) ?_
    refine e_istore_n dX7_analyseFrom_58 (Nat.le_of_ble_eq_true rfl) ?_
    show E K_X7_analyseFrom 59 [some (aR (some 26)), some (aI x1), some (aI 0), some (aI 1), none, none] [] M v M'
    exact (k1 g1)
  ·
    refine e_aload_n dX7_analyseFrom_12 rfl ?_
    refine e_get ff_7_16 hS.l26 w851 dX7_analyseFrom_13 (w := aR (some 40)) hS.f26_16 ?_
    refine e_iload_n dX7_analyseFrom_16 rfl ?_
    refine e_iload_n dX7_analyseFrom_17 rfl ?_
    refine e_iload_n dX7_analyseFrom_18 rfl ?_
    refine e_icmp_ne (tgt := 26) dX7_analyseFrom_19 rfl (fun g2 => ?_) (fun g2 => ?_)
    ·
      refine e_iconst (u := 0) dX7_analyseFrom_26 (by decide) ?_
      refine e_zast hS.l40 (hS.b40 (b2 g1 g2)) (Or.inl rfl) dX7_analyseFrom_27 ?_
      refine e_aload_n dX7_analyseFrom_28 rfl ?_
      refine e_get ff_7_17 hS.l26 w852 dX7_analyseFrom_29 (w := aR (some 41)) hS.f26_17 ?_
      refine e_iload_n dX7_analyseFrom_32 rfl ?_
      refine e_iconst (u := 0) dX7_analyseFrom_33 (by decide) ?_
      refine e_zast hS.l41 (hS.b41 (b2 g1 g2)) (Or.inl rfl) dX7_analyseFrom_34 ?_
      refine e_aload_n dX7_analyseFrom_35 rfl ?_
      refine e_get ff_7_18 hS.l26 w853 dX7_analyseFrom_36 (w := aR (some 42)) hS.f26_18 ?_
      refine e_iload_n dX7_analyseFrom_39 rfl ?_
      refine e_iconst (u := 0) dX7_analyseFrom_40 (by decide) ?_
      refine e_zast hS.l42 (hS.b42 (b2 g1 g2)) (Or.inl rfl) dX7_analyseFrom_41 ?_
      refine e_aload_n dX7_analyseFrom_42 rfl ?_
      refine e_get ff_7_19 hS.l26 w854 dX7_analyseFrom_43 (w := aR (some 43)) hS.f26_19 ?_
      refine e_iload_n dX7_analyseFrom_46 rfl ?_
      refine e_iconst (u := 0) dX7_analyseFrom_47 (by decide) ?_
      refine e_zast hS.l43 (hS.b43 (b2 g1 g2)) (Or.inl rfl) dX7_analyseFrom_48 ?_
      refine e_iinc dX7_analyseFrom_49 rfl ?_
      show E K_X7_analyseFrom 52 [some (aR (some 26)), some (aI x1), some (aI (x2 + 1)), none, none, none] [] (wrI (wrI (wrI (wrI M 40 x2.toNatClampNeg 0) 41 x2.toNatClampNeg 0) 42 x2.toNatClampNeg 0) 43 x2.toNatClampNeg 0) v M'
      refine e_goto (tgt := 6) dX7_analyseFrom_52 rfl ?_
      exact (k3 g1 g2)
    ·
      refine e_iconst (u := 1) dX7_analyseFrom_22 (by decide) ?_
      refine e_goto (tgt := 27) dX7_analyseFrom_23 rfl ?_
      refine e_zast hS.l40 (hS.b40 (b4 g1 g2)) (Or.inr rfl) dX7_analyseFrom_27 ?_
      refine e_aload_n dX7_analyseFrom_28 rfl ?_
      refine e_get ff_7_17 hS.l26 w852 dX7_analyseFrom_29 (w := aR (some 41)) hS.f26_17 ?_
      refine e_iload_n dX7_analyseFrom_32 rfl ?_
      refine e_iconst (u := 0) dX7_analyseFrom_33 (by decide) ?_
      refine e_zast hS.l41 (hS.b41 (b4 g1 g2)) (Or.inl rfl) dX7_analyseFrom_34 ?_
      refine e_aload_n dX7_analyseFrom_35 rfl ?_
      refine e_get ff_7_18 hS.l26 w853 dX7_analyseFrom_36 (w := aR (some 42)) hS.f26_18 ?_
      refine e_iload_n dX7_analyseFrom_39 rfl ?_
      refine e_iconst (u := 0) dX7_analyseFrom_40 (by decide) ?_
      refine e_zast hS.l42 (hS.b42 (b4 g1 g2)) (Or.inl rfl) dX7_analyseFrom_41 ?_
      refine e_aload_n dX7_analyseFrom_42 rfl ?_
      refine e_get ff_7_19 hS.l26 w854 dX7_analyseFrom_43 (w := aR (some 43)) hS.f26_19 ?_
      refine e_iload_n dX7_analyseFrom_46 rfl ?_
      refine e_iconst (u := 0) dX7_analyseFrom_47 (by decide) ?_
      refine e_zast hS.l43 (hS.b43 (b4 g1 g2)) (Or.inl rfl) dX7_analyseFrom_48 ?_
      refine e_iinc dX7_analyseFrom_49 rfl ?_
      show E K_X7_analyseFrom 52 [some (aR (some 26)), some (aI x1), some (aI (x2 + 1)), none, none, none] [] (wrI (wrI (wrI (wrI M 40 x2.toNatClampNeg 1) 41 x2.toNatClampNeg 0) 42 x2.toNatClampNeg 0) 43 x2.toNatClampNeg 0) v M'
      refine e_goto (tgt := 6) dX7_analyseFrom_52 rfl ?_
      exact (k5 g1 g2)

set_option maxRecDepth 20000 in
theorem s_X7_analyseFrom_59 {M M' : AM} {v : Option AV} {x1 : Int32} {x2 : Int32} {x3 : Int32} (hS : St M)
    (k1 : ∀ (g1 : x3 = 0), E K_X7_analyseFrom 158 [some (aR (some 26)), some (aI x1), some (aI x2), some (aI x3), some (aI 0), none] [] M v M')
    (k2 : ∀ (g1 : ¬ x3 = 0), E K_X7_analyseFrom 68 [some (aR (some 26)), some (aI x1), some (aI x2), some (aI 0), some (aI 0), none] [] M v M') :
    E K_X7_analyseFrom 59 [some (aR (some 26)), some (aI x1), some (aI x2), some (aI x3), none, none] [] M v M' := by
  refine e_iload_n dX7_analyseFrom_59 rfl ?_
  refine e_if_eq (tgt := 155) dX7_analyseFrom_60 rfl (fun g1 => ?_) (fun g1 => ?_)
  ·
    refine e_iconst (u := 0) dX7_analyseFrom_155 (by decide) ?_
    refine e_istore dX7_analyseFrom_156 (Nat.le_of_ble_eq_true rfl) ?_
    show E K_X7_analyseFrom 158 [some (aR (some 26)), some (aI x1), some (aI x2), some (aI x3), some (aI 0), none] [] M v M'
    exact (k1 g1)
  ·
    refine e_iconst (u := 0) dX7_analyseFrom_63 (by decide) ?_
    refine e_istore_n dX7_analyseFrom_64 (Nat.le_of_ble_eq_true rfl) ?_
    show E K_X7_analyseFrom 65 [some (aR (some 26)), some (aI x1), some (aI x2), some (aI 0), none, none] [] M v M'
    refine e_iconst (u := 0) dX7_analyseFrom_65 (by decide) ?_
    refine e_istore dX7_analyseFrom_66 (Nat.le_of_ble_eq_true rfl) ?_
    show E K_X7_analyseFrom 68 [some (aR (some 26)), some (aI x1), some (aI x2), some (aI 0), some (aI 0), none] [] M v M'
    exact (k2 g1)

set_option maxRecDepth 20000 in
theorem s_X7_analyseFrom_68 {M M' : AM} {v : Option AV} {x1 : Int32} {x2 : Int32} {x3 : Int32} {x4 : Int32} (hS : St M)
    (k1 : ∀ (g1 : (mI M 26 4) ≤ x4), E K_X7_analyseFrom 59 [some (aR (some 26)), some (aI x1), some (aI x2), some (aI x3), some (aI x4), none] [] M v M')
    (k2 : ∀ (g1 : ¬ ((mI M 26 4) ≤ x4)), E K_X7_analyseFrom 80 [some (aR (some 26)), some (aI x1), some (aI x2), some (aI x3), some (aI x4), some (aI 0)] [] M v M') :
    E K_X7_analyseFrom 68 [some (aR (some 26)), some (aI x1), some (aI x2), some (aI x3), some (aI x4), none] [] M v M' := by
  refine e_iload dX7_analyseFrom_68 rfl ?_
  refine e_aload_n dX7_analyseFrom_70 rfl ?_
  refine e_get ff_7_4 hS.l26 w839 dX7_analyseFrom_71 (w := aI (mI M 26 4)) rfl ?_
  refine e_icmp_ge (tgt := 152) dX7_analyseFrom_74 rfl (fun g1 => ?_) (fun g1 => ?_)
  ·
    refine e_goto (tgt := 59) dX7_analyseFrom_152 rfl ?_
    exact (k1 g1)
  ·
    refine e_iconst (u := 0) dX7_analyseFrom_77 (by decide) ?_
    refine e_istore dX7_analyseFrom_78 (Nat.le_of_ble_eq_true rfl) ?_
    show E K_X7_analyseFrom 80 [some (aR (some 26)), some (aI x1), some (aI x2), some (aI x3), some (aI x4), some (aI 0)] [] M v M'
    exact (k2 g1)

set_option maxRecDepth 20000 in
theorem s_X7_analyseFrom_80 {M M' : AM} {v : Option AV} {x1 : Int32} {x2 : Int32} {x3 : Int32} {x4 : Int32} {x5 : Int32} {M1 : AM} {x105 : Int32} (hS : St M)
    (k1 : ∀ (g1 : (mI M 26 4) ≤ x5), E K_X7_analyseFrom 68 [some (aR (some 26)), some (aI x1), some (aI x2), some (aI x3), some (aI (x4 + 1)), some (aI x5)] [] M v M')
    (b2 : ∀ (g1 : ¬ ((mI M 26 4) ≤ x5)), vp_in x4 32)
    (k3 : ∀ (g1 : ¬ ((mI M 26 4) ≤ x5)) (g2 : (mI M 40 x4.toNatClampNeg) = 0), E K_X7_analyseFrom 68 [some (aR (some 26)), some (aI x1), some (aI x2), some (aI x3), some (aI (x4 + 1)), some (aI x5)] [] M v M')
    (k4 : ∀ (g1 : ¬ ((mI M 26 4) ≤ x5)) (g2 : ¬ (mI M 40 x4.toNatClampNeg) = 0) (g3 : ¬ (mI M 38 x4.toNatClampNeg) = 0), E K_X7_analyseFrom 68 [some (aR (some 26)), some (aI x1), some (aI x2), some (aI x3), some (aI (x4 + 1)), some (aI x5)] [] M v M')
    (b5 : ∀ (g1 : ¬ ((mI M 26 4) ≤ x5)) (g2 : ¬ (mI M 40 x4.toNatClampNeg) = 0) (g3 : (mI M 38 x4.toNatClampNeg) = 0), vp_in x5 32)
    (k6 : ∀ (g1 : ¬ ((mI M 26 4) ≤ x5)) (g2 : ¬ (mI M 40 x4.toNatClampNeg) = 0) (g3 : (mI M 38 x4.toNatClampNeg) = 0) (g4 : ¬ (mI M 40 x5.toNatClampNeg) = 0), E K_X7_analyseFrom 80 [some (aR (some 26)), some (aI x1), some (aI x2), some (aI x3), some (aI x4), some (aI (x5 + 1))] [] M v M')
    (c7 : ∀ (g1 : ¬ ((mI M 26 4) ≤ x5)) (g2 : ¬ (mI M 40 x4.toNatClampNeg) = 0) (g3 : (mI M 38 x4.toNatClampNeg) = 0) (g4 : (mI M 40 x5.toNatClampNeg) = 0), Ev K_X7_calls [aR (some 26), aI x4, aI x5] M (some (aI x105)) M1)
    (k8 : ∀ (g1 : ¬ ((mI M 26 4) ≤ x5)) (g2 : ¬ (mI M 40 x4.toNatClampNeg) = 0) (g3 : (mI M 38 x4.toNatClampNeg) = 0) (g4 : (mI M 40 x5.toNatClampNeg) = 0) (g6 : x105 = 0), E K_X7_analyseFrom 80 [some (aR (some 26)), some (aI x1), some (aI x2), some (aI x3), some (aI x4), some (aI (x5 + 1))] [] M1 v M')
    (k9 : ∀ (g1 : ¬ ((mI M 26 4) ≤ x5)) (g2 : ¬ (mI M 40 x4.toNatClampNeg) = 0) (g3 : (mI M 38 x4.toNatClampNeg) = 0) (g4 : (mI M 40 x5.toNatClampNeg) = 0) (g6 : ¬ x105 = 0), E K_X7_analyseFrom 80 [some (aR (some 26)), some (aI x1), some (aI x2), some (aI 1), some (aI x4), some (aI (x5 + 1))] [] (wrI M1 40 x5.toNatClampNeg 1) v M') :
    E K_X7_analyseFrom 80 [some (aR (some 26)), some (aI x1), some (aI x2), some (aI x3), some (aI x4), some (aI x5)] [] M v M' := by
  refine e_iload dX7_analyseFrom_80 rfl ?_
  refine e_aload_n dX7_analyseFrom_82 rfl ?_
  refine e_get ff_7_4 hS.l26 w839 dX7_analyseFrom_83 (w := aI (mI M 26 4)) rfl ?_
  refine e_icmp_ge (tgt := 146) dX7_analyseFrom_86 rfl (fun g1 => ?_) (fun g1 => ?_)
  ·
    refine e_iinc dX7_analyseFrom_146 rfl ?_
    show E K_X7_analyseFrom 149 [some (aR (some 26)), some (aI x1), some (aI x2), some (aI x3), some (aI (x4 + 1)), some (aI x5)] [] M v M'
    refine e_goto (tgt := 68) dX7_analyseFrom_149 rfl ?_
    exact (k1 g1)
  ·
    refine e_aload_n dX7_analyseFrom_89 rfl ?_
    refine e_get ff_7_16 hS.l26 w851 dX7_analyseFrom_90 (w := aR (some 40)) hS.f26_16 ?_
    refine e_iload dX7_analyseFrom_93 rfl ?_
    refine e_zald hS.l40 (hS.b40 (b2 g1)) dX7_analyseFrom_95 ?_
    refine e_if_eq (tgt := 146) dX7_analyseFrom_96 rfl (fun g2 => ?_) (fun g2 => ?_)
    ·
      refine e_iinc dX7_analyseFrom_146 rfl ?_
      show E K_X7_analyseFrom 149 [some (aR (some 26)), some (aI x1), some (aI x2), some (aI x3), some (aI (x4 + 1)), some (aI x5)] [] M v M'
      refine e_goto (tgt := 68) dX7_analyseFrom_149 rfl ?_
      exact (k3 g1 g2)
    ·
      refine e_aload_n dX7_analyseFrom_99 rfl ?_
      refine e_get ff_7_14 hS.l26 w849 dX7_analyseFrom_100 (w := aR (some 38)) hS.f26_14 ?_
      refine e_iload dX7_analyseFrom_103 rfl ?_
      refine e_iald hS.l38 (hS.b38 (b2 g1)) dX7_analyseFrom_105 ?_
      refine e_if_ne (tgt := 146) dX7_analyseFrom_106 rfl (fun g3 => ?_) (fun g3 => ?_)
      ·
        refine e_iinc dX7_analyseFrom_146 rfl ?_
        show E K_X7_analyseFrom 149 [some (aR (some 26)), some (aI x1), some (aI x2), some (aI x3), some (aI (x4 + 1)), some (aI x5)] [] M v M'
        refine e_goto (tgt := 68) dX7_analyseFrom_149 rfl ?_
        exact (k4 g1 g2 g3)
      ·
        refine e_aload_n dX7_analyseFrom_109 rfl ?_
        refine e_get ff_7_16 hS.l26 w851 dX7_analyseFrom_110 (w := aR (some 40)) hS.f26_16 ?_
        refine e_iload dX7_analyseFrom_113 rfl ?_
        refine e_zald hS.l40 (hS.b40 (b5 g1 g2 g3)) dX7_analyseFrom_115 ?_
        refine e_if_ne (tgt := 140) dX7_analyseFrom_116 rfl (fun g4 => ?_) (fun g4 => ?_)
        ·
          refine e_iinc dX7_analyseFrom_140 rfl ?_
          show E K_X7_analyseFrom 143 [some (aR (some 26)), some (aI x1), some (aI x2), some (aI x3), some (aI x4), some (aI (x5 + 1))] [] M v M'
          refine e_goto (tgt := 80) dX7_analyseFrom_143 rfl ?_
          exact (k6 g1 g2 g3 g4)
        ·
          refine e_aload_n dX7_analyseFrom_119 rfl ?_
          refine e_iload dX7_analyseFrom_120 rfl ?_
          refine e_iload dX7_analyseFrom_122 rfl ?_
          refine e_callV (As := [aI x4, aI x5]) (rest := []) vk_X7_calls hS.l26 w1055 ⟨by decide, by decide⟩ (Nat.le_of_ble_eq_true rfl) dX7_analyseFrom_124 (c7 g1 g2 g3 g4) ?_
          show E K_X7_analyseFrom 127 [some (aR (some 26)), some (aI x1), some (aI x2), some (aI x3), some (aI x4), some (aI x5)] [aI x105] M1 v M'
          have hS_1 : St M1 := St.sh (M := M) (c7 g1 g2 g3 g4).2.1 hS
          refine e_if_eq (tgt := 140) dX7_analyseFrom_127 rfl (fun g6 => ?_) (fun g6 => ?_)
          ·
            refine e_iinc dX7_analyseFrom_140 rfl ?_
            show E K_X7_analyseFrom 143 [some (aR (some 26)), some (aI x1), some (aI x2), some (aI x3), some (aI x4), some (aI (x5 + 1))] [] M1 v M'
            refine e_goto (tgt := 80) dX7_analyseFrom_143 rfl ?_
            exact (k8 g1 g2 g3 g4 g6)
          ·
            refine e_aload_n dX7_analyseFrom_130 rfl ?_
            refine e_get ff_7_16 hS_1.l26 w851 dX7_analyseFrom_131 (w := aR (some 40)) hS_1.f26_16 ?_
            refine e_iload dX7_analyseFrom_134 rfl ?_
            refine e_iconst (u := 1) dX7_analyseFrom_136 (by decide) ?_
            refine e_zast hS_1.l40 (hS_1.b40 (b5 g1 g2 g3)) (Or.inr rfl) dX7_analyseFrom_137 ?_
            refine e_iconst (u := 1) dX7_analyseFrom_138 (by decide) ?_
            refine e_istore_n dX7_analyseFrom_139 (Nat.le_of_ble_eq_true rfl) ?_
            show E K_X7_analyseFrom 140 [some (aR (some 26)), some (aI x1), some (aI x2), some (aI 1), some (aI x4), some (aI x5)] [] (wrI M1 40 x5.toNatClampNeg 1) v M'
            refine e_iinc dX7_analyseFrom_140 rfl ?_
            show E K_X7_analyseFrom 143 [some (aR (some 26)), some (aI x1), some (aI x2), some (aI 1), some (aI x4), some (aI (x5 + 1))] [] (wrI M1 40 x5.toNatClampNeg 1) v M'
            refine e_goto (tgt := 80) dX7_analyseFrom_143 rfl ?_
            exact (k9 g1 g2 g3 g4 g6)

set_option maxRecDepth 20000 in
theorem s_X7_analyseFrom_158 {M M' : AM} {v : Option AV} {x1 : Int32} {x2 : Int32} {x3 : Int32} {x4 : Int32} {M1 : AM} {x103 : Int32} {M2 : AM} {x105 : Int32} (hS : St M)
    (c1 : ∀ (g1 : (mI M 26 4) ≤ x4) (g2 : x2 = 0), Ev K_X7_isRound [aR (some 26)] M (some (aI x103)) M1)
    (c2 : ∀ (g1 : (mI M 26 4) ≤ x4) (g2 : x2 = 0) (g4 : x103 = 0), Ev K_X7_boundAll [aR (some 26)] M1 (some (aI x105)) M2)
    (k3 : ∀ (g1 : (mI M 26 4) ≤ x4) (g2 : x2 = 0) (g4 : x103 = 0), some (aI x105) = v ∧ M2 = M')
    (k4 : ∀ (g1 : (mI M 26 4) ≤ x4) (g2 : x2 = 0) (g4 : ¬ x103 = 0), some (aI 2) = v ∧ M1 = M')
    (k5 : ∀ (g1 : (mI M 26 4) ≤ x4) (g2 : ¬ x2 = 0), some (aI 1) = v ∧ M = M')
    (b6 : ∀ (g1 : ¬ ((mI M 26 4) ≤ x4)), vp_in x4 32)
    (k7 : ∀ (g1 : ¬ ((mI M 26 4) ≤ x4)) (g6 : (mI M 40 x4.toNatClampNeg) = 0), E K_X7_analyseFrom 158 [some (aR (some 26)), some (aI x1), some (aI (x2 ||| (mI (wrI M 41 x4.toNatClampNeg 0) 41 x4.toNatClampNeg))), some (aI x3), some (aI (x4 + 1)), none] [] (wrI M 41 x4.toNatClampNeg 0) v M')
    (k8 : ∀ (g1 : ¬ ((mI M 26 4) ≤ x4)) (g6 : ¬ (mI M 40 x4.toNatClampNeg) = 0) (g7 : (mI M 38 x4.toNatClampNeg) ≤ 0), E K_X7_analyseFrom 158 [some (aR (some 26)), some (aI x1), some (aI (x2 ||| (mI (wrI M 41 x4.toNatClampNeg 0) 41 x4.toNatClampNeg))), some (aI x3), some (aI (x4 + 1)), none] [] (wrI M 41 x4.toNatClampNeg 0) v M')
    (k9 : ∀ (g1 : ¬ ((mI M 26 4) ≤ x4)) (g6 : ¬ (mI M 40 x4.toNatClampNeg) = 0) (g7 : ¬ ((mI M 38 x4.toNatClampNeg) ≤ 0)), E K_X7_analyseFrom 158 [some (aR (some 26)), some (aI x1), some (aI (x2 ||| (mI (wrI M 41 x4.toNatClampNeg 1) 41 x4.toNatClampNeg))), some (aI x3), some (aI (x4 + 1)), none] [] (wrI M 41 x4.toNatClampNeg 1) v M') :
    E K_X7_analyseFrom 158 [some (aR (some 26)), some (aI x1), some (aI x2), some (aI x3), some (aI x4), none] [] M v M' := by
  refine e_iload dX7_analyseFrom_158 rfl ?_
  refine e_aload_n dX7_analyseFrom_160 rfl ?_
  refine e_get ff_7_4 hS.l26 w839 dX7_analyseFrom_161 (w := aI (mI M 26 4)) rfl ?_
  refine e_icmp_ge (tgt := 215) dX7_analyseFrom_164 rfl (fun g1 => ?_) (fun g1 => ?_)
  ·
    refine e_iload_n dX7_analyseFrom_215 rfl ?_
    refine e_if_eq (tgt := 221) dX7_analyseFrom_216 rfl (fun g2 => ?_) (fun g2 => ?_)
    ·
      refine e_aload_n dX7_analyseFrom_221 rfl ?_
      refine e_callV (As := []) (rest := []) vk_X7_isRound hS.l26 w1059 ⟨by decide, by decide⟩ (Nat.le_of_ble_eq_true rfl) dX7_analyseFrom_222 (c1 g1 g2) ?_
      show E K_X7_analyseFrom 225 [some (aR (some 26)), some (aI x1), some (aI x2), some (aI x3), some (aI x4), none] [aI x103] M1 v M'
      have hS_1 : St M1 := St.sh (M := M) (c1 g1 g2).2.1 hS
      refine e_if_eq (tgt := 232) dX7_analyseFrom_225 rfl (fun g4 => ?_) (fun g4 => ?_)
      ·
        refine e_aload_n dX7_analyseFrom_232 rfl ?_
        refine e_callV (As := []) (rest := []) vk_X7_boundAll hS_1.l26 w1063 ⟨by decide, by decide⟩ (Nat.le_of_ble_eq_true rfl) dX7_analyseFrom_233 (c2 g1 g2 g4) ?_
        show E K_X7_analyseFrom 236 [some (aR (some 26)), some (aI x1), some (aI x2), some (aI x3), some (aI x4), none] [aI x105] M2 v M'
        have hS_2 : St M2 := St.sh (M := M1) (c2 g1 g2 g4).2.1 hS_1
        exact e_iret rfl dX7_analyseFrom_236 (k3 g1 g2 g4)
      ·
        refine e_iconst (u := 2) dX7_analyseFrom_228 (by decide) ?_
        refine e_goto (tgt := 236) dX7_analyseFrom_229 rfl ?_
        exact e_iret rfl dX7_analyseFrom_236 (k4 g1 g2 g4)
    ·
      refine e_iconst (u := 1) dX7_analyseFrom_219 (by decide) ?_
      exact e_iret rfl dX7_analyseFrom_220 (k5 g1 g2)
  ·
    refine e_aload_n dX7_analyseFrom_167 rfl ?_
    refine e_get ff_7_17 hS.l26 w852 dX7_analyseFrom_168 (w := aR (some 41)) hS.f26_17 ?_
    refine e_iload dX7_analyseFrom_171 rfl ?_
    refine e_aload_n dX7_analyseFrom_173 rfl ?_
    refine e_get ff_7_16 hS.l26 w851 dX7_analyseFrom_174 (w := aR (some 40)) hS.f26_16 ?_
    refine e_iload dX7_analyseFrom_177 rfl ?_
    refine e_zald hS.l40 (hS.b40 (b6 g1)) dX7_analyseFrom_179 ?_
    refine e_if_eq (tgt := 197) dX7_analyseFrom_180 rfl (fun g6 => ?_) (fun g6 => ?_)
    ·
      refine e_iconst (u := 0) dX7_analyseFrom_197 (by decide) ?_
      refine e_zast hS.l41 (hS.b41 (b6 g1)) (Or.inl rfl) dX7_analyseFrom_198 ?_
      refine e_iload_n dX7_analyseFrom_199 rfl ?_
      refine e_aload_n dX7_analyseFrom_200 rfl ?_
      refine e_get ff_7_17 hS.l26 w852 dX7_analyseFrom_201 (w := aR (some 41)) hS.f26_17 ?_
      refine e_iload dX7_analyseFrom_204 rfl ?_
      refine e_zald hS.l41 (hS.b41 (b6 g1)) dX7_analyseFrom_206 ?_
      show E K_X7_analyseFrom 207 [some (aR (some 26)), some (aI x1), some (aI x2), some (aI x3), some (aI x4), none] [aI (mI (wrI M 41 x4.toNatClampNeg 0) 41 x4.toNatClampNeg), aI x2] (wrI M 41 x4.toNatClampNeg 0) v M'
      refine e_ior dX7_analyseFrom_207 ?_
      refine e_istore_n dX7_analyseFrom_208 (Nat.le_of_ble_eq_true rfl) ?_
      show E K_X7_analyseFrom 209 [some (aR (some 26)), some (aI x1), some (aI (x2 ||| (mI (wrI M 41 x4.toNatClampNeg 0) 41 x4.toNatClampNeg))), some (aI x3), some (aI x4), none] [] (wrI M 41 x4.toNatClampNeg 0) v M'
      refine e_iinc dX7_analyseFrom_209 rfl ?_
      show E K_X7_analyseFrom 212 [some (aR (some 26)), some (aI x1), some (aI (x2 ||| (mI (wrI M 41 x4.toNatClampNeg 0) 41 x4.toNatClampNeg))), some (aI x3), some (aI (x4 + 1)), none] [] (wrI M 41 x4.toNatClampNeg 0) v M'
      refine e_goto (tgt := 158) dX7_analyseFrom_212 rfl ?_
      exact (k7 g1 g6)
    ·
      refine e_aload_n dX7_analyseFrom_183 rfl ?_
      refine e_get ff_7_14 hS.l26 w849 dX7_analyseFrom_184 (w := aR (some 38)) hS.f26_14 ?_
      refine e_iload dX7_analyseFrom_187 rfl ?_
      refine e_iald hS.l38 (hS.b38 (b6 g1)) dX7_analyseFrom_189 ?_
      refine e_if_le (tgt := 197) dX7_analyseFrom_190 rfl (fun g7 => ?_) (fun g7 => ?_)
      ·
        refine e_iconst (u := 0) dX7_analyseFrom_197 (by decide) ?_
        refine e_zast hS.l41 (hS.b41 (b6 g1)) (Or.inl rfl) dX7_analyseFrom_198 ?_
        refine e_iload_n dX7_analyseFrom_199 rfl ?_
        refine e_aload_n dX7_analyseFrom_200 rfl ?_
        refine e_get ff_7_17 hS.l26 w852 dX7_analyseFrom_201 (w := aR (some 41)) hS.f26_17 ?_
        refine e_iload dX7_analyseFrom_204 rfl ?_
        refine e_zald hS.l41 (hS.b41 (b6 g1)) dX7_analyseFrom_206 ?_
        show E K_X7_analyseFrom 207 [some (aR (some 26)), some (aI x1), some (aI x2), some (aI x3), some (aI x4), none] [aI (mI (wrI M 41 x4.toNatClampNeg 0) 41 x4.toNatClampNeg), aI x2] (wrI M 41 x4.toNatClampNeg 0) v M'
        refine e_ior dX7_analyseFrom_207 ?_
        refine e_istore_n dX7_analyseFrom_208 (Nat.le_of_ble_eq_true rfl) ?_
        show E K_X7_analyseFrom 209 [some (aR (some 26)), some (aI x1), some (aI (x2 ||| (mI (wrI M 41 x4.toNatClampNeg 0) 41 x4.toNatClampNeg))), some (aI x3), some (aI x4), none] [] (wrI M 41 x4.toNatClampNeg 0) v M'
        refine e_iinc dX7_analyseFrom_209 rfl ?_
        show E K_X7_analyseFrom 212 [some (aR (some 26)), some (aI x1), some (aI (x2 ||| (mI (wrI M 41 x4.toNatClampNeg 0) 41 x4.toNatClampNeg))), some (aI x3), some (aI (x4 + 1)), none] [] (wrI M 41 x4.toNatClampNeg 0) v M'
        refine e_goto (tgt := 158) dX7_analyseFrom_212 rfl ?_
        exact (k8 g1 g6 g7)
      ·
        refine e_iconst (u := 1) dX7_analyseFrom_193 (by decide) ?_
        refine e_goto (tgt := 198) dX7_analyseFrom_194 rfl ?_
        refine e_zast hS.l41 (hS.b41 (b6 g1)) (Or.inr rfl) dX7_analyseFrom_198 ?_
        refine e_iload_n dX7_analyseFrom_199 rfl ?_
        refine e_aload_n dX7_analyseFrom_200 rfl ?_
        refine e_get ff_7_17 hS.l26 w852 dX7_analyseFrom_201 (w := aR (some 41)) hS.f26_17 ?_
        refine e_iload dX7_analyseFrom_204 rfl ?_
        refine e_zald hS.l41 (hS.b41 (b6 g1)) dX7_analyseFrom_206 ?_
        show E K_X7_analyseFrom 207 [some (aR (some 26)), some (aI x1), some (aI x2), some (aI x3), some (aI x4), none] [aI (mI (wrI M 41 x4.toNatClampNeg 1) 41 x4.toNatClampNeg), aI x2] (wrI M 41 x4.toNatClampNeg 1) v M'
        refine e_ior dX7_analyseFrom_207 ?_
        refine e_istore_n dX7_analyseFrom_208 (Nat.le_of_ble_eq_true rfl) ?_
        show E K_X7_analyseFrom 209 [some (aR (some 26)), some (aI x1), some (aI (x2 ||| (mI (wrI M 41 x4.toNatClampNeg 1) 41 x4.toNatClampNeg))), some (aI x3), some (aI x4), none] [] (wrI M 41 x4.toNatClampNeg 1) v M'
        refine e_iinc dX7_analyseFrom_209 rfl ?_
        show E K_X7_analyseFrom 212 [some (aR (some 26)), some (aI x1), some (aI (x2 ||| (mI (wrI M 41 x4.toNatClampNeg 1) 41 x4.toNatClampNeg))), some (aI x3), some (aI (x4 + 1)), none] [] (wrI M 41 x4.toNatClampNeg 1) v M'
        refine e_goto (tgt := 158) dX7_analyseFrom_212 rfl ?_
        exact (k9 g1 g6 g7)

set_option maxRecDepth 20000 in
theorem s_X7_isRound_0 {M M' : AM} {v : Option AV} (hS : St M)
    (k1 : E K_X7_isRound 2 [some (aR (some 26)), some (aI 0), none, none] [] M v M') :
    Ev K_X7_isRound [aR (some 26)] M v M' := by
  refine ⟨Nat.le_of_ble_eq_true rfl, ?_⟩
  show E K_X7_isRound 0 [some (aR (some 26)), none, none, none] [] M v M'
  refine e_iconst (u := 0) dX7_isRound_0 (by decide) ?_
  refine e_istore_n dX7_isRound_1 (Nat.le_of_ble_eq_true rfl) ?_
  show E K_X7_isRound 2 [some (aR (some 26)), some (aI 0), none, none] [] M v M'
  exact k1

set_option maxRecDepth 20000 in
theorem s_X7_isRound_2 {M M' : AM} {v : Option AV} {x1 : Int32} (hS : St M)
    (k1 : ∀ (g1 : (mI M 26 4) ≤ x1), E K_X7_isRound 68 [some (aR (some 26)), some (aI 0), none, none] [] M v M')
    (k2 : ∀ (g1 : ¬ ((mI M 26 4) ≤ x1)), E K_X7_isRound 12 [some (aR (some 26)), some (aI x1), some (aI 0), none] [] M v M') :
    E K_X7_isRound 2 [some (aR (some 26)), some (aI x1), none, none] [] M v M' := by
  refine e_iload_n dX7_isRound_2 rfl ?_
  refine e_aload_n dX7_isRound_3 rfl ?_
  refine e_get ff_7_4 hS.l26 w839 dX7_isRound_4 (w := aI (mI M 26 4)) rfl ?_
  refine e_icmp_ge (tgt := 66) dX7_isRound_7 rfl (fun g1 => ?_) (fun g1 => ?_)
  ·
    refine e_iconst (u := 0) dX7_isRound_66 (by decide) ?_
    refine e_istore_n dX7_isRound_67 (Nat.le_of_ble_eq_true rfl) ?_
    show E K_X7_isRound 68 [some (aR (some 26)), some (aI 0), none, none] [] M v M'
    exact (k1 g1)
  ·
    refine e_iconst (u := 0) dX7_isRound_10 (by decide) ?_
    refine e_istore_n dX7_isRound_11 (Nat.le_of_ble_eq_true rfl) ?_
    show E K_X7_isRound 12 [some (aR (some 26)), some (aI x1), some (aI 0), none] [] M v M'
    exact (k2 g1)

set_option maxRecDepth 20000 in
theorem s_X7_isRound_12 {M M' : AM} {v : Option AV} {x1 : Int32} {x2 : Int32} {M1 : AM} {x103 : Int32} (hS : St M)
    (k1 : ∀ (g1 : (mI M 26 4) ≤ x2), E K_X7_isRound 2 [some (aR (some 26)), some (aI (x1 + 1)), some (aI x2), none] [] M v M')
    (b2 : ∀ (g1 : ¬ ((mI M 26 4) ≤ x2)), vp_in x1 32)
    (b3 : ∀ (g1 : ¬ ((mI M 26 4) ≤ x2)) (g2 : (mI M 40 x1.toNatClampNeg) = 0), vp_in ((32 * x1) + x2) 1024)
    (k4 : ∀ (g1 : ¬ ((mI M 26 4) ≤ x2)) (g2 : (mI M 40 x1.toNatClampNeg) = 0), E K_X7_isRound 12 [some (aR (some 26)), some (aI x1), some (aI (x2 + 1)), none] [] (wrI M 49 ((32 * x1) + x2).toNatClampNeg 0) v M')
    (c5 : ∀ (g1 : ¬ ((mI M 26 4) ≤ x2)) (g2 : ¬ (mI M 40 x1.toNatClampNeg) = 0), Ev K_X7_calls [aR (some 26), aI x1, aI x2] M (some (aI x103)) M1)
    (b6 : ∀ (g1 : ¬ ((mI M 26 4) ≤ x2)) (g2 : ¬ (mI M 40 x1.toNatClampNeg) = 0) (g4 : x103 = 0), vp_in ((32 * x1) + x2) 1024)
    (k7 : ∀ (g1 : ¬ ((mI M 26 4) ≤ x2)) (g2 : ¬ (mI M 40 x1.toNatClampNeg) = 0) (g4 : x103 = 0), E K_X7_isRound 12 [some (aR (some 26)), some (aI x1), some (aI (x2 + 1)), none] [] (wrI M1 49 ((32 * x1) + x2).toNatClampNeg 0) v M')
    (b8 : ∀ (g1 : ¬ ((mI M 26 4) ≤ x2)) (g2 : ¬ (mI M 40 x1.toNatClampNeg) = 0) (g4 : ¬ x103 = 0), vp_in ((32 * x1) + x2) 1024)
    (k9 : ∀ (g1 : ¬ ((mI M 26 4) ≤ x2)) (g2 : ¬ (mI M 40 x1.toNatClampNeg) = 0) (g4 : ¬ x103 = 0), E K_X7_isRound 12 [some (aR (some 26)), some (aI x1), some (aI (x2 + 1)), none] [] (wrI M1 49 ((32 * x1) + x2).toNatClampNeg 1) v M') :
    E K_X7_isRound 12 [some (aR (some 26)), some (aI x1), some (aI x2), none] [] M v M' := by
  refine e_iload_n dX7_isRound_12 rfl ?_
  refine e_aload_n dX7_isRound_13 rfl ?_
  refine e_get ff_7_4 hS.l26 w839 dX7_isRound_14 (w := aI (mI M 26 4)) rfl ?_
  refine e_icmp_ge (tgt := 60) dX7_isRound_17 rfl (fun g1 => ?_) (fun g1 => ?_)
  ·
    refine e_iinc dX7_isRound_60 rfl ?_
    show E K_X7_isRound 63 [some (aR (some 26)), some (aI (x1 + 1)), some (aI x2), none] [] M v M'
    refine e_goto (tgt := 2) dX7_isRound_63 rfl ?_
    exact (k1 g1)
  ·
    refine e_aload_n dX7_isRound_20 rfl ?_
    refine e_get ff_7_25 hS.l26 w860 dX7_isRound_21 (w := aR (some 49)) hS.f26_25 ?_
    refine e_bipush (u := 32) dX7_isRound_24 (by decide) ?_
    refine e_iload_n dX7_isRound_26 rfl ?_
    refine e_imul dX7_isRound_27 ?_
    refine e_iload_n dX7_isRound_28 rfl ?_
    refine e_iadd dX7_isRound_29 ?_
    refine e_aload_n dX7_isRound_30 rfl ?_
    refine e_get ff_7_16 hS.l26 w851 dX7_isRound_31 (w := aR (some 40)) hS.f26_16 ?_
    refine e_iload_n dX7_isRound_34 rfl ?_
    refine e_zald hS.l40 (hS.b40 (b2 g1)) dX7_isRound_35 ?_
    refine e_if_eq (tgt := 52) dX7_isRound_36 rfl (fun g2 => ?_) (fun g2 => ?_)
    ·
      refine e_iconst (u := 0) dX7_isRound_52 (by decide) ?_
      refine e_zast hS.l49 (hS.b49 (b3 g1 g2)) (Or.inl rfl) dX7_isRound_53 ?_
      refine e_iinc dX7_isRound_54 rfl ?_
      show E K_X7_isRound 57 [some (aR (some 26)), some (aI x1), some (aI (x2 + 1)), none] [] (wrI M 49 ((32 * x1) + x2).toNatClampNeg 0) v M'
      refine e_goto (tgt := 12) dX7_isRound_57 rfl ?_
      exact (k4 g1 g2)
    ·
      refine e_aload_n dX7_isRound_39 rfl ?_
      refine e_iload_n dX7_isRound_40 rfl ?_
      refine e_iload_n dX7_isRound_41 rfl ?_
      refine e_callV (As := [aI x1, aI x2]) (rest := [aI ((32 * x1) + x2), aR (some 49)]) vk_X7_calls hS.l26 w1055 ⟨by decide, by decide⟩ (Nat.le_of_ble_eq_true rfl) dX7_isRound_42 (c5 g1 g2) ?_
      show E K_X7_isRound 45 [some (aR (some 26)), some (aI x1), some (aI x2), none] [aI x103, aI ((32 * x1) + x2), aR (some 49)] M1 v M'
      have hS_1 : St M1 := St.sh (M := M) (c5 g1 g2).2.1 hS
      refine e_if_eq (tgt := 52) dX7_isRound_45 rfl (fun g4 => ?_) (fun g4 => ?_)
      ·
        refine e_iconst (u := 0) dX7_isRound_52 (by decide) ?_
        refine e_zast hS_1.l49 (hS_1.b49 (b6 g1 g2 g4)) (Or.inl rfl) dX7_isRound_53 ?_
        refine e_iinc dX7_isRound_54 rfl ?_
        show E K_X7_isRound 57 [some (aR (some 26)), some (aI x1), some (aI (x2 + 1)), none] [] (wrI M1 49 ((32 * x1) + x2).toNatClampNeg 0) v M'
        refine e_goto (tgt := 12) dX7_isRound_57 rfl ?_
        exact (k7 g1 g2 g4)
      ·
        refine e_iconst (u := 1) dX7_isRound_48 (by decide) ?_
        refine e_goto (tgt := 53) dX7_isRound_49 rfl ?_
        refine e_zast hS_1.l49 (hS_1.b49 (b8 g1 g2 g4)) (Or.inr rfl) dX7_isRound_53 ?_
        refine e_iinc dX7_isRound_54 rfl ?_
        show E K_X7_isRound 57 [some (aR (some 26)), some (aI x1), some (aI (x2 + 1)), none] [] (wrI M1 49 ((32 * x1) + x2).toNatClampNeg 1) v M'
        refine e_goto (tgt := 12) dX7_isRound_57 rfl ?_
        exact (k9 g1 g2 g4)

set_option maxRecDepth 20000 in
theorem s_X7_isRound_68 {M M' : AM} {v : Option AV} {x1 : Int32} (hS : St M)
    (k1 : ∀ (g1 : (mI M 26 4) ≤ x1), E K_X7_isRound 165 [some (aR (some 26)), some (aI 0), some (aI 0), none] [] M v M')
    (k2 : ∀ (g1 : ¬ ((mI M 26 4) ≤ x1)), E K_X7_isRound 78 [some (aR (some 26)), some (aI x1), some (aI 0), none] [] M v M') :
    E K_X7_isRound 68 [some (aR (some 26)), some (aI x1), none, none] [] M v M' := by
  refine e_iload_n dX7_isRound_68 rfl ?_
  refine e_aload_n dX7_isRound_69 rfl ?_
  refine e_get ff_7_4 hS.l26 w839 dX7_isRound_70 (w := aI (mI M 26 4)) rfl ?_
  refine e_icmp_ge (tgt := 161) dX7_isRound_73 rfl (fun g1 => ?_) (fun g1 => ?_)
  ·
    refine e_iconst (u := 0) dX7_isRound_161 (by decide) ?_
    refine e_istore_n dX7_isRound_162 (Nat.le_of_ble_eq_true rfl) ?_
    show E K_X7_isRound 163 [some (aR (some 26)), some (aI 0), none, none] [] M v M'
    refine e_iconst (u := 0) dX7_isRound_163 (by decide) ?_
    refine e_istore_n dX7_isRound_164 (Nat.le_of_ble_eq_true rfl) ?_
    show E K_X7_isRound 165 [some (aR (some 26)), some (aI 0), some (aI 0), none] [] M v M'
    exact (k1 g1)
  ·
    refine e_iconst (u := 0) dX7_isRound_76 (by decide) ?_
    refine e_istore_n dX7_isRound_77 (Nat.le_of_ble_eq_true rfl) ?_
    show E K_X7_isRound 78 [some (aR (some 26)), some (aI x1), some (aI 0), none] [] M v M'
    exact (k2 g1)

set_option maxRecDepth 20000 in
theorem s_X7_isRound_78 {M M' : AM} {v : Option AV} {x1 : Int32} {x2 : Int32} (hS : St M)
    (k1 : ∀ (g1 : (mI M 26 4) ≤ x2), E K_X7_isRound 68 [some (aR (some 26)), some (aI (x1 + 1)), some (aI x2), none] [] M v M')
    (k2 : ∀ (g1 : ¬ ((mI M 26 4) ≤ x2)), E K_X7_isRound 88 [some (aR (some 26)), some (aI x1), some (aI x2), some (aI 0)] [] M v M') :
    E K_X7_isRound 78 [some (aR (some 26)), some (aI x1), some (aI x2), none] [] M v M' := by
  refine e_iload_n dX7_isRound_78 rfl ?_
  refine e_aload_n dX7_isRound_79 rfl ?_
  refine e_get ff_7_4 hS.l26 w839 dX7_isRound_80 (w := aI (mI M 26 4)) rfl ?_
  refine e_icmp_ge (tgt := 155) dX7_isRound_83 rfl (fun g1 => ?_) (fun g1 => ?_)
  ·
    refine e_iinc dX7_isRound_155 rfl ?_
    show E K_X7_isRound 158 [some (aR (some 26)), some (aI (x1 + 1)), some (aI x2), none] [] M v M'
    refine e_goto (tgt := 68) dX7_isRound_158 rfl ?_
    exact (k1 g1)
  ·
    refine e_iconst (u := 0) dX7_isRound_86 (by decide) ?_
    refine e_istore_n dX7_isRound_87 (Nat.le_of_ble_eq_true rfl) ?_
    show E K_X7_isRound 88 [some (aR (some 26)), some (aI x1), some (aI x2), some (aI 0)] [] M v M'
    exact (k2 g1)

set_option maxRecDepth 20000 in
theorem s_X7_isRound_88 {M M' : AM} {v : Option AV} {x1 : Int32} {x2 : Int32} {x3 : Int32} (hS : St M)
    (k1 : ∀ (g1 : (mI M 26 4) ≤ x3), E K_X7_isRound 78 [some (aR (some 26)), some (aI x1), some (aI (x2 + 1)), some (aI x3)] [] M v M')
    (b2 : ∀ (g1 : ¬ ((mI M 26 4) ≤ x3)), vp_in ((32 * x2) + x3) 1024)
    (b3 : ∀ (g1 : ¬ ((mI M 26 4) ≤ x3)), vp_in ((32 * x2) + x1) 1024)
    (z4 : ∀ (g1 : ¬ ((mI M 26 4) ≤ x3)) (g2 : (mI M 49 ((32 * x2) + x1).toNatClampNeg) = 0), ((mI M 49 ((32 * x2) + x3).toNatClampNeg) ||| 0) = 0 ∨ ((mI M 49 ((32 * x2) + x3).toNatClampNeg) ||| 0) = 1)
    (k5 : ∀ (g1 : ¬ ((mI M 26 4) ≤ x3)) (g2 : (mI M 49 ((32 * x2) + x1).toNatClampNeg) = 0), E K_X7_isRound 88 [some (aR (some 26)), some (aI x1), some (aI x2), some (aI (x3 + 1))] [] (wrI M 49 ((32 * x2) + x3).toNatClampNeg ((mI M 49 ((32 * x2) + x3).toNatClampNeg) ||| 0)) v M')
    (b6 : ∀ (g1 : ¬ ((mI M 26 4) ≤ x3)) (g2 : ¬ (mI M 49 ((32 * x2) + x1).toNatClampNeg) = 0), vp_in ((32 * x1) + x3) 1024)
    (z7 : ∀ (g1 : ¬ ((mI M 26 4) ≤ x3)) (g2 : ¬ (mI M 49 ((32 * x2) + x1).toNatClampNeg) = 0) (g3 : (mI M 49 ((32 * x1) + x3).toNatClampNeg) = 0), ((mI M 49 ((32 * x2) + x3).toNatClampNeg) ||| 0) = 0 ∨ ((mI M 49 ((32 * x2) + x3).toNatClampNeg) ||| 0) = 1)
    (k8 : ∀ (g1 : ¬ ((mI M 26 4) ≤ x3)) (g2 : ¬ (mI M 49 ((32 * x2) + x1).toNatClampNeg) = 0) (g3 : (mI M 49 ((32 * x1) + x3).toNatClampNeg) = 0), E K_X7_isRound 88 [some (aR (some 26)), some (aI x1), some (aI x2), some (aI (x3 + 1))] [] (wrI M 49 ((32 * x2) + x3).toNatClampNeg ((mI M 49 ((32 * x2) + x3).toNatClampNeg) ||| 0)) v M')
    (z9 : ∀ (g1 : ¬ ((mI M 26 4) ≤ x3)) (g2 : ¬ (mI M 49 ((32 * x2) + x1).toNatClampNeg) = 0) (g3 : ¬ (mI M 49 ((32 * x1) + x3).toNatClampNeg) = 0), ((mI M 49 ((32 * x2) + x3).toNatClampNeg) ||| 1) = 0 ∨ ((mI M 49 ((32 * x2) + x3).toNatClampNeg) ||| 1) = 1)
    (k10 : ∀ (g1 : ¬ ((mI M 26 4) ≤ x3)) (g2 : ¬ (mI M 49 ((32 * x2) + x1).toNatClampNeg) = 0) (g3 : ¬ (mI M 49 ((32 * x1) + x3).toNatClampNeg) = 0), E K_X7_isRound 88 [some (aR (some 26)), some (aI x1), some (aI x2), some (aI (x3 + 1))] [] (wrI M 49 ((32 * x2) + x3).toNatClampNeg ((mI M 49 ((32 * x2) + x3).toNatClampNeg) ||| 1)) v M') :
    E K_X7_isRound 88 [some (aR (some 26)), some (aI x1), some (aI x2), some (aI x3)] [] M v M' := by
  refine e_iload_n dX7_isRound_88 rfl ?_
  refine e_aload_n dX7_isRound_89 rfl ?_
  refine e_get ff_7_4 hS.l26 w839 dX7_isRound_90 (w := aI (mI M 26 4)) rfl ?_
  refine e_icmp_ge (tgt := 149) dX7_isRound_93 rfl (fun g1 => ?_) (fun g1 => ?_)
  ·
    refine e_iinc dX7_isRound_149 rfl ?_
    show E K_X7_isRound 152 [some (aR (some 26)), some (aI x1), some (aI (x2 + 1)), some (aI x3)] [] M v M'
    refine e_goto (tgt := 78) dX7_isRound_152 rfl ?_
    exact (k1 g1)
  ·
    refine e_aload_n dX7_isRound_96 rfl ?_
    refine e_get ff_7_25 hS.l26 w860 dX7_isRound_97 (w := aR (some 49)) hS.f26_25 ?_
    refine e_bipush (u := 32) dX7_isRound_100 (by decide) ?_
    refine e_iload_n dX7_isRound_102 rfl ?_
    refine e_imul dX7_isRound_103 ?_
    refine e_iload_n dX7_isRound_104 rfl ?_
    refine e_iadd dX7_isRound_105 ?_
    refine e_dup2RI dX7_isRound_106 ?_
    refine e_zald hS.l49 (hS.b49 (b2 g1)) dX7_isRound_107 ?_
    refine e_aload_n dX7_isRound_108 rfl ?_
    refine e_get ff_7_25 hS.l26 w860 dX7_isRound_109 (w := aR (some 49)) hS.f26_25 ?_
    refine e_bipush (u := 32) dX7_isRound_112 (by decide) ?_
    refine e_iload_n dX7_isRound_114 rfl ?_
    refine e_imul dX7_isRound_115 ?_
    refine e_iload_n dX7_isRound_116 rfl ?_
    refine e_iadd dX7_isRound_117 ?_
    refine e_zald hS.l49 (hS.b49 (b3 g1)) dX7_isRound_118 ?_
    refine e_if_eq (tgt := 140) dX7_isRound_119 rfl (fun g2 => ?_) (fun g2 => ?_)
    ·
      refine e_iconst (u := 0) dX7_isRound_140 (by decide) ?_
      refine e_ior dX7_isRound_141 ?_
      refine e_zast hS.l49 (hS.b49 (b2 g1)) (z4 g1 g2) dX7_isRound_142 ?_
      refine e_iinc dX7_isRound_143 rfl ?_
      show E K_X7_isRound 146 [some (aR (some 26)), some (aI x1), some (aI x2), some (aI (x3 + 1))] [] (wrI M 49 ((32 * x2) + x3).toNatClampNeg ((mI M 49 ((32 * x2) + x3).toNatClampNeg) ||| 0)) v M'
      refine e_goto (tgt := 88) dX7_isRound_146 rfl ?_
      exact (k5 g1 g2)
    ·
      refine e_aload_n dX7_isRound_122 rfl ?_
      refine e_get ff_7_25 hS.l26 w860 dX7_isRound_123 (w := aR (some 49)) hS.f26_25 ?_
      refine e_bipush (u := 32) dX7_isRound_126 (by decide) ?_
      refine e_iload_n dX7_isRound_128 rfl ?_
      refine e_imul dX7_isRound_129 ?_
      refine e_iload_n dX7_isRound_130 rfl ?_
      refine e_iadd dX7_isRound_131 ?_
      refine e_zald hS.l49 (hS.b49 (b6 g1 g2)) dX7_isRound_132 ?_
      refine e_if_eq (tgt := 140) dX7_isRound_133 rfl (fun g3 => ?_) (fun g3 => ?_)
      ·
        refine e_iconst (u := 0) dX7_isRound_140 (by decide) ?_
        refine e_ior dX7_isRound_141 ?_
        refine e_zast hS.l49 (hS.b49 (b2 g1)) (z7 g1 g2 g3) dX7_isRound_142 ?_
        refine e_iinc dX7_isRound_143 rfl ?_
        show E K_X7_isRound 146 [some (aR (some 26)), some (aI x1), some (aI x2), some (aI (x3 + 1))] [] (wrI M 49 ((32 * x2) + x3).toNatClampNeg ((mI M 49 ((32 * x2) + x3).toNatClampNeg) ||| 0)) v M'
        refine e_goto (tgt := 88) dX7_isRound_146 rfl ?_
        exact (k8 g1 g2 g3)
      ·
        refine e_iconst (u := 1) dX7_isRound_136 (by decide) ?_
        refine e_goto (tgt := 141) dX7_isRound_137 rfl ?_
        refine e_ior dX7_isRound_141 ?_
        refine e_zast hS.l49 (hS.b49 (b2 g1)) (z9 g1 g2 g3) dX7_isRound_142 ?_
        refine e_iinc dX7_isRound_143 rfl ?_
        show E K_X7_isRound 146 [some (aR (some 26)), some (aI x1), some (aI x2), some (aI (x3 + 1))] [] (wrI M 49 ((32 * x2) + x3).toNatClampNeg ((mI M 49 ((32 * x2) + x3).toNatClampNeg) ||| 1)) v M'
        refine e_goto (tgt := 88) dX7_isRound_146 rfl ?_
        exact (k10 g1 g2 g3)

set_option maxRecDepth 20000 in
theorem s_X7_isRound_165 {M M' : AM} {v : Option AV} {x1 : Int32} {x2 : Int32} (hS : St M)
    (k1 : ∀ (g1 : (mI M 26 4) ≤ x2), some (aI x1) = v ∧ M = M')
    (z2 : ∀ (g1 : (mI M 26 4) ≤ x2), x1 = 0 ∨ x1 = 1)
    (b3 : ∀ (g1 : ¬ ((mI M 26 4) ≤ x2)), vp_in x2 32)
    (k4 : ∀ (g1 : ¬ ((mI M 26 4) ≤ x2)) (g2 : (mI M 40 x2.toNatClampNeg) = 0), E K_X7_isRound 165 [some (aR (some 26)), some (aI (x1 ||| (mI (wrI M 42 x2.toNatClampNeg 0) 42 x2.toNatClampNeg))), some (aI (x2 + 1)), none] [] (wrI M 42 x2.toNatClampNeg 0) v M')
    (b5 : ∀ (g1 : ¬ ((mI M 26 4) ≤ x2)) (g2 : ¬ (mI M 40 x2.toNatClampNeg) = 0), vp_in ((32 * x2) + x2) 1024)
    (k6 : ∀ (g1 : ¬ ((mI M 26 4) ≤ x2)) (g2 : ¬ (mI M 40 x2.toNatClampNeg) = 0) (g3 : (mI M 49 ((32 * x2) + x2).toNatClampNeg) = 0), E K_X7_isRound 165 [some (aR (some 26)), some (aI (x1 ||| (mI (wrI M 42 x2.toNatClampNeg 0) 42 x2.toNatClampNeg))), some (aI (x2 + 1)), none] [] (wrI M 42 x2.toNatClampNeg 0) v M')
    (k7 : ∀ (g1 : ¬ ((mI M 26 4) ≤ x2)) (g2 : ¬ (mI M 40 x2.toNatClampNeg) = 0) (g3 : ¬ (mI M 49 ((32 * x2) + x2).toNatClampNeg) = 0), E K_X7_isRound 165 [some (aR (some 26)), some (aI (x1 ||| (mI (wrI M 42 x2.toNatClampNeg 1) 42 x2.toNatClampNeg))), some (aI (x2 + 1)), none] [] (wrI M 42 x2.toNatClampNeg 1) v M') :
    E K_X7_isRound 165 [some (aR (some 26)), some (aI x1), some (aI x2), none] [] M v M' := by
  refine e_iload_n dX7_isRound_165 rfl ?_
  refine e_aload_n dX7_isRound_166 rfl ?_
  refine e_get ff_7_4 hS.l26 w839 dX7_isRound_167 (w := aI (mI M 26 4)) rfl ?_
  refine e_icmp_ge (tgt := 222) dX7_isRound_170 rfl (fun g1 => ?_) (fun g1 => ?_)
  ·
    refine e_iload_n dX7_isRound_222 rfl ?_
    exact e_zret rfl (z2 g1) dX7_isRound_223 (k1 g1)
  ·
    refine e_aload_n dX7_isRound_173 rfl ?_
    refine e_get ff_7_18 hS.l26 w853 dX7_isRound_174 (w := aR (some 42)) hS.f26_18 ?_
    refine e_iload_n dX7_isRound_177 rfl ?_
    refine e_aload_n dX7_isRound_178 rfl ?_
    refine e_get ff_7_16 hS.l26 w851 dX7_isRound_179 (w := aR (some 40)) hS.f26_16 ?_
    refine e_iload_n dX7_isRound_182 rfl ?_
    refine e_zald hS.l40 (hS.b40 (b3 g1)) dX7_isRound_183 ?_
    refine e_if_eq (tgt := 205) dX7_isRound_184 rfl (fun g2 => ?_) (fun g2 => ?_)
    ·
      refine e_iconst (u := 0) dX7_isRound_205 (by decide) ?_
      refine e_zast hS.l42 (hS.b42 (b3 g1)) (Or.inl rfl) dX7_isRound_206 ?_
      refine e_iload_n dX7_isRound_207 rfl ?_
      refine e_aload_n dX7_isRound_208 rfl ?_
      refine e_get ff_7_18 hS.l26 w853 dX7_isRound_209 (w := aR (some 42)) hS.f26_18 ?_
      refine e_iload_n dX7_isRound_212 rfl ?_
      refine e_zald hS.l42 (hS.b42 (b3 g1)) dX7_isRound_213 ?_
      show E K_X7_isRound 214 [some (aR (some 26)), some (aI x1), some (aI x2), none] [aI (mI (wrI M 42 x2.toNatClampNeg 0) 42 x2.toNatClampNeg), aI x1] (wrI M 42 x2.toNatClampNeg 0) v M'
      refine e_ior dX7_isRound_214 ?_
      refine e_istore_n dX7_isRound_215 (Nat.le_of_ble_eq_true rfl) ?_
      show E K_X7_isRound 216 [some (aR (some 26)), some (aI (x1 ||| (mI (wrI M 42 x2.toNatClampNeg 0) 42 x2.toNatClampNeg))), some (aI x2), none] [] (wrI M 42 x2.toNatClampNeg 0) v M'
      refine e_iinc dX7_isRound_216 rfl ?_
      show E K_X7_isRound 219 [some (aR (some 26)), some (aI (x1 ||| (mI (wrI M 42 x2.toNatClampNeg 0) 42 x2.toNatClampNeg))), some (aI (x2 + 1)), none] [] (wrI M 42 x2.toNatClampNeg 0) v M'
      refine e_goto (tgt := 165) dX7_isRound_219 rfl ?_
      exact (k4 g1 g2)
    ·
      refine e_aload_n dX7_isRound_187 rfl ?_
      refine e_get ff_7_25 hS.l26 w860 dX7_isRound_188 (w := aR (some 49)) hS.f26_25 ?_
      refine e_bipush (u := 32) dX7_isRound_191 (by decide) ?_
      refine e_iload_n dX7_isRound_193 rfl ?_
      refine e_imul dX7_isRound_194 ?_
      refine e_iload_n dX7_isRound_195 rfl ?_
      refine e_iadd dX7_isRound_196 ?_
      refine e_zald hS.l49 (hS.b49 (b5 g1 g2)) dX7_isRound_197 ?_
      refine e_if_eq (tgt := 205) dX7_isRound_198 rfl (fun g3 => ?_) (fun g3 => ?_)
      ·
        refine e_iconst (u := 0) dX7_isRound_205 (by decide) ?_
        refine e_zast hS.l42 (hS.b42 (b3 g1)) (Or.inl rfl) dX7_isRound_206 ?_
        refine e_iload_n dX7_isRound_207 rfl ?_
        refine e_aload_n dX7_isRound_208 rfl ?_
        refine e_get ff_7_18 hS.l26 w853 dX7_isRound_209 (w := aR (some 42)) hS.f26_18 ?_
        refine e_iload_n dX7_isRound_212 rfl ?_
        refine e_zald hS.l42 (hS.b42 (b3 g1)) dX7_isRound_213 ?_
        show E K_X7_isRound 214 [some (aR (some 26)), some (aI x1), some (aI x2), none] [aI (mI (wrI M 42 x2.toNatClampNeg 0) 42 x2.toNatClampNeg), aI x1] (wrI M 42 x2.toNatClampNeg 0) v M'
        refine e_ior dX7_isRound_214 ?_
        refine e_istore_n dX7_isRound_215 (Nat.le_of_ble_eq_true rfl) ?_
        show E K_X7_isRound 216 [some (aR (some 26)), some (aI (x1 ||| (mI (wrI M 42 x2.toNatClampNeg 0) 42 x2.toNatClampNeg))), some (aI x2), none] [] (wrI M 42 x2.toNatClampNeg 0) v M'
        refine e_iinc dX7_isRound_216 rfl ?_
        show E K_X7_isRound 219 [some (aR (some 26)), some (aI (x1 ||| (mI (wrI M 42 x2.toNatClampNeg 0) 42 x2.toNatClampNeg))), some (aI (x2 + 1)), none] [] (wrI M 42 x2.toNatClampNeg 0) v M'
        refine e_goto (tgt := 165) dX7_isRound_219 rfl ?_
        exact (k6 g1 g2 g3)
      ·
        refine e_iconst (u := 1) dX7_isRound_201 (by decide) ?_
        refine e_goto (tgt := 206) dX7_isRound_202 rfl ?_
        refine e_zast hS.l42 (hS.b42 (b3 g1)) (Or.inr rfl) dX7_isRound_206 ?_
        refine e_iload_n dX7_isRound_207 rfl ?_
        refine e_aload_n dX7_isRound_208 rfl ?_
        refine e_get ff_7_18 hS.l26 w853 dX7_isRound_209 (w := aR (some 42)) hS.f26_18 ?_
        refine e_iload_n dX7_isRound_212 rfl ?_
        refine e_zald hS.l42 (hS.b42 (b3 g1)) dX7_isRound_213 ?_
        show E K_X7_isRound 214 [some (aR (some 26)), some (aI x1), some (aI x2), none] [aI (mI (wrI M 42 x2.toNatClampNeg 1) 42 x2.toNatClampNeg), aI x1] (wrI M 42 x2.toNatClampNeg 1) v M'
        refine e_ior dX7_isRound_214 ?_
        refine e_istore_n dX7_isRound_215 (Nat.le_of_ble_eq_true rfl) ?_
        show E K_X7_isRound 216 [some (aR (some 26)), some (aI (x1 ||| (mI (wrI M 42 x2.toNatClampNeg 1) 42 x2.toNatClampNeg))), some (aI x2), none] [] (wrI M 42 x2.toNatClampNeg 1) v M'
        refine e_iinc dX7_isRound_216 rfl ?_
        show E K_X7_isRound 219 [some (aR (some 26)), some (aI (x1 ||| (mI (wrI M 42 x2.toNatClampNeg 1) 42 x2.toNatClampNeg))), some (aI (x2 + 1)), none] [] (wrI M 42 x2.toNatClampNeg 1) v M'
        refine e_goto (tgt := 165) dX7_isRound_219 rfl ?_
        exact (k7 g1 g2 g3)

set_option maxRecDepth 20000 in
theorem s_X7_boundAll_0 {M M' : AM} {v : Option AV} (hS : St M)
    (k1 : E K_X7_boundAll 2 [some (aR (some 26)), some (aI 1), none, none, none] [] M v M') :
    Ev K_X7_boundAll [aR (some 26)] M v M' := by
  refine ⟨Nat.le_of_ble_eq_true rfl, ?_⟩
  show E K_X7_boundAll 0 [some (aR (some 26)), none, none, none, none] [] M v M'
  refine e_iconst (u := 1) dX7_boundAll_0 (by decide) ?_
  refine e_istore_n dX7_boundAll_1 (Nat.le_of_ble_eq_true rfl) ?_
  show E K_X7_boundAll 2 [some (aR (some 26)), some (aI 1), none, none, none] [] M v M'
  exact k1

set_option maxRecDepth 20000 in
theorem s_X7_boundAll_2 {M M' : AM} {v : Option AV} {x1 : Int32} (hS : St M)
    (k1 : ∀ (g1 : x1 = 0), E K_X7_boundAll 119 [some (aR (some 26)), some (aI x1), some (aI 0), some (aI 0), none] [] M v M')
    (k2 : ∀ (g1 : ¬ x1 = 0), E K_X7_boundAll 10 [some (aR (some 26)), some (aI 0), some (aI 0), none, none] [] M v M') :
    E K_X7_boundAll 2 [some (aR (some 26)), some (aI x1), none, none, none] [] M v M' := by
  refine e_iload_n dX7_boundAll_2 rfl ?_
  refine e_if_eq (tgt := 115) dX7_boundAll_3 rfl (fun g1 => ?_) (fun g1 => ?_)
  ·
    refine e_iconst (u := 0) dX7_boundAll_115 (by decide) ?_
    refine e_istore_n dX7_boundAll_116 (Nat.le_of_ble_eq_true rfl) ?_
    show E K_X7_boundAll 117 [some (aR (some 26)), some (aI x1), some (aI 0), none, none] [] M v M'
    refine e_iconst (u := 0) dX7_boundAll_117 (by decide) ?_
    refine e_istore_n dX7_boundAll_118 (Nat.le_of_ble_eq_true rfl) ?_
    show E K_X7_boundAll 119 [some (aR (some 26)), some (aI x1), some (aI 0), some (aI 0), none] [] M v M'
    exact (k1 g1)
  ·
    refine e_iconst (u := 0) dX7_boundAll_6 (by decide) ?_
    refine e_istore_n dX7_boundAll_7 (Nat.le_of_ble_eq_true rfl) ?_
    show E K_X7_boundAll 8 [some (aR (some 26)), some (aI 0), none, none, none] [] M v M'
    refine e_iconst (u := 0) dX7_boundAll_8 (by decide) ?_
    refine e_istore_n dX7_boundAll_9 (Nat.le_of_ble_eq_true rfl) ?_
    show E K_X7_boundAll 10 [some (aR (some 26)), some (aI 0), some (aI 0), none, none] [] M v M'
    exact (k2 g1)

set_option maxRecDepth 20000 in
theorem s_X7_boundAll_10 {M M' : AM} {v : Option AV} {x1 : Int32} {x2 : Int32} (hS : St M)
    (k1 : ∀ (g1 : (mI M 26 4) ≤ x2), E K_X7_boundAll 2 [some (aR (some 26)), some (aI x1), some (aI x2), none, none] [] M v M')
    (b2 : ∀ (g1 : ¬ ((mI M 26 4) ≤ x2)), vp_in x2 32)
    (k3 : ∀ (g1 : ¬ ((mI M 26 4) ≤ x2)) (g2 : (mI M 40 x2.toNatClampNeg) = 0), E K_X7_boundAll 45 [some (aR (some 26)), some (aI x1), some (aI x2), some (aI 0), some (aI 0)] [] M v M')
    (k4 : ∀ (g1 : ¬ ((mI M 26 4) ≤ x2)) (g2 : ¬ (mI M 40 x2.toNatClampNeg) = 0) (g3 : ¬ (mI M 43 x2.toNatClampNeg) = 0), E K_X7_boundAll 45 [some (aR (some 26)), some (aI x1), some (aI x2), some (aI 0), some (aI 0)] [] M v M')
    (k5 : ∀ (g1 : ¬ ((mI M 26 4) ≤ x2)) (g2 : ¬ (mI M 40 x2.toNatClampNeg) = 0) (g3 : (mI M 43 x2.toNatClampNeg) = 0), E K_X7_boundAll 45 [some (aR (some 26)), some (aI x1), some (aI x2), some (aI 1), some (aI 0)] [] M v M') :
    E K_X7_boundAll 10 [some (aR (some 26)), some (aI x1), some (aI x2), none, none] [] M v M' := by
  refine e_iload_n dX7_boundAll_10 rfl ?_
  refine e_aload_n dX7_boundAll_11 rfl ?_
  refine e_get ff_7_4 hS.l26 w839 dX7_boundAll_12 (w := aI (mI M 26 4)) rfl ?_
  refine e_icmp_ge (tgt := 112) dX7_boundAll_15 rfl (fun g1 => ?_) (fun g1 => ?_)
  ·
    refine e_goto (tgt := 2) dX7_boundAll_112 rfl ?_
    exact (k1 g1)
  ·
    refine e_aload_n dX7_boundAll_18 rfl ?_
    refine e_get ff_7_16 hS.l26 w851 dX7_boundAll_19 (w := aR (some 40)) hS.f26_16 ?_
    refine e_iload_n dX7_boundAll_22 rfl ?_
    refine e_zald hS.l40 (hS.b40 (b2 g1)) dX7_boundAll_23 ?_
    refine e_if_eq (tgt := 40) dX7_boundAll_24 rfl (fun g2 => ?_) (fun g2 => ?_)
    ·
      refine e_iconst (u := 0) dX7_boundAll_40 (by decide) ?_
      refine e_istore_n dX7_boundAll_41 (Nat.le_of_ble_eq_true rfl) ?_
      show E K_X7_boundAll 42 [some (aR (some 26)), some (aI x1), some (aI x2), some (aI 0), none] [] M v M'
      refine e_iconst (u := 0) dX7_boundAll_42 (by decide) ?_
      refine e_istore dX7_boundAll_43 (Nat.le_of_ble_eq_true rfl) ?_
      show E K_X7_boundAll 45 [some (aR (some 26)), some (aI x1), some (aI x2), some (aI 0), some (aI 0)] [] M v M'
      exact (k3 g1 g2)
    ·
      refine e_aload_n dX7_boundAll_27 rfl ?_
      refine e_get ff_7_19 hS.l26 w854 dX7_boundAll_28 (w := aR (some 43)) hS.f26_19 ?_
      refine e_iload_n dX7_boundAll_31 rfl ?_
      refine e_zald hS.l43 (hS.b43 (b2 g1)) dX7_boundAll_32 ?_
      refine e_if_ne (tgt := 40) dX7_boundAll_33 rfl (fun g3 => ?_) (fun g3 => ?_)
      ·
        refine e_iconst (u := 0) dX7_boundAll_40 (by decide) ?_
        refine e_istore_n dX7_boundAll_41 (Nat.le_of_ble_eq_true rfl) ?_
        show E K_X7_boundAll 42 [some (aR (some 26)), some (aI x1), some (aI x2), some (aI 0), none] [] M v M'
        refine e_iconst (u := 0) dX7_boundAll_42 (by decide) ?_
        refine e_istore dX7_boundAll_43 (Nat.le_of_ble_eq_true rfl) ?_
        show E K_X7_boundAll 45 [some (aR (some 26)), some (aI x1), some (aI x2), some (aI 0), some (aI 0)] [] M v M'
        exact (k4 g1 g2 g3)
      ·
        refine e_iconst (u := 1) dX7_boundAll_36 (by decide) ?_
        refine e_goto (tgt := 41) dX7_boundAll_37 rfl ?_
        refine e_istore_n dX7_boundAll_41 (Nat.le_of_ble_eq_true rfl) ?_
        show E K_X7_boundAll 42 [some (aR (some 26)), some (aI x1), some (aI x2), some (aI 1), none] [] M v M'
        refine e_iconst (u := 0) dX7_boundAll_42 (by decide) ?_
        refine e_istore dX7_boundAll_43 (Nat.le_of_ble_eq_true rfl) ?_
        show E K_X7_boundAll 45 [some (aR (some 26)), some (aI x1), some (aI x2), some (aI 1), some (aI 0)] [] M v M'
        exact (k5 g1 g2 g3)

set_option maxRecDepth 20000 in
theorem s_X7_boundAll_45 {M M' : AM} {v : Option AV} {x1 : Int32} {x2 : Int32} {x3 : Int32} {x4 : Int32} {M1 : AM} {M2 : AM} (hS : St M)
    (k1 : ∀ (g1 : (mI M 26 4) ≤ x4) (g2 : x3 = 0), E K_X7_boundAll 10 [some (aR (some 26)), some (aI x1), some (aI (x2 + 1)), some (aI x3), some (aI x4)] [] M v M')
    (c2 : ∀ (g1 : (mI M 26 4) ≤ x4) (g2 : ¬ x3 = 0), Ev K_X7_boundOne [aR (some 26), aI x2] M (none) M1)
    (k3 : ∀ (g1 : (mI M 26 4) ≤ x4) (g2 : ¬ x3 = 0), E K_X7_boundAll 10 [some (aR (some 26)), some (aI 1), some (aI (x2 + 1)), some (aI x3), some (aI x4)] [] M1 v M')
    (k4 : ∀ (g1 : ¬ ((mI M 26 4) ≤ x4)) (g3 : x3 = 0) (g4 : x3 = 0), E K_X7_boundAll 10 [some (aR (some 26)), some (aI x1), some (aI (x2 + 1)), some (aI x3), some (aI x4)] [] M v M')
    (c5 : ∀ (g1 : ¬ ((mI M 26 4) ≤ x4)) (g3 : x3 = 0) (g4 : ¬ x3 = 0), Ev K_X7_boundOne [aR (some 26), aI x2] M (none) M2)
    (k6 : ∀ (g1 : ¬ ((mI M 26 4) ≤ x4)) (g3 : x3 = 0) (g4 : ¬ x3 = 0), E K_X7_boundAll 10 [some (aR (some 26)), some (aI 1), some (aI (x2 + 1)), some (aI x3), some (aI x4)] [] M2 v M')
    (b7 : ∀ (g1 : ¬ ((mI M 26 4) ≤ x4)) (g3 : ¬ x3 = 0), vp_in ((32 * x2) + x4) 1024)
    (k8 : ∀ (g1 : ¬ ((mI M 26 4) ≤ x4)) (g3 : ¬ x3 = 0) (g5 : (mI M 49 ((32 * x2) + x4).toNatClampNeg) = 0), E K_X7_boundAll 45 [some (aR (some 26)), some (aI x1), some (aI x2), some (aI 1), some (aI (x4 + 1))] [] M v M')
    (b9 : ∀ (g1 : ¬ ((mI M 26 4) ≤ x4)) (g3 : ¬ x3 = 0) (g5 : ¬ (mI M 49 ((32 * x2) + x4).toNatClampNeg) = 0), vp_in x4 32)
    (k10 : ∀ (g1 : ¬ ((mI M 26 4) ≤ x4)) (g3 : ¬ x3 = 0) (g5 : ¬ (mI M 49 ((32 * x2) + x4).toNatClampNeg) = 0) (g6 : (mI M 43 x4.toNatClampNeg) = 0), E K_X7_boundAll 45 [some (aR (some 26)), some (aI x1), some (aI x2), some (aI 0), some (aI (x4 + 1))] [] M v M')
    (k11 : ∀ (g1 : ¬ ((mI M 26 4) ≤ x4)) (g3 : ¬ x3 = 0) (g5 : ¬ (mI M 49 ((32 * x2) + x4).toNatClampNeg) = 0) (g6 : ¬ (mI M 43 x4.toNatClampNeg) = 0), E K_X7_boundAll 45 [some (aR (some 26)), some (aI x1), some (aI x2), some (aI 1), some (aI (x4 + 1))] [] M v M') :
    E K_X7_boundAll 45 [some (aR (some 26)), some (aI x1), some (aI x2), some (aI x3), some (aI x4)] [] M v M' := by
  refine e_iload dX7_boundAll_45 rfl ?_
  refine e_aload_n dX7_boundAll_47 rfl ?_
  refine e_get ff_7_4 hS.l26 w839 dX7_boundAll_48 (w := aI (mI M 26 4)) rfl ?_
  refine e_icmp_ge (tgt := 95) dX7_boundAll_51 rfl (fun g1 => ?_) (fun g1 => ?_)
  ·
    refine e_iload_n dX7_boundAll_95 rfl ?_
    refine e_if_eq (tgt := 106) dX7_boundAll_96 rfl (fun g2 => ?_) (fun g2 => ?_)
    ·
      refine e_iinc dX7_boundAll_106 rfl ?_
      show E K_X7_boundAll 109 [some (aR (some 26)), some (aI x1), some (aI (x2 + 1)), some (aI x3), some (aI x4)] [] M v M'
      refine e_goto (tgt := 10) dX7_boundAll_109 rfl ?_
      exact (k1 g1 g2)
    ·
      refine e_aload_n dX7_boundAll_99 rfl ?_
      refine e_iload_n dX7_boundAll_100 rfl ?_
      refine e_callV (As := [aI x2]) (rest := []) vk_X7_boundOne hS.l26 w1067 ⟨by decide, by decide⟩ (Nat.le_of_ble_eq_true rfl) dX7_boundAll_101 (c2 g1 g2) ?_
      show E K_X7_boundAll 104 [some (aR (some 26)), some (aI x1), some (aI x2), some (aI x3), some (aI x4)] [] M1 v M'
      have hS_1 : St M1 := St.sh (M := M) (c2 g1 g2).2.1 hS
      refine e_iconst (u := 1) dX7_boundAll_104 (by decide) ?_
      refine e_istore_n dX7_boundAll_105 (Nat.le_of_ble_eq_true rfl) ?_
      show E K_X7_boundAll 106 [some (aR (some 26)), some (aI 1), some (aI x2), some (aI x3), some (aI x4)] [] M1 v M'
      refine e_iinc dX7_boundAll_106 rfl ?_
      show E K_X7_boundAll 109 [some (aR (some 26)), some (aI 1), some (aI (x2 + 1)), some (aI x3), some (aI x4)] [] M1 v M'
      refine e_goto (tgt := 10) dX7_boundAll_109 rfl ?_
      exact (k3 g1 g2)
  ·
    refine e_iload_n dX7_boundAll_54 rfl ?_
    refine e_if_eq (tgt := 95) dX7_boundAll_55 rfl (fun g3 => ?_) (fun g3 => ?_)
    ·
      refine e_iload_n dX7_boundAll_95 rfl ?_
      refine e_if_eq (tgt := 106) dX7_boundAll_96 rfl (fun g4 => ?_) (fun g4 => ?_)
      ·
        refine e_iinc dX7_boundAll_106 rfl ?_
        show E K_X7_boundAll 109 [some (aR (some 26)), some (aI x1), some (aI (x2 + 1)), some (aI x3), some (aI x4)] [] M v M'
        refine e_goto (tgt := 10) dX7_boundAll_109 rfl ?_
        exact (k4 g1 g3 g4)
      ·
        refine e_aload_n dX7_boundAll_99 rfl ?_
        refine e_iload_n dX7_boundAll_100 rfl ?_
        refine e_callV (As := [aI x2]) (rest := []) vk_X7_boundOne hS.l26 w1067 ⟨by decide, by decide⟩ (Nat.le_of_ble_eq_true rfl) dX7_boundAll_101 (c5 g1 g3 g4) ?_
        show E K_X7_boundAll 104 [some (aR (some 26)), some (aI x1), some (aI x2), some (aI x3), some (aI x4)] [] M2 v M'
        have hS_2 : St M2 := St.sh (M := M) (c5 g1 g3 g4).2.1 hS
        refine e_iconst (u := 1) dX7_boundAll_104 (by decide) ?_
        refine e_istore_n dX7_boundAll_105 (Nat.le_of_ble_eq_true rfl) ?_
        show E K_X7_boundAll 106 [some (aR (some 26)), some (aI 1), some (aI x2), some (aI x3), some (aI x4)] [] M2 v M'
        refine e_iinc dX7_boundAll_106 rfl ?_
        show E K_X7_boundAll 109 [some (aR (some 26)), some (aI 1), some (aI (x2 + 1)), some (aI x3), some (aI x4)] [] M2 v M'
        refine e_goto (tgt := 10) dX7_boundAll_109 rfl ?_
        exact (k6 g1 g3 g4)
    ·
      refine e_aload_n dX7_boundAll_58 rfl ?_
      refine e_get ff_7_25 hS.l26 w860 dX7_boundAll_59 (w := aR (some 49)) hS.f26_25 ?_
      refine e_bipush (u := 32) dX7_boundAll_62 (by decide) ?_
      refine e_iload_n dX7_boundAll_64 rfl ?_
      refine e_imul dX7_boundAll_65 ?_
      refine e_iload dX7_boundAll_66 rfl ?_
      refine e_iadd dX7_boundAll_68 ?_
      refine e_zald hS.l49 (hS.b49 (b7 g1 g3)) dX7_boundAll_69 ?_
      refine e_if_eq (tgt := 83) dX7_boundAll_70 rfl (fun g5 => ?_) (fun g5 => ?_)
      ·
        refine e_iconst (u := 1) dX7_boundAll_83 (by decide) ?_
        refine e_goto (tgt := 88) dX7_boundAll_84 rfl ?_
        refine e_istore_n dX7_boundAll_88 (Nat.le_of_ble_eq_true rfl) ?_
        show E K_X7_boundAll 89 [some (aR (some 26)), some (aI x1), some (aI x2), some (aI 1), some (aI x4)] [] M v M'
        refine e_iinc dX7_boundAll_89 rfl ?_
        show E K_X7_boundAll 92 [some (aR (some 26)), some (aI x1), some (aI x2), some (aI 1), some (aI (x4 + 1))] [] M v M'
        refine e_goto (tgt := 45) dX7_boundAll_92 rfl ?_
        exact (k8 g1 g3 g5)
      ·
        refine e_aload_n dX7_boundAll_73 rfl ?_
        refine e_get ff_7_19 hS.l26 w854 dX7_boundAll_74 (w := aR (some 43)) hS.f26_19 ?_
        refine e_iload dX7_boundAll_77 rfl ?_
        refine e_zald hS.l43 (hS.b43 (b9 g1 g3 g5)) dX7_boundAll_79 ?_
        refine e_if_eq (tgt := 87) dX7_boundAll_80 rfl (fun g6 => ?_) (fun g6 => ?_)
        ·
          refine e_iconst (u := 0) dX7_boundAll_87 (by decide) ?_
          refine e_istore_n dX7_boundAll_88 (Nat.le_of_ble_eq_true rfl) ?_
          show E K_X7_boundAll 89 [some (aR (some 26)), some (aI x1), some (aI x2), some (aI 0), some (aI x4)] [] M v M'
          refine e_iinc dX7_boundAll_89 rfl ?_
          show E K_X7_boundAll 92 [some (aR (some 26)), some (aI x1), some (aI x2), some (aI 0), some (aI (x4 + 1))] [] M v M'
          refine e_goto (tgt := 45) dX7_boundAll_92 rfl ?_
          exact (k10 g1 g3 g5 g6)
        ·
          refine e_iconst (u := 1) dX7_boundAll_83 (by decide) ?_
          refine e_goto (tgt := 88) dX7_boundAll_84 rfl ?_
          refine e_istore_n dX7_boundAll_88 (Nat.le_of_ble_eq_true rfl) ?_
          show E K_X7_boundAll 89 [some (aR (some 26)), some (aI x1), some (aI x2), some (aI 1), some (aI x4)] [] M v M'
          refine e_iinc dX7_boundAll_89 rfl ?_
          show E K_X7_boundAll 92 [some (aR (some 26)), some (aI x1), some (aI x2), some (aI 1), some (aI (x4 + 1))] [] M v M'
          refine e_goto (tgt := 45) dX7_boundAll_92 rfl ?_
          exact (k11 g1 g3 g5 g6)

set_option maxRecDepth 20000 in
theorem s_X7_boundAll_119 {M M' : AM} {v : Option AV} {x1 : Int32} {x2 : Int32} {x3 : Int32} (hS : St M)
    (k1 : ∀ (g1 : (mI M 26 4) ≤ x3) (g2 : x2 = 0), some (aI 0) = v ∧ M = M')
    (k2 : ∀ (g1 : (mI M 26 4) ≤ x3) (g2 : ¬ x2 = 0), some (aI 3) = v ∧ M = M')
    (b3 : ∀ (g1 : ¬ ((mI M 26 4) ≤ x3)), vp_in x3 32)
    (k4 : ∀ (g1 : ¬ ((mI M 26 4) ≤ x3)) (g3 : (mI M 43 x3.toNatClampNeg) = 0), E K_X7_boundAll 119 [some (aR (some 26)), some (aI x1), some (aI (x2 ||| 0)), some (aI (x3 + 1)), none] [] M v M')
    (k5 : ∀ (g1 : ¬ ((mI M 26 4) ≤ x3)) (g3 : ¬ (mI M 43 x3.toNatClampNeg) = 0) (g4 : (mJ M 44 x3.toNatClampNeg) = (-2)), E K_X7_boundAll 119 [some (aR (some 26)), some (aI x1), some (aI (x2 ||| 1)), some (aI (x3 + 1)), none] [] M v M')
    (k6 : ∀ (g1 : ¬ ((mI M 26 4) ≤ x3)) (g3 : ¬ (mI M 43 x3.toNatClampNeg) = 0) (g4 : ¬ ((mJ M 44 x3.toNatClampNeg) = (-2))) (g5 : ¬ ((mJ M 45 x3.toNatClampNeg) = (-2))), E K_X7_boundAll 119 [some (aR (some 26)), some (aI x1), some (aI (x2 ||| 0)), some (aI (x3 + 1)), none] [] M v M')
    (k7 : ∀ (g1 : ¬ ((mI M 26 4) ≤ x3)) (g3 : ¬ (mI M 43 x3.toNatClampNeg) = 0) (g4 : ¬ ((mJ M 44 x3.toNatClampNeg) = (-2))) (g5 : (mJ M 45 x3.toNatClampNeg) = (-2)), E K_X7_boundAll 119 [some (aR (some 26)), some (aI x1), some (aI (x2 ||| 1)), some (aI (x3 + 1)), none] [] M v M') :
    E K_X7_boundAll 119 [some (aR (some 26)), some (aI x1), some (aI x2), some (aI x3), none] [] M v M' := by
  refine e_iload_n dX7_boundAll_119 rfl ?_
  refine e_aload_n dX7_boundAll_120 rfl ?_
  refine e_get ff_7_4 hS.l26 w839 dX7_boundAll_121 (w := aI (mI M 26 4)) rfl ?_
  refine e_icmp_ge (tgt := 176) dX7_boundAll_124 rfl (fun g1 => ?_) (fun g1 => ?_)
  ·
    refine e_iload_n dX7_boundAll_176 rfl ?_
    refine e_if_eq (tgt := 184) dX7_boundAll_177 rfl (fun g2 => ?_) (fun g2 => ?_)
    ·
      refine e_iconst (u := 0) dX7_boundAll_184 (by decide) ?_
      exact e_iret rfl dX7_boundAll_185 (k1 g1 g2)
    ·
      refine e_iconst (u := 3) dX7_boundAll_180 (by decide) ?_
      refine e_goto (tgt := 185) dX7_boundAll_181 rfl ?_
      exact e_iret rfl dX7_boundAll_185 (k2 g1 g2)
  ·
    refine e_iload_n dX7_boundAll_127 rfl ?_
    refine e_aload_n dX7_boundAll_128 rfl ?_
    refine e_get ff_7_19 hS.l26 w854 dX7_boundAll_129 (w := aR (some 43)) hS.f26_19 ?_
    refine e_iload_n dX7_boundAll_132 rfl ?_
    refine e_zald hS.l43 (hS.b43 (b3 g1)) dX7_boundAll_133 ?_
    refine e_if_eq (tgt := 167) dX7_boundAll_134 rfl (fun g3 => ?_) (fun g3 => ?_)
    ·
      refine e_iconst (u := 0) dX7_boundAll_167 (by decide) ?_
      refine e_ior dX7_boundAll_168 ?_
      refine e_istore_n dX7_boundAll_169 (Nat.le_of_ble_eq_true rfl) ?_
      show E K_X7_boundAll 170 [some (aR (some 26)), some (aI x1), some (aI (x2 ||| 0)), some (aI x3), none] [] M v M'
      refine e_iinc dX7_boundAll_170 rfl ?_
      show E K_X7_boundAll 173 [some (aR (some 26)), some (aI x1), some (aI (x2 ||| 0)), some (aI (x3 + 1)), none] [] M v M'
      refine e_goto (tgt := 119) dX7_boundAll_173 rfl ?_
      exact (k4 g1 g3)
    ·
      refine e_aload_n dX7_boundAll_137 rfl ?_
      refine e_get ff_7_20 hS.l26 w855 dX7_boundAll_138 (w := aR (some 44)) hS.f26_20 ?_
      refine e_iload_n dX7_boundAll_141 rfl ?_
      refine e_lald hS.l44 (hS.b44 (b3 g1)) dX7_boundAll_142 ?_
      refine e_ldc2 dX7_boundAll_143 w1079 ?_
      refine e_lcmp_eq (tgt := 163) dX7_boundAll_146 dX7_boundAll_147 rfl (fun g4 => ?_) (fun g4 => ?_)
      ·
        refine e_iconst (u := 1) dX7_boundAll_163 (by decide) ?_
        refine e_goto (tgt := 168) dX7_boundAll_164 rfl ?_
        refine e_ior dX7_boundAll_168 ?_
        refine e_istore_n dX7_boundAll_169 (Nat.le_of_ble_eq_true rfl) ?_
        show E K_X7_boundAll 170 [some (aR (some 26)), some (aI x1), some (aI (x2 ||| 1)), some (aI x3), none] [] M v M'
        refine e_iinc dX7_boundAll_170 rfl ?_
        show E K_X7_boundAll 173 [some (aR (some 26)), some (aI x1), some (aI (x2 ||| 1)), some (aI (x3 + 1)), none] [] M v M'
        refine e_goto (tgt := 119) dX7_boundAll_173 rfl ?_
        exact (k5 g1 g3 g4)
      ·
        refine e_aload_n dX7_boundAll_150 rfl ?_
        refine e_get ff_7_21 hS.l26 w856 dX7_boundAll_151 (w := aR (some 45)) hS.f26_21 ?_
        refine e_iload_n dX7_boundAll_154 rfl ?_
        refine e_lald hS.l45 (hS.b45 (b3 g1)) dX7_boundAll_155 ?_
        refine e_ldc2 dX7_boundAll_156 w1079 ?_
        refine e_lcmp_ne (tgt := 167) dX7_boundAll_159 dX7_boundAll_160 rfl (fun g5 => ?_) (fun g5 => ?_)
        ·
          refine e_iconst (u := 0) dX7_boundAll_167 (by decide) ?_
          refine e_ior dX7_boundAll_168 ?_
          refine e_istore_n dX7_boundAll_169 (Nat.le_of_ble_eq_true rfl) ?_
          show E K_X7_boundAll 170 [some (aR (some 26)), some (aI x1), some (aI (x2 ||| 0)), some (aI x3), none] [] M v M'
          refine e_iinc dX7_boundAll_170 rfl ?_
          show E K_X7_boundAll 173 [some (aR (some 26)), some (aI x1), some (aI (x2 ||| 0)), some (aI (x3 + 1)), none] [] M v M'
          refine e_goto (tgt := 119) dX7_boundAll_173 rfl ?_
          exact (k6 g1 g3 g4 g5)
        ·
          refine e_iconst (u := 1) dX7_boundAll_163 (by decide) ?_
          refine e_goto (tgt := 168) dX7_boundAll_164 rfl ?_
          refine e_ior dX7_boundAll_168 ?_
          refine e_istore_n dX7_boundAll_169 (Nat.le_of_ble_eq_true rfl) ?_
          show E K_X7_boundAll 170 [some (aR (some 26)), some (aI x1), some (aI (x2 ||| 1)), some (aI x3), none] [] M v M'
          refine e_iinc dX7_boundAll_170 rfl ?_
          show E K_X7_boundAll 173 [some (aR (some 26)), some (aI x1), some (aI (x2 ||| 1)), some (aI (x3 + 1)), none] [] M v M'
          refine e_goto (tgt := 119) dX7_boundAll_173 rfl ?_
          exact (k7 g1 g3 g4 g5)

set_option maxRecDepth 20000 in
theorem s_X7_analyse_0 {M M' : AM} {v : Option AV} {x1 : Int32} {M1 : AM} {x101 : Int32} {M2 : AM} {x103 : Int32} (hS : St M)
    (c1 : Ev K_X7_noMethod [aR (some 26), aI x1] M (some (aI x101)) M1)
    (c2 : ∀ (g2 : x101 = 0), Ev K_X7_analyseFrom [aR (some 26), aI x1] (wrI M1 26 9 0) (some (aI x103)) M2)
    (k3 : ∀ (g2 : x101 = 0), some (aI x103) = v ∧ M2 = M')
    (k4 : ∀ (g2 : ¬ x101 = 0), some (aI 0) = v ∧ (wrI M1 26 9 1) = M') :
    Ev K_X7_analyse [aR (some 26), aI x1] M v M' := by
  refine ⟨Nat.le_of_ble_eq_true rfl, ?_⟩
  show E K_X7_analyse 0 [some (aR (some 26)), some (aI x1)] [] M v M'
  refine e_aload_n dX7_analyse_0 rfl ?_
  refine e_aload_n dX7_analyse_1 rfl ?_
  refine e_iload_n dX7_analyse_2 rfl ?_
  refine e_callV (As := [aI x1]) (rest := [aR (some 26)]) vk_X7_noMethod hS.l26 w972 ⟨by decide, by decide⟩ (Nat.le_of_ble_eq_true rfl) dX7_analyse_3 c1 ?_
  show E K_X7_analyse 6 [some (aR (some 26)), some (aI x1)] [aI x101, aR (some 26)] M1 v M'
  have hS_1 : St M1 := St.sh (M := M) c1.2.1 hS
  refine e_if_eq (tgt := 13) dX7_analyse_6 rfl (fun g2 => ?_) (fun g2 => ?_)
  ·
    refine e_iconst (u := 0) dX7_analyse_13 (by decide) ?_
    refine e_putI ff_7_9 rfl hS_1.l26 w844 dX7_analyse_14 ?_
    refine e_aload_n dX7_analyse_17 rfl ?_
    refine e_get ff_7_9 hS_1.l26 w844 dX7_analyse_18 (w := aI 0) rfl ?_
    refine e_if_le (tgt := 28) dX7_analyse_21 rfl (fun z => ?_) (fun z => ?_)
    ·
      refine e_aload_n dX7_analyse_28 rfl ?_
      refine e_iload_n dX7_analyse_29 rfl ?_
      refine e_callV (As := [aI x1]) (rest := []) vk_X7_analyseFrom hS_1.l26 w1047 ⟨by decide, by decide⟩ (Nat.le_of_ble_eq_true rfl) dX7_analyse_30 (c2 g2) ?_
      show E K_X7_analyse 33 [some (aR (some 26)), some (aI x1)] [aI x103] M2 v M'
      have hS_2 : St M2 := St.sh (M := (wrI M1 26 9 0)) (c2 g2).2.1 hS_1
      exact e_iret rfl dX7_analyse_33 (k3 g2)
    · exact absurd z (by decide)
  ·
    refine e_iconst (u := 1) dX7_analyse_9 (by decide) ?_
    refine e_goto (tgt := 14) dX7_analyse_10 rfl ?_
    refine e_putI ff_7_9 rfl hS_1.l26 w844 dX7_analyse_14 ?_
    refine e_aload_n dX7_analyse_17 rfl ?_
    refine e_get ff_7_9 hS_1.l26 w844 dX7_analyse_18 (w := aI 1) rfl ?_
    refine e_if_le (tgt := 28) dX7_analyse_21 rfl (fun z => ?_) (fun z => ?_)
    · exact absurd z (by decide)
    ·
      refine e_iconst (u := 0) dX7_analyse_24 (by decide) ?_
      refine e_goto (tgt := 33) dX7_analyse_25 rfl ?_
      exact e_iret rfl dX7_analyse_33 (k4 g2)

set_option maxRecDepth 20000 in
theorem s_X7_told_0 {M M' : AM} {v : Option AV} {x1 : Int32} {x2 : Int32} {M1 : AM} {x101 : Int32} (hS : St M)
    (c1 : Ev K_X7_noMethod [aR (some 26), aI x1] M (some (aI x101)) M1)
    (k2 : ∀ (g2 : ¬ x101 = 0), some (aI 0) = v ∧ (wrI M1 26 9 1) = M')
    (k3 : ∀ (g2 : x101 = 0) (g3 : x2 < 0), some (aI 0) = v ∧ (wrI M1 26 9 1) = M')
    (b4 : ∀ (g2 : x101 = 0) (g3 : ¬ (x2 < 0)) (g4 : x2 ≤ 2) (g5 : ¬ x2 = 0) (g6 : ¬ x2 = 1), vp_in x1 32)
    (k5 : ∀ (g2 : x101 = 0) (g3 : ¬ (x2 < 0)) (g4 : x2 ≤ 2) (g5 : ¬ x2 = 0) (g6 : ¬ x2 = 1) (g7 : (mI M1 42 x1.toNatClampNeg) = 0), some (aI 0) = v ∧ (wrI M1 26 9 0) = M')
    (k6 : ∀ (g2 : x101 = 0) (g3 : ¬ (x2 < 0)) (g4 : x2 ≤ 2) (g5 : ¬ x2 = 0) (g6 : ¬ x2 = 1) (g7 : ¬ (mI M1 42 x1.toNatClampNeg) = 0), some (aI 1) = v ∧ (wrI M1 26 9 0) = M')
    (b7 : ∀ (g2 : x101 = 0) (g3 : ¬ (x2 < 0)) (g4 : x2 ≤ 2) (g5 : ¬ x2 = 0) (g6 : x2 = 1), vp_in x1 32)
    (k8 : ∀ (g2 : x101 = 0) (g3 : ¬ (x2 < 0)) (g4 : x2 ≤ 2) (g5 : ¬ x2 = 0) (g6 : x2 = 1) (g8 : (mI M1 41 x1.toNatClampNeg) = 0), some (aI 0) = v ∧ (wrI M1 26 9 0) = M')
    (k9 : ∀ (g2 : x101 = 0) (g3 : ¬ (x2 < 0)) (g4 : x2 ≤ 2) (g5 : ¬ x2 = 0) (g6 : x2 = 1) (g8 : ¬ (mI M1 41 x1.toNatClampNeg) = 0), some (aI 1) = v ∧ (wrI M1 26 9 0) = M')
    (b10 : ∀ (g2 : x101 = 0) (g3 : ¬ (x2 < 0)) (g4 : x2 ≤ 2) (g5 : x2 = 0), vp_in x1 32)
    (k11 : ∀ (g2 : x101 = 0) (g3 : ¬ (x2 < 0)) (g4 : x2 ≤ 2) (g5 : x2 = 0) (g9 : (mI M1 40 x1.toNatClampNeg) = 0), some (aI 0) = v ∧ (wrI M1 26 9 0) = M')
    (k12 : ∀ (g2 : x101 = 0) (g3 : ¬ (x2 < 0)) (g4 : x2 ≤ 2) (g5 : x2 = 0) (g9 : ¬ (mI M1 40 x1.toNatClampNeg) = 0), some (aI 1) = v ∧ (wrI M1 26 9 0) = M')
    (k13 : ∀ (g2 : x101 = 0) (g3 : ¬ (x2 < 0)) (g4 : ¬ (x2 ≤ 2)), some (aI 0) = v ∧ (wrI M1 26 9 1) = M') :
    Ev K_X7_told [aR (some 26), aI x1, aI x2] M v M' := by
  refine ⟨Nat.le_of_ble_eq_true rfl, ?_⟩
  show E K_X7_told 0 [some (aR (some 26)), some (aI x1), some (aI x2)] [] M v M'
  refine e_aload_n dX7_told_0 rfl ?_
  refine e_aload_n dX7_told_1 rfl ?_
  refine e_iload_n dX7_told_2 rfl ?_
  refine e_callV (As := [aI x1]) (rest := [aR (some 26)]) vk_X7_noMethod hS.l26 w972 ⟨by decide, by decide⟩ (Nat.le_of_ble_eq_true rfl) dX7_told_3 c1 ?_
  show E K_X7_told 6 [some (aR (some 26)), some (aI x1), some (aI x2)] [aI x101, aR (some 26)] M1 v M'
  have hS_1 : St M1 := St.sh (M := M) c1.2.1 hS
  refine e_if_ne (tgt := 18) dX7_told_6 rfl (fun g2 => ?_) (fun g2 => ?_)
  ·
    refine e_iconst (u := 1) dX7_told_18 (by decide) ?_
    refine e_goto (tgt := 23) dX7_told_19 rfl ?_
    refine e_putI ff_7_9 rfl hS_1.l26 w844 dX7_told_23 ?_
    refine e_aload_n dX7_told_26 rfl ?_
    refine e_get ff_7_9 hS_1.l26 w844 dX7_told_27 (w := aI 1) rfl ?_
    refine e_if_le (tgt := 35) dX7_told_30 rfl (fun z => ?_) (fun z => ?_)
    · exact absurd z (by decide)
    ·
      refine e_iconst (u := 0) dX7_told_33 (by decide) ?_
      exact e_iret rfl dX7_told_34 (k2 g2)
  ·
    refine e_iload_n dX7_told_9 rfl ?_
    refine e_if_lt (tgt := 18) dX7_told_10 rfl (fun g3 => ?_) (fun g3 => ?_)
    ·
      refine e_iconst (u := 1) dX7_told_18 (by decide) ?_
      refine e_goto (tgt := 23) dX7_told_19 rfl ?_
      refine e_putI ff_7_9 rfl hS_1.l26 w844 dX7_told_23 ?_
      refine e_aload_n dX7_told_26 rfl ?_
      refine e_get ff_7_9 hS_1.l26 w844 dX7_told_27 (w := aI 1) rfl ?_
      refine e_if_le (tgt := 35) dX7_told_30 rfl (fun z => ?_) (fun z => ?_)
      · exact absurd z (by decide)
      ·
        refine e_iconst (u := 0) dX7_told_33 (by decide) ?_
        exact e_iret rfl dX7_told_34 (k3 g2 g3)
    ·
      refine e_iload_n dX7_told_13 rfl ?_
      refine e_iconst (u := 2) dX7_told_14 (by decide) ?_
      refine e_icmp_le (tgt := 22) dX7_told_15 rfl (fun g4 => ?_) (fun g4 => ?_)
      ·
        refine e_iconst (u := 0) dX7_told_22 (by decide) ?_
        refine e_putI ff_7_9 rfl hS_1.l26 w844 dX7_told_23 ?_
        refine e_aload_n dX7_told_26 rfl ?_
        refine e_get ff_7_9 hS_1.l26 w844 dX7_told_27 (w := aI 0) rfl ?_
        refine e_if_le (tgt := 35) dX7_told_30 rfl (fun z => ?_) (fun z => ?_)
        ·
          refine e_iload_n dX7_told_35 rfl ?_
          refine e_if_ne (tgt := 51) dX7_told_36 rfl (fun g5 => ?_) (fun g5 => ?_)
          ·
            refine e_iload_n dX7_told_51 rfl ?_
            refine e_iconst (u := 1) dX7_told_52 (by decide) ?_
            refine e_icmp_ne (tgt := 68) dX7_told_53 rfl (fun g6 => ?_) (fun g6 => ?_)
            ·
              refine e_aload_n dX7_told_68 rfl ?_
              refine e_get ff_7_18 hS_1.l26 w853 dX7_told_69 (w := aR (some 42)) hS_1.f26_18 ?_
              refine e_iload_n dX7_told_72 rfl ?_
              refine e_zald hS_1.l42 (hS_1.b42 (b4 g2 g3 g4 g5 g6)) dX7_told_73 ?_
              show E K_X7_told 74 [some (aR (some 26)), some (aI x1), some (aI x2)] [aI (mI M1 42 x1.toNatClampNeg)] (wrI M1 26 9 0) v M'
              refine e_if_eq (tgt := 81) dX7_told_74 rfl (fun g7 => ?_) (fun g7 => ?_)
              ·
                refine e_iconst (u := 0) dX7_told_81 (by decide) ?_
                exact e_iret rfl dX7_told_82 (k5 g2 g3 g4 g5 g6 g7)
              ·
                refine e_iconst (u := 1) dX7_told_77 (by decide) ?_
                refine e_goto (tgt := 82) dX7_told_78 rfl ?_
                exact e_iret rfl dX7_told_82 (k6 g2 g3 g4 g5 g6 g7)
            ·
              refine e_aload_n dX7_told_56 rfl ?_
              refine e_get ff_7_17 hS_1.l26 w852 dX7_told_57 (w := aR (some 41)) hS_1.f26_17 ?_
              refine e_iload_n dX7_told_60 rfl ?_
              refine e_zald hS_1.l41 (hS_1.b41 (b7 g2 g3 g4 g5 g6)) dX7_told_61 ?_
              show E K_X7_told 62 [some (aR (some 26)), some (aI x1), some (aI x2)] [aI (mI M1 41 x1.toNatClampNeg)] (wrI M1 26 9 0) v M'
              refine e_if_eq (tgt := 81) dX7_told_62 rfl (fun g8 => ?_) (fun g8 => ?_)
              ·
                refine e_iconst (u := 0) dX7_told_81 (by decide) ?_
                exact e_iret rfl dX7_told_82 (k8 g2 g3 g4 g5 g6 g8)
              ·
                refine e_goto (tgt := 77) dX7_told_65 rfl ?_
                refine e_iconst (u := 1) dX7_told_77 (by decide) ?_
                refine e_goto (tgt := 82) dX7_told_78 rfl ?_
                exact e_iret rfl dX7_told_82 (k9 g2 g3 g4 g5 g6 g8)
          ·
            refine e_aload_n dX7_told_39 rfl ?_
            refine e_get ff_7_16 hS_1.l26 w851 dX7_told_40 (w := aR (some 40)) hS_1.f26_16 ?_
            refine e_iload_n dX7_told_43 rfl ?_
            refine e_zald hS_1.l40 (hS_1.b40 (b10 g2 g3 g4 g5)) dX7_told_44 ?_
            show E K_X7_told 45 [some (aR (some 26)), some (aI x1), some (aI x2)] [aI (mI M1 40 x1.toNatClampNeg)] (wrI M1 26 9 0) v M'
            refine e_if_eq (tgt := 81) dX7_told_45 rfl (fun g9 => ?_) (fun g9 => ?_)
            ·
              refine e_iconst (u := 0) dX7_told_81 (by decide) ?_
              exact e_iret rfl dX7_told_82 (k11 g2 g3 g4 g5 g9)
            ·
              refine e_goto (tgt := 77) dX7_told_48 rfl ?_
              refine e_iconst (u := 1) dX7_told_77 (by decide) ?_
              refine e_goto (tgt := 82) dX7_told_78 rfl ?_
              exact e_iret rfl dX7_told_82 (k12 g2 g3 g4 g5 g9)
        · exact absurd z (by decide)
      ·
        refine e_iconst (u := 1) dX7_told_18 (by decide) ?_
        refine e_goto (tgt := 23) dX7_told_19 rfl ?_
        refine e_putI ff_7_9 rfl hS_1.l26 w844 dX7_told_23 ?_
        refine e_aload_n dX7_told_26 rfl ?_
        refine e_get ff_7_9 hS_1.l26 w844 dX7_told_27 (w := aI 1) rfl ?_
        refine e_if_le (tgt := 35) dX7_told_30 rfl (fun z => ?_) (fun z => ?_)
        · exact absurd z (by decide)
        ·
          refine e_iconst (u := 0) dX7_told_33 (by decide) ?_
          exact e_iret rfl dX7_told_34 (k13 g2 g3 g4)

set_option maxRecDepth 20000 in
theorem s_X7_bound_0 {M M' : AM} {v : Option AV} {x1 : Int32} {x2 : Int32} {M1 : AM} {x101 : Int32} (hS : St M)
    (c1 : Ev K_X7_noMethod [aR (some 26), aI x1] M (some (aI x101)) M1)
    (k2 : ∀ (g2 : ¬ x101 = 0), some (aJ 0) = v ∧ (wrI M1 26 9 1) = M')
    (k3 : ∀ (g2 : x101 = 0) (g3 : x2 < 0), some (aJ 0) = v ∧ (wrI M1 26 9 1) = M')
    (b4 : ∀ (g2 : x101 = 0) (g3 : ¬ (x2 < 0)) (g4 : x2 ≤ 1) (g5 : ¬ x2 = 0), vp_in x1 32)
    (k5 : ∀ (g2 : x101 = 0) (g3 : ¬ (x2 < 0)) (g4 : x2 ≤ 1) (g5 : ¬ x2 = 0) (g6 : (mI M1 43 x1.toNatClampNeg) = 0), some (aJ (-1)) = v ∧ (wrI M1 26 9 0) = M')
    (k6 : ∀ (g2 : x101 = 0) (g3 : ¬ (x2 < 0)) (g4 : x2 ≤ 1) (g5 : ¬ x2 = 0) (g6 : ¬ (mI M1 43 x1.toNatClampNeg) = 0) (g7 : ¬ ((mJ M1 45 x1.toNatClampNeg) = (-2))), some (aJ (mJ M1 45 x1.toNatClampNeg)) = v ∧ (wrI M1 26 9 0) = M')
    (k7 : ∀ (g2 : x101 = 0) (g3 : ¬ (x2 < 0)) (g4 : x2 ≤ 1) (g5 : ¬ x2 = 0) (g6 : ¬ (mI M1 43 x1.toNatClampNeg) = 0) (g7 : (mJ M1 45 x1.toNatClampNeg) = (-2)), some (aJ (-1)) = v ∧ (wrI M1 26 9 0) = M')
    (b8 : ∀ (g2 : x101 = 0) (g3 : ¬ (x2 < 0)) (g4 : x2 ≤ 1) (g5 : x2 = 0), vp_in x1 32)
    (k9 : ∀ (g2 : x101 = 0) (g3 : ¬ (x2 < 0)) (g4 : x2 ≤ 1) (g5 : x2 = 0) (g8 : (mI M1 43 x1.toNatClampNeg) = 0), some (aJ (-1)) = v ∧ (wrI M1 26 9 0) = M')
    (k10 : ∀ (g2 : x101 = 0) (g3 : ¬ (x2 < 0)) (g4 : x2 ≤ 1) (g5 : x2 = 0) (g8 : ¬ (mI M1 43 x1.toNatClampNeg) = 0) (g9 : ¬ ((mJ M1 44 x1.toNatClampNeg) = (-2))), some (aJ (mJ M1 44 x1.toNatClampNeg)) = v ∧ (wrI M1 26 9 0) = M')
    (k11 : ∀ (g2 : x101 = 0) (g3 : ¬ (x2 < 0)) (g4 : x2 ≤ 1) (g5 : x2 = 0) (g8 : ¬ (mI M1 43 x1.toNatClampNeg) = 0) (g9 : (mJ M1 44 x1.toNatClampNeg) = (-2)), some (aJ (-1)) = v ∧ (wrI M1 26 9 0) = M')
    (k12 : ∀ (g2 : x101 = 0) (g3 : ¬ (x2 < 0)) (g4 : ¬ (x2 ≤ 1)), some (aJ 0) = v ∧ (wrI M1 26 9 1) = M') :
    Ev K_X7_bound [aR (some 26), aI x1, aI x2] M v M' := by
  refine ⟨Nat.le_of_ble_eq_true rfl, ?_⟩
  show E K_X7_bound 0 [some (aR (some 26)), some (aI x1), some (aI x2), none, none] [] M v M'
  refine e_aload_n dX7_bound_0 rfl ?_
  refine e_aload_n dX7_bound_1 rfl ?_
  refine e_iload_n dX7_bound_2 rfl ?_
  refine e_callV (As := [aI x1]) (rest := [aR (some 26)]) vk_X7_noMethod hS.l26 w972 ⟨by decide, by decide⟩ (Nat.le_of_ble_eq_true rfl) dX7_bound_3 c1 ?_
  show E K_X7_bound 6 [some (aR (some 26)), some (aI x1), some (aI x2), none, none] [aI x101, aR (some 26)] M1 v M'
  have hS_1 : St M1 := St.sh (M := M) c1.2.1 hS
  refine e_if_ne (tgt := 18) dX7_bound_6 rfl (fun g2 => ?_) (fun g2 => ?_)
  ·
    refine e_iconst (u := 1) dX7_bound_18 (by decide) ?_
    refine e_goto (tgt := 23) dX7_bound_19 rfl ?_
    refine e_putI ff_7_9 rfl hS_1.l26 w844 dX7_bound_23 ?_
    refine e_aload_n dX7_bound_26 rfl ?_
    refine e_get ff_7_9 hS_1.l26 w844 dX7_bound_27 (w := aI 1) rfl ?_
    refine e_if_le (tgt := 35) dX7_bound_30 rfl (fun z => ?_) (fun z => ?_)
    · exact absurd z (by decide)
    ·
      refine e_lconst (u := 0) dX7_bound_33 (by decide) ?_
      exact e_lret rfl dX7_bound_34 (k2 g2)
  ·
    refine e_iload_n dX7_bound_9 rfl ?_
    refine e_if_lt (tgt := 18) dX7_bound_10 rfl (fun g3 => ?_) (fun g3 => ?_)
    ·
      refine e_iconst (u := 1) dX7_bound_18 (by decide) ?_
      refine e_goto (tgt := 23) dX7_bound_19 rfl ?_
      refine e_putI ff_7_9 rfl hS_1.l26 w844 dX7_bound_23 ?_
      refine e_aload_n dX7_bound_26 rfl ?_
      refine e_get ff_7_9 hS_1.l26 w844 dX7_bound_27 (w := aI 1) rfl ?_
      refine e_if_le (tgt := 35) dX7_bound_30 rfl (fun z => ?_) (fun z => ?_)
      · exact absurd z (by decide)
      ·
        refine e_lconst (u := 0) dX7_bound_33 (by decide) ?_
        exact e_lret rfl dX7_bound_34 (k3 g2 g3)
    ·
      refine e_iload_n dX7_bound_13 rfl ?_
      refine e_iconst (u := 1) dX7_bound_14 (by decide) ?_
      refine e_icmp_le (tgt := 22) dX7_bound_15 rfl (fun g4 => ?_) (fun g4 => ?_)
      ·
        refine e_iconst (u := 0) dX7_bound_22 (by decide) ?_
        refine e_putI ff_7_9 rfl hS_1.l26 w844 dX7_bound_23 ?_
        refine e_aload_n dX7_bound_26 rfl ?_
        refine e_get ff_7_9 hS_1.l26 w844 dX7_bound_27 (w := aI 0) rfl ?_
        refine e_if_le (tgt := 35) dX7_bound_30 rfl (fun z => ?_) (fun z => ?_)
        ·
          refine e_iload_n dX7_bound_35 rfl ?_
          refine e_if_ne (tgt := 48) dX7_bound_36 rfl (fun g5 => ?_) (fun g5 => ?_)
          ·
            refine e_aload_n dX7_bound_48 rfl ?_
            refine e_get ff_7_21 hS_1.l26 w856 dX7_bound_49 (w := aR (some 45)) hS_1.f26_21 ?_
            refine e_iload_n dX7_bound_52 rfl ?_
            refine e_lald hS_1.l45 (hS_1.b45 (b4 g2 g3 g4 g5)) dX7_bound_53 ?_
            show E K_X7_bound 54 [some (aR (some 26)), some (aI x1), some (aI x2), none, none] [aJ (mJ M1 45 x1.toNatClampNeg)] (wrI M1 26 9 0) v M'
            refine e_lstore_n dX7_bound_54 (Nat.le_of_ble_eq_true rfl) ?_
            show E K_X7_bound 55 [some (aR (some 26)), some (aI x1), some (aI x2), some (aJ (mJ M1 45 x1.toNatClampNeg)), none] [] (wrI M1 26 9 0) v M'
            refine e_aload_n dX7_bound_55 rfl ?_
            refine e_get ff_7_19 hS_1.l26 w854 dX7_bound_56 (w := aR (some 43)) hS_1.f26_19 ?_
            refine e_iload_n dX7_bound_59 rfl ?_
            refine e_zald hS_1.l43 (hS_1.b43 (b4 g2 g3 g4 g5)) dX7_bound_60 ?_
            show E K_X7_bound 61 [some (aR (some 26)), some (aI x1), some (aI x2), some (aJ (mJ M1 45 x1.toNatClampNeg)), none] [aI (mI M1 43 x1.toNatClampNeg)] (wrI M1 26 9 0) v M'
            refine e_if_eq (tgt := 72) dX7_bound_61 rfl (fun g6 => ?_) (fun g6 => ?_)
            ·
              refine e_ldc2 dX7_bound_72 w1075 ?_
              refine e_goto (tgt := 79) dX7_bound_75 rfl ?_
              exact e_lret rfl dX7_bound_79 (k5 g2 g3 g4 g5 g6)
            ·
              refine e_lload_n dX7_bound_64 rfl ?_
              refine e_ldc2 dX7_bound_65 w1079 ?_
              refine e_lcmp_ne (tgt := 78) dX7_bound_68 dX7_bound_69 rfl (fun g7 => ?_) (fun g7 => ?_)
              ·
                refine e_lload_n dX7_bound_78 rfl ?_
                exact e_lret rfl dX7_bound_79 (k6 g2 g3 g4 g5 g6 g7)
              ·
                refine e_ldc2 dX7_bound_72 w1075 ?_
                refine e_goto (tgt := 79) dX7_bound_75 rfl ?_
                exact e_lret rfl dX7_bound_79 (k7 g2 g3 g4 g5 g6 g7)
          ·
            refine e_aload_n dX7_bound_39 rfl ?_
            refine e_get ff_7_20 hS_1.l26 w855 dX7_bound_40 (w := aR (some 44)) hS_1.f26_20 ?_
            refine e_iload_n dX7_bound_43 rfl ?_
            refine e_lald hS_1.l44 (hS_1.b44 (b8 g2 g3 g4 g5)) dX7_bound_44 ?_
            show E K_X7_bound 45 [some (aR (some 26)), some (aI x1), some (aI x2), none, none] [aJ (mJ M1 44 x1.toNatClampNeg)] (wrI M1 26 9 0) v M'
            refine e_goto (tgt := 54) dX7_bound_45 rfl ?_
            refine e_lstore_n dX7_bound_54 (Nat.le_of_ble_eq_true rfl) ?_
            show E K_X7_bound 55 [some (aR (some 26)), some (aI x1), some (aI x2), some (aJ (mJ M1 44 x1.toNatClampNeg)), none] [] (wrI M1 26 9 0) v M'
            refine e_aload_n dX7_bound_55 rfl ?_
            refine e_get ff_7_19 hS_1.l26 w854 dX7_bound_56 (w := aR (some 43)) hS_1.f26_19 ?_
            refine e_iload_n dX7_bound_59 rfl ?_
            refine e_zald hS_1.l43 (hS_1.b43 (b8 g2 g3 g4 g5)) dX7_bound_60 ?_
            show E K_X7_bound 61 [some (aR (some 26)), some (aI x1), some (aI x2), some (aJ (mJ M1 44 x1.toNatClampNeg)), none] [aI (mI M1 43 x1.toNatClampNeg)] (wrI M1 26 9 0) v M'
            refine e_if_eq (tgt := 72) dX7_bound_61 rfl (fun g8 => ?_) (fun g8 => ?_)
            ·
              refine e_ldc2 dX7_bound_72 w1075 ?_
              refine e_goto (tgt := 79) dX7_bound_75 rfl ?_
              exact e_lret rfl dX7_bound_79 (k9 g2 g3 g4 g5 g8)
            ·
              refine e_lload_n dX7_bound_64 rfl ?_
              refine e_ldc2 dX7_bound_65 w1079 ?_
              refine e_lcmp_ne (tgt := 78) dX7_bound_68 dX7_bound_69 rfl (fun g9 => ?_) (fun g9 => ?_)
              ·
                refine e_lload_n dX7_bound_78 rfl ?_
                exact e_lret rfl dX7_bound_79 (k10 g2 g3 g4 g5 g8 g9)
              ·
                refine e_ldc2 dX7_bound_72 w1075 ?_
                refine e_goto (tgt := 79) dX7_bound_75 rfl ?_
                exact e_lret rfl dX7_bound_79 (k11 g2 g3 g4 g5 g8 g9)
        · exact absurd z (by decide)
      ·
        refine e_iconst (u := 1) dX7_bound_18 (by decide) ?_
        refine e_goto (tgt := 23) dX7_bound_19 rfl ?_
        refine e_putI ff_7_9 rfl hS_1.l26 w844 dX7_bound_23 ?_
        refine e_aload_n dX7_bound_26 rfl ?_
        refine e_get ff_7_9 hS_1.l26 w844 dX7_bound_27 (w := aI 1) rfl ?_
        refine e_if_le (tgt := 35) dX7_bound_30 rfl (fun z => ?_) (fun z => ?_)
        · exact absurd z (by decide)
        ·
          refine e_lconst (u := 0) dX7_bound_33 (by decide) ?_
          exact e_lret rfl dX7_bound_34 (k12 g2 g3 g4)

set_option maxRecDepth 20000 in
theorem s_X7_argument_0 {M M' : AM} {v : Option AV} {x1 : Int64} (hS : St M)
    (b1 : ∀ (g1 : ¬ (mI M 26 27) = 8), vp_in (mI M 26 27) 8)
    (k2 : ∀ (g1 : ¬ (mI M 26 27) = 8), some (aI ((mI M 26 27) + 1)) = v ∧ (wrI (wrJ (wrI M 26 9 0) 50 (mI M 26 27).toNatClampNeg x1) 26 27 ((mI M 26 27) + 1)) = M')
    (k3 : ∀ (g1 : (mI M 26 27) = 8), some (aI 0) = v ∧ (wrI M 26 9 1) = M') :
    Ev K_X7_argument [aR (some 26), aJ x1] M v M' := by
  refine ⟨Nat.le_of_ble_eq_true rfl, ?_⟩
  show E K_X7_argument 0 [some (aR (some 26)), some (aJ x1), none] [] M v M'
  refine e_aload_n dX7_argument_0 rfl ?_
  refine e_aload_n dX7_argument_1 rfl ?_
  refine e_get ff_7_27 hS.l26 w862 dX7_argument_2 (w := aI (mI M 26 27)) rfl ?_
  refine e_bipush (u := 8) dX7_argument_5 (by decide) ?_
  refine e_icmp_ne (tgt := 14) dX7_argument_7 rfl (fun g1 => ?_) (fun g1 => ?_)
  ·
    refine e_iconst (u := 0) dX7_argument_14 (by decide) ?_
    refine e_putI ff_7_9 rfl hS.l26 w844 dX7_argument_15 ?_
    refine e_aload_n dX7_argument_18 rfl ?_
    refine e_get ff_7_9 hS.l26 w844 dX7_argument_19 (w := aI 0) rfl ?_
    refine e_if_le (tgt := 27) dX7_argument_22 rfl (fun z => ?_) (fun z => ?_)
    ·
      refine e_aload_n dX7_argument_27 rfl ?_
      refine e_get ff_7_26 hS.l26 w861 dX7_argument_28 (w := aR (some 50)) hS.f26_26 ?_
      refine e_aload_n dX7_argument_31 rfl ?_
      refine e_get ff_7_27 hS.l26 w862 dX7_argument_32 (w := aI (mI M 26 27)) rfl ?_
      refine e_lload_n dX7_argument_35 rfl ?_
      refine e_last hS.l50 (hS.b50 (b1 g1)) dX7_argument_36 ?_
      refine e_aload_n dX7_argument_37 rfl ?_
      refine e_dupR dX7_argument_38 ?_
      refine e_get ff_7_27 hS.l26 w862 dX7_argument_39 (w := aI (mI M 26 27)) rfl ?_
      refine e_iconst (u := 1) dX7_argument_42 (by decide) ?_
      refine e_iadd dX7_argument_43 ?_
      refine e_putI ff_7_27 rfl hS.l26 w862 dX7_argument_44 ?_
      refine e_aload_n dX7_argument_47 rfl ?_
      refine e_get ff_7_27 hS.l26 w862 dX7_argument_48 (w := aI ((mI M 26 27) + 1)) rfl ?_
      exact e_iret rfl dX7_argument_51 (k2 g1)
    · exact absurd z (by decide)
  ·
    refine e_iconst (u := 1) dX7_argument_10 (by decide) ?_
    refine e_goto (tgt := 15) dX7_argument_11 rfl ?_
    refine e_putI ff_7_9 rfl hS.l26 w844 dX7_argument_15 ?_
    refine e_aload_n dX7_argument_18 rfl ?_
    refine e_get ff_7_9 hS.l26 w844 dX7_argument_19 (w := aI 1) rfl ?_
    refine e_if_le (tgt := 27) dX7_argument_22 rfl (fun z => ?_) (fun z => ?_)
    · exact absurd z (by decide)
    ·
      refine e_iconst (u := 0) dX7_argument_25 (by decide) ?_
      exact e_iret rfl dX7_argument_26 (k3 g1)

set_option maxRecDepth 20000 in
theorem s_X7_enter_0 {M M' : AM} {v : Option AV} {x1 : Int32} (hS : St M)
    (b1 : vp_in (mI M 26 34) 100)
    (k2 : E K_X7_enter 32 [some (aR (some 26)), some (aI x1), some (aI 0)] [] (wrI (wrI (wrI M 51 (mI M 26 34).toNatClampNeg x1) 52 (mI M 26 34).toNatClampNeg 0) 53 (mI M 26 34).toNatClampNeg 0) v M') :
    Ev K_X7_enter [aR (some 26), aI x1] M v M' := by
  refine ⟨Nat.le_of_ble_eq_true rfl, ?_⟩
  show E K_X7_enter 0 [some (aR (some 26)), some (aI x1), none] [] M v M'
  refine e_aload_n dX7_enter_0 rfl ?_
  refine e_get ff_7_28 hS.l26 w863 dX7_enter_1 (w := aR (some 51)) hS.f26_28 ?_
  refine e_aload_n dX7_enter_4 rfl ?_
  refine e_get ff_7_34 hS.l26 w869 dX7_enter_5 (w := aI (mI M 26 34)) rfl ?_
  refine e_iload_n dX7_enter_8 rfl ?_
  refine e_iast hS.l51 (hS.b51 b1) dX7_enter_9 ?_
  refine e_aload_n dX7_enter_10 rfl ?_
  refine e_get ff_7_29 hS.l26 w864 dX7_enter_11 (w := aR (some 52)) hS.f26_29 ?_
  refine e_aload_n dX7_enter_14 rfl ?_
  refine e_get ff_7_34 hS.l26 w869 dX7_enter_15 (w := aI (mI M 26 34)) rfl ?_
  refine e_iconst (u := 0) dX7_enter_18 (by decide) ?_
  refine e_iast hS.l52 (hS.b52 b1) dX7_enter_19 ?_
  refine e_aload_n dX7_enter_20 rfl ?_
  refine e_get ff_7_30 hS.l26 w865 dX7_enter_21 (w := aR (some 53)) hS.f26_30 ?_
  refine e_aload_n dX7_enter_24 rfl ?_
  refine e_get ff_7_34 hS.l26 w869 dX7_enter_25 (w := aI (mI M 26 34)) rfl ?_
  refine e_iconst (u := 0) dX7_enter_28 (by decide) ?_
  refine e_iast hS.l53 (hS.b53 b1) dX7_enter_29 ?_
  refine e_iconst (u := 0) dX7_enter_30 (by decide) ?_
  refine e_istore_n dX7_enter_31 (Nat.le_of_ble_eq_true rfl) ?_
  show E K_X7_enter 32 [some (aR (some 26)), some (aI x1), some (aI 0)] [] (wrI (wrI (wrI M 51 (mI M 26 34).toNatClampNeg x1) 52 (mI M 26 34).toNatClampNeg 0) 53 (mI M 26 34).toNatClampNeg 0) v M'
  exact k2

set_option maxRecDepth 20000 in
theorem s_X7_enter_32 {M M' : AM} {v : Option AV} {x1 : Int32} {x2 : Int32} (hS : St M)
    (b1 : ∀ (g1 : 16 ≤ x2), vp_in x1 32)
    (k2 : ∀ (g1 : 16 ≤ x2) (g2 : ((mI M 26 35) + (mI M 29 x1.toNatClampNeg)) ≤ (mI M 26 36)), none = v ∧ (wrI (wrI (wrI M 26 35 ((mI M 26 35) + (mI M 29 x1.toNatClampNeg))) 26 34 ((mI M 26 34) + 1)) 26 36 (mI M 26 36)) = M')
    (k3 : ∀ (g1 : 16 ≤ x2) (g2 : ¬ (((mI M 26 35) + (mI M 29 x1.toNatClampNeg)) ≤ (mI M 26 36))), none = v ∧ (wrI (wrI (wrI M 26 35 ((mI M 26 35) + (mI M 29 x1.toNatClampNeg))) 26 34 ((mI M 26 34) + 1)) 26 36 ((mI M 26 35) + (mI M 29 x1.toNatClampNeg))) = M')
    (b4 : ∀ (g1 : ¬ (16 ≤ x2)), vp_in ((16 * (mI M 26 34)) + x2) 1600)
    (k5 : ∀ (g1 : ¬ (16 ≤ x2)), E K_X7_enter 32 [some (aR (some 26)), some (aI x1), some (aI (x2 + 1))] [] (wrJ M 54 ((16 * (mI M 26 34)) + x2).toNatClampNeg 0) v M') :
    E K_X7_enter 32 [some (aR (some 26)), some (aI x1), some (aI x2)] [] M v M' := by
  refine e_iload_n dX7_enter_32 rfl ?_
  refine e_bipush (u := 16) dX7_enter_33 (by decide) ?_
  refine e_icmp_ge (tgt := 59) dX7_enter_35 rfl (fun g1 => ?_) (fun g1 => ?_)
  ·
    refine e_aload_n dX7_enter_59 rfl ?_
    refine e_dupR dX7_enter_60 ?_
    refine e_get ff_7_35 hS.l26 w870 dX7_enter_61 (w := aI (mI M 26 35)) rfl ?_
    refine e_aload_n dX7_enter_64 rfl ?_
    refine e_get ff_7_2 hS.l26 w837 dX7_enter_65 (w := aR (some 29)) hS.f26_2 ?_
    refine e_iload_n dX7_enter_68 rfl ?_
    refine e_iald hS.l29 (hS.b29 (b1 g1)) dX7_enter_69 ?_
    refine e_iadd dX7_enter_70 ?_
    refine e_putI ff_7_35 rfl hS.l26 w870 dX7_enter_71 ?_
    refine e_aload_n dX7_enter_74 rfl ?_
    refine e_dupR dX7_enter_75 ?_
    refine e_get ff_7_34 hS.l26 w869 dX7_enter_76 (w := aI (mI M 26 34)) rfl ?_
    refine e_iconst (u := 1) dX7_enter_79 (by decide) ?_
    refine e_iadd dX7_enter_80 ?_
    refine e_putI ff_7_34 rfl hS.l26 w869 dX7_enter_81 ?_
    refine e_aload_n dX7_enter_84 rfl ?_
    refine e_aload_n dX7_enter_85 rfl ?_
    refine e_get ff_7_35 hS.l26 w870 dX7_enter_86 (w := aI ((mI M 26 35) + (mI M 29 x1.toNatClampNeg))) rfl ?_
    refine e_aload_n dX7_enter_89 rfl ?_
    refine e_get ff_7_36 hS.l26 w871 dX7_enter_90 (w := aI (mI M 26 36)) rfl ?_
    refine e_icmp_le (tgt := 103) dX7_enter_93 rfl (fun g2 => ?_) (fun g2 => ?_)
    ·
      refine e_aload_n dX7_enter_103 rfl ?_
      refine e_get ff_7_36 hS.l26 w871 dX7_enter_104 (w := aI (mI M 26 36)) rfl ?_
      refine e_putI ff_7_36 rfl hS.l26 w871 dX7_enter_107 ?_
      exact e_vret rfl dX7_enter_110 (k2 g1 g2)
    ·
      refine e_aload_n dX7_enter_96 rfl ?_
      refine e_get ff_7_35 hS.l26 w870 dX7_enter_97 (w := aI ((mI M 26 35) + (mI M 29 x1.toNatClampNeg))) rfl ?_
      refine e_goto (tgt := 107) dX7_enter_100 rfl ?_
      refine e_putI ff_7_36 rfl hS.l26 w871 dX7_enter_107 ?_
      exact e_vret rfl dX7_enter_110 (k3 g1 g2)
  ·
    refine e_aload_n dX7_enter_38 rfl ?_
    refine e_get ff_7_31 hS.l26 w866 dX7_enter_39 (w := aR (some 54)) hS.f26_31 ?_
    refine e_bipush (u := 16) dX7_enter_42 (by decide) ?_
    refine e_aload_n dX7_enter_44 rfl ?_
    refine e_get ff_7_34 hS.l26 w869 dX7_enter_45 (w := aI (mI M 26 34)) rfl ?_
    refine e_imul dX7_enter_48 ?_
    refine e_iload_n dX7_enter_49 rfl ?_
    refine e_iadd dX7_enter_50 ?_
    refine e_lconst (u := 0) dX7_enter_51 (by decide) ?_
    refine e_last hS.l54 (hS.b54 (b4 g1)) dX7_enter_52 ?_
    refine e_iinc dX7_enter_53 rfl ?_
    show E K_X7_enter 56 [some (aR (some 26)), some (aI x1), some (aI (x2 + 1))] [] (wrJ M 54 ((16 * (mI M 26 34)) + x2).toNatClampNeg 0) v M'
    refine e_goto (tgt := 32) dX7_enter_56 rfl ?_
    exact (k5 g1)

set_option maxRecDepth 20000 in
theorem s_X7_push_0 {M M' : AM} {v : Option AV} {x1 : Int64} (hS : St M)
    (b1 : vp_in ((mI M 26 34) - 1) 100)
    (b2 : vp_in ((101 * ((mI M 26 34) - 1)) + (mI M 53 ((mI M 26 34) - 1).toNatClampNeg)) 10100)
    (k3 : ∀ (g1 : ((mI M 26 35) + 1) ≤ (mI M 26 36)), none = v ∧ (wrI (wrI (wrI (wrJ M 55 ((101 * ((mI M 26 34) - 1)) + (mI M 53 ((mI M 26 34) - 1).toNatClampNeg)).toNatClampNeg x1) 53 ((mI M 26 34) - 1).toNatClampNeg ((mI M 53 ((mI M 26 34) - 1).toNatClampNeg) + 1)) 26 35 ((mI M 26 35) + 1)) 26 36 (mI M 26 36)) = M')
    (k4 : ∀ (g1 : ¬ (((mI M 26 35) + 1) ≤ (mI M 26 36))), none = v ∧ (wrI (wrI (wrI (wrJ M 55 ((101 * ((mI M 26 34) - 1)) + (mI M 53 ((mI M 26 34) - 1).toNatClampNeg)).toNatClampNeg x1) 53 ((mI M 26 34) - 1).toNatClampNeg ((mI M 53 ((mI M 26 34) - 1).toNatClampNeg) + 1)) 26 35 ((mI M 26 35) + 1)) 26 36 ((mI M 26 35) + 1)) = M') :
    Ev K_X7_push [aR (some 26), aJ x1] M v M' := by
  refine ⟨Nat.le_of_ble_eq_true rfl, ?_⟩
  show E K_X7_push 0 [some (aR (some 26)), some (aJ x1), none, none] [] M v M'
  refine e_aload_n dX7_push_0 rfl ?_
  refine e_get ff_7_34 hS.l26 w869 dX7_push_1 (w := aI (mI M 26 34)) rfl ?_
  refine e_iconst (u := 1) dX7_push_4 (by decide) ?_
  refine e_isub dX7_push_5 ?_
  refine e_istore_n dX7_push_6 (Nat.le_of_ble_eq_true rfl) ?_
  show E K_X7_push 7 [some (aR (some 26)), some (aJ x1), none, some (aI ((mI M 26 34) - 1))] [] M v M'
  refine e_aload_n dX7_push_7 rfl ?_
  refine e_get ff_7_32 hS.l26 w867 dX7_push_8 (w := aR (some 55)) hS.f26_32 ?_
  refine e_bipush (u := 101) dX7_push_11 (by decide) ?_
  refine e_iload_n dX7_push_13 rfl ?_
  refine e_imul dX7_push_14 ?_
  refine e_aload_n dX7_push_15 rfl ?_
  refine e_get ff_7_30 hS.l26 w865 dX7_push_16 (w := aR (some 53)) hS.f26_30 ?_
  refine e_iload_n dX7_push_19 rfl ?_
  refine e_iald hS.l53 (hS.b53 b1) dX7_push_20 ?_
  refine e_iadd dX7_push_21 ?_
  refine e_lload_n dX7_push_22 rfl ?_
  refine e_last hS.l55 (hS.b55 b2) dX7_push_23 ?_
  refine e_aload_n dX7_push_24 rfl ?_
  refine e_get ff_7_30 hS.l26 w865 dX7_push_25 (w := aR (some 53)) hS.f26_30 ?_
  refine e_iload_n dX7_push_28 rfl ?_
  refine e_dup2RI dX7_push_29 ?_
  refine e_iald hS.l53 (hS.b53 b1) dX7_push_30 ?_
  show E K_X7_push 31 [some (aR (some 26)), some (aJ x1), none, some (aI ((mI M 26 34) - 1))] [aI (mI M 53 ((mI M 26 34) - 1).toNatClampNeg), aI ((mI M 26 34) - 1), aR (some 53)] (wrJ M 55 ((101 * ((mI M 26 34) - 1)) + (mI M 53 ((mI M 26 34) - 1).toNatClampNeg)).toNatClampNeg x1) v M'
  refine e_iconst (u := 1) dX7_push_31 (by decide) ?_
  refine e_iadd dX7_push_32 ?_
  refine e_iast hS.l53 (hS.b53 b1) dX7_push_33 ?_
  refine e_aload_n dX7_push_34 rfl ?_
  refine e_dupR dX7_push_35 ?_
  refine e_get ff_7_35 hS.l26 w870 dX7_push_36 (w := aI (mI M 26 35)) rfl ?_
  refine e_iconst (u := 1) dX7_push_39 (by decide) ?_
  refine e_iadd dX7_push_40 ?_
  refine e_putI ff_7_35 rfl hS.l26 w870 dX7_push_41 ?_
  refine e_aload_n dX7_push_44 rfl ?_
  refine e_aload_n dX7_push_45 rfl ?_
  refine e_get ff_7_35 hS.l26 w870 dX7_push_46 (w := aI ((mI M 26 35) + 1)) rfl ?_
  refine e_aload_n dX7_push_49 rfl ?_
  refine e_get ff_7_36 hS.l26 w871 dX7_push_50 (w := aI (mI M 26 36)) rfl ?_
  refine e_icmp_le (tgt := 63) dX7_push_53 rfl (fun g1 => ?_) (fun g1 => ?_)
  ·
    refine e_aload_n dX7_push_63 rfl ?_
    refine e_get ff_7_36 hS.l26 w871 dX7_push_64 (w := aI (mI M 26 36)) rfl ?_
    refine e_putI ff_7_36 rfl hS.l26 w871 dX7_push_67 ?_
    exact e_vret rfl dX7_push_70 (k3 g1)
  ·
    refine e_aload_n dX7_push_56 rfl ?_
    refine e_get ff_7_35 hS.l26 w870 dX7_push_57 (w := aI ((mI M 26 35) + 1)) rfl ?_
    refine e_goto (tgt := 67) dX7_push_60 rfl ?_
    refine e_putI ff_7_36 rfl hS.l26 w871 dX7_push_67 ?_
    exact e_vret rfl dX7_push_70 (k4 g1)

set_option maxRecDepth 20000 in
theorem s_X7_take_0 {M M' : AM} {v : Option AV} (hS : St M)
    (b1 : vp_in ((mI M 26 34) - 1) 100)
    (b2 : vp_in ((101 * ((mI M 26 34) - 1)) + (mI (wrI M 53 ((mI M 26 34) - 1).toNatClampNeg ((mI M 53 ((mI M 26 34) - 1).toNatClampNeg) - 1)) 53 ((mI M 26 34) - 1).toNatClampNeg)) 10100)
    (k3 : some (aJ (mJ M 55 ((101 * ((mI M 26 34) - 1)) + (mI (wrI M 53 ((mI M 26 34) - 1).toNatClampNeg ((mI M 53 ((mI M 26 34) - 1).toNatClampNeg) - 1)) 53 ((mI M 26 34) - 1).toNatClampNeg)).toNatClampNeg)) = v ∧ (wrI (wrI M 53 ((mI M 26 34) - 1).toNatClampNeg ((mI M 53 ((mI M 26 34) - 1).toNatClampNeg) - 1)) 26 35 ((mI M 26 35) - 1)) = M') :
    Ev K_X7_take [aR (some 26)] M v M' := by
  refine ⟨Nat.le_of_ble_eq_true rfl, ?_⟩
  show E K_X7_take 0 [some (aR (some 26)), none] [] M v M'
  refine e_aload_n dX7_take_0 rfl ?_
  refine e_get ff_7_34 hS.l26 w869 dX7_take_1 (w := aI (mI M 26 34)) rfl ?_
  refine e_iconst (u := 1) dX7_take_4 (by decide) ?_
  refine e_isub dX7_take_5 ?_
  refine e_istore_n dX7_take_6 (Nat.le_of_ble_eq_true rfl) ?_
  show E K_X7_take 7 [some (aR (some 26)), some (aI ((mI M 26 34) - 1))] [] M v M'
  refine e_aload_n dX7_take_7 rfl ?_
  refine e_get ff_7_30 hS.l26 w865 dX7_take_8 (w := aR (some 53)) hS.f26_30 ?_
  refine e_iload_n dX7_take_11 rfl ?_
  refine e_dup2RI dX7_take_12 ?_
  refine e_iald hS.l53 (hS.b53 b1) dX7_take_13 ?_
  refine e_iconst (u := 1) dX7_take_14 (by decide) ?_
  refine e_isub dX7_take_15 ?_
  refine e_iast hS.l53 (hS.b53 b1) dX7_take_16 ?_
  refine e_aload_n dX7_take_17 rfl ?_
  refine e_dupR dX7_take_18 ?_
  refine e_get ff_7_35 hS.l26 w870 dX7_take_19 (w := aI (mI M 26 35)) rfl ?_
  refine e_iconst (u := 1) dX7_take_22 (by decide) ?_
  refine e_isub dX7_take_23 ?_
  refine e_putI ff_7_35 rfl hS.l26 w870 dX7_take_24 ?_
  refine e_aload_n dX7_take_27 rfl ?_
  refine e_get ff_7_32 hS.l26 w867 dX7_take_28 (w := aR (some 55)) hS.f26_32 ?_
  refine e_bipush (u := 101) dX7_take_31 (by decide) ?_
  refine e_iload_n dX7_take_33 rfl ?_
  refine e_imul dX7_take_34 ?_
  refine e_aload_n dX7_take_35 rfl ?_
  refine e_get ff_7_30 hS.l26 w865 dX7_take_36 (w := aR (some 53)) hS.f26_30 ?_
  refine e_iload_n dX7_take_39 rfl ?_
  refine e_iald hS.l53 (hS.b53 b1) dX7_take_40 ?_
  show E K_X7_take 41 [some (aR (some 26)), some (aI ((mI M 26 34) - 1))] [aI (mI (wrI M 53 ((mI M 26 34) - 1).toNatClampNeg ((mI M 53 ((mI M 26 34) - 1).toNatClampNeg) - 1)) 53 ((mI M 26 34) - 1).toNatClampNeg), aI (101 * ((mI M 26 34) - 1)), aR (some 55)] (wrI (wrI M 53 ((mI M 26 34) - 1).toNatClampNeg ((mI M 53 ((mI M 26 34) - 1).toNatClampNeg) - 1)) 26 35 ((mI M 26 35) - 1)) v M'
  refine e_iadd dX7_take_41 ?_
  refine e_lald hS.l55 (hS.b55 b2) dX7_take_42 ?_
  show E K_X7_take 43 [some (aR (some 26)), some (aI ((mI M 26 34) - 1))] [aJ (mJ M 55 ((101 * ((mI M 26 34) - 1)) + (mI (wrI M 53 ((mI M 26 34) - 1).toNatClampNeg ((mI M 53 ((mI M 26 34) - 1).toNatClampNeg) - 1)) 53 ((mI M 26 34) - 1).toNatClampNeg)).toNatClampNeg)] (wrI (wrI M 53 ((mI M 26 34) - 1).toNatClampNeg ((mI M 53 ((mI M 26 34) - 1).toNatClampNeg) - 1)) 26 35 ((mI M 26 35) - 1)) v M'
  exact e_lret rfl dX7_take_43 k3

set_option maxRecDepth 20000 in
theorem s_X7_work_0 {M M' : AM} {v : Option AV} {x0 : Int32} {x1 : Int64} {x3 : Int64} (hS : St M)
    (z1 : ∀ (g1 : ¬ x0 = 4) (g2 : ¬ x0 = 5) (g3 : ¬ x0 = 6) (g4 : ¬ x0 = 7) (g5 : ¬ (x3 = 0)) (g6 : ¬ (x3 = (-1))), ¬ x3 = 0)
    (k2 : ∀ (g1 : ¬ x0 = 4) (g2 : ¬ x0 = 5) (g3 : ¬ x0 = 6) (g4 : ¬ x0 = 7) (g5 : ¬ (x3 = 0)) (g6 : ¬ (x3 = (-1))), some (aJ (x1 / x3)) = v ∧ M = M')
    (k3 : ∀ (g1 : ¬ x0 = 4) (g2 : ¬ x0 = 5) (g3 : ¬ x0 = 6) (g4 : ¬ x0 = 7) (g5 : ¬ (x3 = 0)) (g6 : x3 = (-1)), some (aJ (-x1)) = v ∧ M = M')
    (k4 : ∀ (g1 : ¬ x0 = 4) (g2 : ¬ x0 = 5) (g3 : ¬ x0 = 6) (g4 : ¬ x0 = 7) (g5 : x3 = 0), some (aJ 0) = v ∧ M = M')
    (k5 : ∀ (g1 : ¬ x0 = 4) (g2 : ¬ x0 = 5) (g3 : ¬ x0 = 6) (g4 : x0 = 7) (g7 : ¬ (x1 < x3)), some (aJ 0) = v ∧ M = M')
    (k6 : ∀ (g1 : ¬ x0 = 4) (g2 : ¬ x0 = 5) (g3 : ¬ x0 = 6) (g4 : x0 = 7) (g7 : x1 < x3), some (aJ 1) = v ∧ M = M')
    (k7 : ∀ (g1 : ¬ x0 = 4) (g2 : ¬ x0 = 5) (g3 : x0 = 6), some (aJ (x1 * x3)) = v ∧ M = M')
    (k8 : ∀ (g1 : ¬ x0 = 4) (g2 : x0 = 5), some (aJ (x1 - x3)) = v ∧ M = M')
    (k9 : ∀ (g1 : x0 = 4), some (aJ (x1 + x3)) = v ∧ M = M') :
    Ev K_X7_work [aI x0, aJ x1, aJ x3] M v M' := by
  refine ⟨Nat.le_of_ble_eq_true rfl, ?_⟩
  show E K_X7_work 0 [some (aI x0), some (aJ x1), none, some (aJ x3), none] [] M v M'
  refine e_iload_n dX7_work_0 rfl ?_
  refine e_iconst (u := 4) dX7_work_1 (by decide) ?_
  refine e_icmp_ne (tgt := 11) dX7_work_2 rfl (fun g1 => ?_) (fun g1 => ?_)
  ·
    refine e_iload_n dX7_work_11 rfl ?_
    refine e_iconst (u := 5) dX7_work_12 (by decide) ?_
    refine e_icmp_ne (tgt := 22) dX7_work_13 rfl (fun g2 => ?_) (fun g2 => ?_)
    ·
      refine e_iload_n dX7_work_22 rfl ?_
      refine e_bipush (u := 6) dX7_work_23 (by decide) ?_
      refine e_icmp_ne (tgt := 34) dX7_work_25 rfl (fun g3 => ?_) (fun g3 => ?_)
      ·
        refine e_iload_n dX7_work_34 rfl ?_
        refine e_bipush (u := 7) dX7_work_35 (by decide) ?_
        refine e_icmp_ne (tgt := 54) dX7_work_37 rfl (fun g4 => ?_) (fun g4 => ?_)
        ·
          refine e_lload_n dX7_work_54 rfl ?_
          refine e_lconst (u := 0) dX7_work_55 (by decide) ?_
          refine e_lcmp_ne (tgt := 64) dX7_work_56 dX7_work_57 rfl (fun g5 => ?_) (fun g5 => ?_)
          ·
            refine e_lload_n dX7_work_64 rfl ?_
            refine e_ldc2 dX7_work_65 w1075 ?_
            refine e_lcmp_ne (tgt := 77) dX7_work_68 dX7_work_69 rfl (fun g6 => ?_) (fun g6 => ?_)
            ·
              refine e_lload_n dX7_work_77 rfl ?_
              refine e_lload_n dX7_work_78 rfl ?_
              refine e_ldiv dX7_work_79 (z1 g1 g2 g3 g4 g5 g6) ?_
              exact e_lret rfl dX7_work_80 (k2 g1 g2 g3 g4 g5 g6)
            ·
              refine e_lload_n dX7_work_72 rfl ?_
              refine e_lneg dX7_work_73 ?_
              refine e_goto (tgt := 80) dX7_work_74 rfl ?_
              exact e_lret rfl dX7_work_80 (k3 g1 g2 g3 g4 g5 g6)
          ·
            refine e_lconst (u := 0) dX7_work_60 (by decide) ?_
            refine e_goto (tgt := 80) dX7_work_61 rfl ?_
            exact e_lret rfl dX7_work_80 (k4 g1 g2 g3 g4 g5)
        ·
          refine e_lload_n dX7_work_40 rfl ?_
          refine e_lload_n dX7_work_41 rfl ?_
          refine e_lcmp_ge (tgt := 50) dX7_work_42 dX7_work_43 rfl (fun g7 => ?_) (fun g7 => ?_)
          ·
            refine e_lconst (u := 0) dX7_work_50 (by decide) ?_
            refine e_goto (tgt := 80) dX7_work_51 rfl ?_
            exact e_lret rfl dX7_work_80 (k5 g1 g2 g3 g4 g7)
          ·
            refine e_lconst (u := 1) dX7_work_46 (by decide) ?_
            refine e_goto (tgt := 80) dX7_work_47 rfl ?_
            exact e_lret rfl dX7_work_80 (k6 g1 g2 g3 g4 g7)
      ·
        refine e_lload_n dX7_work_28 rfl ?_
        refine e_lload_n dX7_work_29 rfl ?_
        refine e_lmul dX7_work_30 ?_
        refine e_goto (tgt := 80) dX7_work_31 rfl ?_
        exact e_lret rfl dX7_work_80 (k7 g1 g2 g3)
    ·
      refine e_lload_n dX7_work_16 rfl ?_
      refine e_lload_n dX7_work_17 rfl ?_
      refine e_lsub dX7_work_18 ?_
      refine e_goto (tgt := 80) dX7_work_19 rfl ?_
      exact e_lret rfl dX7_work_80 (k8 g1 g2)
  ·
    refine e_lload_n dX7_work_5 rfl ?_
    refine e_lload_n dX7_work_6 rfl ?_
    refine e_ladd dX7_work_7 ?_
    refine e_goto (tgt := 80) dX7_work_8 rfl ?_
    exact e_lret rfl dX7_work_80 (k9 g1)

set_option maxRecDepth 20000 in
theorem s_X7_call_0 {M M' : AM} {v : Option AV} {x1 : Int32} {M1 : AM} (hS : St M)
    (b1 : vp_in x1 32)
    (b2 : vp_in ((mI M 26 34) - 1) 100)
    (c3 : Ev K_X7_enter [aR (some 26), aI x1] (wrI (wrI M 53 ((mI M 26 34) - 1).toNatClampNeg ((mI M 53 ((mI M 26 34) - 1).toNatClampNeg) - (mI M 27 x1.toNatClampNeg))) 26 35 ((mI M 26 35) + (2 - (mI M 27 x1.toNatClampNeg)))) (none) M1)
    (k4 : E K_X7_call 44 [some (aR (some 26)), some (aI x1), some (aI ((mI M 26 34) - 1)), some (aI (mI M 27 x1.toNatClampNeg)), some (aI 0)] [] M1 v M') :
    Ev K_X7_call [aR (some 26), aI x1] M v M' := by
  refine ⟨Nat.le_of_ble_eq_true rfl, ?_⟩
  show E K_X7_call 0 [some (aR (some 26)), some (aI x1), none, none, none] [] M v M'
  refine e_aload_n dX7_call_0 rfl ?_
  refine e_get ff_7_34 hS.l26 w869 dX7_call_1 (w := aI (mI M 26 34)) rfl ?_
  refine e_iconst (u := 1) dX7_call_4 (by decide) ?_
  refine e_isub dX7_call_5 ?_
  refine e_istore_n dX7_call_6 (Nat.le_of_ble_eq_true rfl) ?_
  show E K_X7_call 7 [some (aR (some 26)), some (aI x1), some (aI ((mI M 26 34) - 1)), none, none] [] M v M'
  refine e_aload_n dX7_call_7 rfl ?_
  refine e_get ff_7_0 hS.l26 w835 dX7_call_8 (w := aR (some 27)) hS.f26_0 ?_
  refine e_iload_n dX7_call_11 rfl ?_
  refine e_iald hS.l27 (hS.b27 b1) dX7_call_12 ?_
  refine e_istore_n dX7_call_13 (Nat.le_of_ble_eq_true rfl) ?_
  show E K_X7_call 14 [some (aR (some 26)), some (aI x1), some (aI ((mI M 26 34) - 1)), some (aI (mI M 27 x1.toNatClampNeg)), none] [] M v M'
  refine e_aload_n dX7_call_14 rfl ?_
  refine e_get ff_7_30 hS.l26 w865 dX7_call_15 (w := aR (some 53)) hS.f26_30 ?_
  refine e_iload_n dX7_call_18 rfl ?_
  refine e_dup2RI dX7_call_19 ?_
  refine e_iald hS.l53 (hS.b53 b2) dX7_call_20 ?_
  refine e_iload_n dX7_call_21 rfl ?_
  refine e_isub dX7_call_22 ?_
  refine e_iast hS.l53 (hS.b53 b2) dX7_call_23 ?_
  refine e_aload_n dX7_call_24 rfl ?_
  refine e_dupR dX7_call_25 ?_
  refine e_get ff_7_35 hS.l26 w870 dX7_call_26 (w := aI (mI M 26 35)) rfl ?_
  refine e_iconst (u := 2) dX7_call_29 (by decide) ?_
  refine e_iload_n dX7_call_30 rfl ?_
  refine e_isub dX7_call_31 ?_
  refine e_iadd dX7_call_32 ?_
  refine e_putI ff_7_35 rfl hS.l26 w870 dX7_call_33 ?_
  refine e_aload_n dX7_call_36 rfl ?_
  refine e_iload_n dX7_call_37 rfl ?_
  refine e_callV (As := [aI x1]) (rest := []) vk_X7_enter hS.l26 w1109 ⟨by decide, by decide⟩ (Nat.le_of_ble_eq_true rfl) dX7_call_38 c3 ?_
  show E K_X7_call 41 [some (aR (some 26)), some (aI x1), some (aI ((mI M 26 34) - 1)), some (aI (mI M 27 x1.toNatClampNeg)), none] [] M1 v M'
  have hS_1 : St M1 := St.sh (M := (wrI (wrI M 53 ((mI M 26 34) - 1).toNatClampNeg ((mI M 53 ((mI M 26 34) - 1).toNatClampNeg) - (mI M 27 x1.toNatClampNeg))) 26 35 ((mI M 26 35) + (2 - (mI M 27 x1.toNatClampNeg))))) c3.2.1 hS
  refine e_iconst (u := 0) dX7_call_41 (by decide) ?_
  refine e_istore dX7_call_42 (Nat.le_of_ble_eq_true rfl) ?_
  show E K_X7_call 44 [some (aR (some 26)), some (aI x1), some (aI ((mI M 26 34) - 1)), some (aI (mI M 27 x1.toNatClampNeg)), some (aI 0)] [] M1 v M'
  exact k4

set_option maxRecDepth 20000 in
theorem s_X7_call_44 {M M' : AM} {v : Option AV} {x1 : Int32} {x2 : Int32} {x3 : Int32} {x4 : Int32} (hS : St M)
    (k1 : ∀ (g1 : x3 ≤ x4), none = v ∧ (wrI M 26 40 ((mI M 26 40) + 1)) = M')
    (b2 : ∀ (g1 : ¬ (x3 ≤ x4)), vp_in x2 100)
    (b3 : ∀ (g1 : ¬ (x3 ≤ x4)), vp_in (((101 * x2) + (mI M 53 x2.toNatClampNeg)) + x4) 10100)
    (b4 : ∀ (g1 : ¬ (x3 ≤ x4)), vp_in ((16 * (x2 + 1)) + x4) 1600)
    (k5 : ∀ (g1 : ¬ (x3 ≤ x4)), E K_X7_call 44 [some (aR (some 26)), some (aI x1), some (aI x2), some (aI x3), some (aI (x4 + 1))] [] (wrJ M 54 ((16 * (x2 + 1)) + x4).toNatClampNeg (mJ M 55 (((101 * x2) + (mI M 53 x2.toNatClampNeg)) + x4).toNatClampNeg)) v M') :
    E K_X7_call 44 [some (aR (some 26)), some (aI x1), some (aI x2), some (aI x3), some (aI x4)] [] M v M' := by
  refine e_iload dX7_call_44 rfl ?_
  refine e_iload_n dX7_call_46 rfl ?_
  refine e_icmp_ge (tgt := 89) dX7_call_47 rfl (fun g1 => ?_) (fun g1 => ?_)
  ·
    refine e_aload_n dX7_call_89 rfl ?_
    refine e_dupR dX7_call_90 ?_
    refine e_get ff_7_40 hS.l26 w875 dX7_call_91 (w := aI (mI M 26 40)) rfl ?_
    refine e_iconst (u := 1) dX7_call_94 (by decide) ?_
    refine e_iadd dX7_call_95 ?_
    refine e_putI ff_7_40 rfl hS.l26 w875 dX7_call_96 ?_
    exact e_vret rfl dX7_call_99 (k1 g1)
  ·
    refine e_aload_n dX7_call_50 rfl ?_
    refine e_get ff_7_31 hS.l26 w866 dX7_call_51 (w := aR (some 54)) hS.f26_31 ?_
    refine e_bipush (u := 16) dX7_call_54 (by decide) ?_
    refine e_iload_n dX7_call_56 rfl ?_
    refine e_iconst (u := 1) dX7_call_57 (by decide) ?_
    refine e_iadd dX7_call_58 ?_
    refine e_imul dX7_call_59 ?_
    refine e_iload dX7_call_60 rfl ?_
    refine e_iadd dX7_call_62 ?_
    refine e_aload_n dX7_call_63 rfl ?_
    refine e_get ff_7_32 hS.l26 w867 dX7_call_64 (w := aR (some 55)) hS.f26_32 ?_
    refine e_bipush (u := 101) dX7_call_67 (by decide) ?_
    refine e_iload_n dX7_call_69 rfl ?_
    refine e_imul dX7_call_70 ?_
    refine e_aload_n dX7_call_71 rfl ?_
    refine e_get ff_7_30 hS.l26 w865 dX7_call_72 (w := aR (some 53)) hS.f26_30 ?_
    refine e_iload_n dX7_call_75 rfl ?_
    refine e_iald hS.l53 (hS.b53 (b2 g1)) dX7_call_76 ?_
    refine e_iadd dX7_call_77 ?_
    refine e_iload dX7_call_78 rfl ?_
    refine e_iadd dX7_call_80 ?_
    refine e_lald hS.l55 (hS.b55 (b3 g1)) dX7_call_81 ?_
    refine e_last hS.l54 (hS.b54 (b4 g1)) dX7_call_82 ?_
    refine e_iinc dX7_call_83 rfl ?_
    show E K_X7_call 86 [some (aR (some 26)), some (aI x1), some (aI x2), some (aI x3), some (aI (x4 + 1))] [] (wrJ M 54 ((16 * (x2 + 1)) + x4).toNatClampNeg (mJ M 55 (((101 * x2) + (mI M 53 x2.toNatClampNeg)) + x4).toNatClampNeg)) v M'
    refine e_goto (tgt := 44) dX7_call_86 rfl ?_
    exact (k5 g1)

set_option maxRecDepth 20000 in
theorem s_X7_back_0 {M M' : AM} {v : Option AV} {x1 : Int32} {M1 : AM} {M2 : AM} {x104 : Int64} {M3 : AM} (hS : St M)
    (b1 : vp_in x1 32)
    (b2 : ∀ (g1 : (mI M 28 x1.toNatClampNeg) ≤ 0), vp_in ((mI M 26 34) - 1) 100)
    (k3 : ∀ (g1 : (mI M 28 x1.toNatClampNeg) ≤ 0) (g2 : ¬ ((mI M 26 34) - 1) = 0) (g3 : (mI M 28 x1.toNatClampNeg) ≤ 0), none = v ∧ (wrI (wrI (wrI M 26 34 ((mI M 26 34) - 1)) 26 35 ((mI M 26 35) - ((mI M 29 x1.toNatClampNeg) + (mI M 53 ((mI M 26 34) - 1).toNatClampNeg)))) 26 35 (((mI M 26 35) - ((mI M 29 x1.toNatClampNeg) + (mI M 53 ((mI M 26 34) - 1).toNatClampNeg))) - 2)) = M')
    (c4 : ∀ (g1 : (mI M 28 x1.toNatClampNeg) ≤ 0) (g2 : ¬ ((mI M 26 34) - 1) = 0) (g3 : ¬ ((mI M 28 x1.toNatClampNeg) ≤ 0)), Ev K_X7_push [aR (some 26), aJ 0] (wrI (wrI (wrI M 26 34 ((mI M 26 34) - 1)) 26 35 ((mI M 26 35) - ((mI M 29 x1.toNatClampNeg) + (mI M 53 ((mI M 26 34) - 1).toNatClampNeg)))) 26 35 (((mI M 26 35) - ((mI M 29 x1.toNatClampNeg) + (mI M 53 ((mI M 26 34) - 1).toNatClampNeg))) - 2)) (none) M1)
    (k5 : ∀ (g1 : (mI M 28 x1.toNatClampNeg) ≤ 0) (g2 : ¬ ((mI M 26 34) - 1) = 0) (g3 : ¬ ((mI M 28 x1.toNatClampNeg) ≤ 0)), none = v ∧ M1 = M')
    (k6 : ∀ (g1 : (mI M 28 x1.toNatClampNeg) ≤ 0) (g2 : ((mI M 26 34) - 1) = 0), none = v ∧ (wrJ (wrI (wrI M 26 34 ((mI M 26 34) - 1)) 26 35 ((mI M 26 35) - ((mI M 29 x1.toNatClampNeg) + (mI M 53 ((mI M 26 34) - 1).toNatClampNeg)))) 26 37 0) = M')
    (c7 : ∀ (g1 : ¬ ((mI M 28 x1.toNatClampNeg) ≤ 0)), Ev K_X7_take [aR (some 26)] M (some (aJ x104)) M2)
    (b8 : ∀ (g1 : ¬ ((mI M 28 x1.toNatClampNeg) ≤ 0)), vp_in ((mI M2 26 34) - 1) 100)
    (k9 : ∀ (g1 : ¬ ((mI M 28 x1.toNatClampNeg) ≤ 0)) (g5 : ¬ ((mI M2 26 34) - 1) = 0) (g6 : (mI M2 28 x1.toNatClampNeg) ≤ 0), none = v ∧ (wrI (wrI (wrI M2 26 34 ((mI M2 26 34) - 1)) 26 35 ((mI M2 26 35) - ((mI M2 29 x1.toNatClampNeg) + (mI M2 53 ((mI M2 26 34) - 1).toNatClampNeg)))) 26 35 (((mI M2 26 35) - ((mI M2 29 x1.toNatClampNeg) + (mI M2 53 ((mI M2 26 34) - 1).toNatClampNeg))) - 2)) = M')
    (c10 : ∀ (g1 : ¬ ((mI M 28 x1.toNatClampNeg) ≤ 0)) (g5 : ¬ ((mI M2 26 34) - 1) = 0) (g6 : ¬ ((mI M2 28 x1.toNatClampNeg) ≤ 0)), Ev K_X7_push [aR (some 26), aJ x104] (wrI (wrI (wrI M2 26 34 ((mI M2 26 34) - 1)) 26 35 ((mI M2 26 35) - ((mI M2 29 x1.toNatClampNeg) + (mI M2 53 ((mI M2 26 34) - 1).toNatClampNeg)))) 26 35 (((mI M2 26 35) - ((mI M2 29 x1.toNatClampNeg) + (mI M2 53 ((mI M2 26 34) - 1).toNatClampNeg))) - 2)) (none) M3)
    (k11 : ∀ (g1 : ¬ ((mI M 28 x1.toNatClampNeg) ≤ 0)) (g5 : ¬ ((mI M2 26 34) - 1) = 0) (g6 : ¬ ((mI M2 28 x1.toNatClampNeg) ≤ 0)), none = v ∧ M3 = M')
    (k12 : ∀ (g1 : ¬ ((mI M 28 x1.toNatClampNeg) ≤ 0)) (g5 : ((mI M2 26 34) - 1) = 0), none = v ∧ (wrJ (wrI (wrI M2 26 34 ((mI M2 26 34) - 1)) 26 35 ((mI M2 26 35) - ((mI M2 29 x1.toNatClampNeg) + (mI M2 53 ((mI M2 26 34) - 1).toNatClampNeg)))) 26 37 x104) = M') :
    Ev K_X7_back [aR (some 26), aI x1] M v M' := by
  refine ⟨Nat.le_of_ble_eq_true rfl, ?_⟩
  show E K_X7_back 0 [some (aR (some 26)), some (aI x1), none, none] [] M v M'
  refine e_aload_n dX7_back_0 rfl ?_
  refine e_get ff_7_1 hS.l26 w836 dX7_back_1 (w := aR (some 28)) hS.f26_1 ?_
  refine e_iload_n dX7_back_4 rfl ?_
  refine e_iald hS.l28 (hS.b28 b1) dX7_back_5 ?_
  refine e_if_le (tgt := 16) dX7_back_6 rfl (fun g1 => ?_) (fun g1 => ?_)
  ·
    refine e_lconst (u := 0) dX7_back_16 (by decide) ?_
    refine e_lstore_n dX7_back_17 (Nat.le_of_ble_eq_true rfl) ?_
    show E K_X7_back 18 [some (aR (some 26)), some (aI x1), some (aJ 0), none] [] M v M'
    refine e_aload_n dX7_back_18 rfl ?_
    refine e_dupR dX7_back_19 ?_
    refine e_get ff_7_34 hS.l26 w869 dX7_back_20 (w := aI (mI M 26 34)) rfl ?_
    refine e_iconst (u := 1) dX7_back_23 (by decide) ?_
    refine e_isub dX7_back_24 ?_
    refine e_putI ff_7_34 rfl hS.l26 w869 dX7_back_25 ?_
    refine e_aload_n dX7_back_28 rfl ?_
    refine e_dupR dX7_back_29 ?_
    refine e_get ff_7_35 hS.l26 w870 dX7_back_30 (w := aI (mI M 26 35)) rfl ?_
    refine e_aload_n dX7_back_33 rfl ?_
    refine e_get ff_7_2 hS.l26 w837 dX7_back_34 (w := aR (some 29)) hS.f26_2 ?_
    refine e_iload_n dX7_back_37 rfl ?_
    refine e_iald hS.l29 (hS.b29 b1) dX7_back_38 ?_
    show E K_X7_back 39 [some (aR (some 26)), some (aI x1), some (aJ 0), none] [aI (mI M 29 x1.toNatClampNeg), aI (mI M 26 35), aR (some 26)] (wrI M 26 34 ((mI M 26 34) - 1)) v M'
    refine e_aload_n dX7_back_39 rfl ?_
    refine e_get ff_7_30 hS.l26 w865 dX7_back_40 (w := aR (some 53)) hS.f26_30 ?_
    refine e_aload_n dX7_back_43 rfl ?_
    refine e_get ff_7_34 hS.l26 w869 dX7_back_44 (w := aI ((mI M 26 34) - 1)) rfl ?_
    refine e_iald hS.l53 (hS.b53 (b2 g1)) dX7_back_47 ?_
    show E K_X7_back 48 [some (aR (some 26)), some (aI x1), some (aJ 0), none] [aI (mI M 53 ((mI M 26 34) - 1).toNatClampNeg), aI (mI M 29 x1.toNatClampNeg), aI (mI M 26 35), aR (some 26)] (wrI M 26 34 ((mI M 26 34) - 1)) v M'
    refine e_iadd dX7_back_48 ?_
    refine e_isub dX7_back_49 ?_
    refine e_putI ff_7_35 rfl hS.l26 w870 dX7_back_50 ?_
    refine e_aload_n dX7_back_53 rfl ?_
    refine e_get ff_7_34 hS.l26 w869 dX7_back_54 (w := aI ((mI M 26 34) - 1)) rfl ?_
    refine e_if_ne (tgt := 66) dX7_back_57 rfl (fun g2 => ?_) (fun g2 => ?_)
    ·
      refine e_aload_n dX7_back_66 rfl ?_
      refine e_dupR dX7_back_67 ?_
      refine e_get ff_7_35 hS.l26 w870 dX7_back_68 (w := aI ((mI M 26 35) - ((mI M 29 x1.toNatClampNeg) + (mI M 53 ((mI M 26 34) - 1).toNatClampNeg)))) rfl ?_
      refine e_iconst (u := 2) dX7_back_71 (by decide) ?_
      refine e_isub dX7_back_72 ?_
      refine e_putI ff_7_35 rfl hS.l26 w870 dX7_back_73 ?_
      refine e_aload_n dX7_back_76 rfl ?_
      refine e_get ff_7_1 hS.l26 w836 dX7_back_77 (w := aR (some 28)) hS.f26_1 ?_
      refine e_iload_n dX7_back_80 rfl ?_
      refine e_iald hS.l28 (hS.b28 b1) dX7_back_81 ?_
      show E K_X7_back 82 [some (aR (some 26)), some (aI x1), some (aJ 0), none] [aI (mI M 28 x1.toNatClampNeg)] (wrI (wrI (wrI M 26 34 ((mI M 26 34) - 1)) 26 35 ((mI M 26 35) - ((mI M 29 x1.toNatClampNeg) + (mI M 53 ((mI M 26 34) - 1).toNatClampNeg)))) 26 35 (((mI M 26 35) - ((mI M 29 x1.toNatClampNeg) + (mI M 53 ((mI M 26 34) - 1).toNatClampNeg))) - 2)) v M'
      refine e_if_le (tgt := 90) dX7_back_82 rfl (fun g3 => ?_) (fun g3 => ?_)
      ·
        exact e_vret rfl dX7_back_90 (k3 g1 g2 g3)
      ·
        refine e_aload_n dX7_back_85 rfl ?_
        refine e_lload_n dX7_back_86 rfl ?_
        refine e_callV (As := [aJ 0]) (rest := []) vk_X7_push hS.l26 w1117 ⟨by decide, by decide⟩ (Nat.le_of_ble_eq_true rfl) dX7_back_87 (c4 g1 g2 g3) ?_
        show E K_X7_back 90 [some (aR (some 26)), some (aI x1), some (aJ 0), none] [] M1 v M'
        have hS_1 : St M1 := St.sh (M := (wrI (wrI (wrI M 26 34 ((mI M 26 34) - 1)) 26 35 ((mI M 26 35) - ((mI M 29 x1.toNatClampNeg) + (mI M 53 ((mI M 26 34) - 1).toNatClampNeg)))) 26 35 (((mI M 26 35) - ((mI M 29 x1.toNatClampNeg) + (mI M 53 ((mI M 26 34) - 1).toNatClampNeg))) - 2))) (c4 g1 g2 g3).2.1 hS
        exact e_vret rfl dX7_back_90 (k5 g1 g2 g3)
    ·
      refine e_aload_n dX7_back_60 rfl ?_
      refine e_lload_n dX7_back_61 rfl ?_
      refine e_putJ ff_7_37 rfl hS.l26 w872 dX7_back_62 ?_
      exact e_vret rfl dX7_back_65 (k6 g1 g2)
  ·
    refine e_aload_n dX7_back_9 rfl ?_
    refine e_callV (As := []) (rest := []) vk_X7_take hS.l26 w1121 ⟨by decide, by decide⟩ (Nat.le_of_ble_eq_true rfl) dX7_back_10 (c7 g1) ?_
    show E K_X7_back 13 [some (aR (some 26)), some (aI x1), none, none] [aJ x104] M2 v M'
    have hS_2 : St M2 := St.sh (M := M) (c7 g1).2.1 hS
    refine e_goto (tgt := 17) dX7_back_13 rfl ?_
    refine e_lstore_n dX7_back_17 (Nat.le_of_ble_eq_true rfl) ?_
    show E K_X7_back 18 [some (aR (some 26)), some (aI x1), some (aJ x104), none] [] M2 v M'
    refine e_aload_n dX7_back_18 rfl ?_
    refine e_dupR dX7_back_19 ?_
    refine e_get ff_7_34 hS_2.l26 w869 dX7_back_20 (w := aI (mI M2 26 34)) rfl ?_
    refine e_iconst (u := 1) dX7_back_23 (by decide) ?_
    refine e_isub dX7_back_24 ?_
    refine e_putI ff_7_34 rfl hS_2.l26 w869 dX7_back_25 ?_
    refine e_aload_n dX7_back_28 rfl ?_
    refine e_dupR dX7_back_29 ?_
    refine e_get ff_7_35 hS_2.l26 w870 dX7_back_30 (w := aI (mI M2 26 35)) rfl ?_
    refine e_aload_n dX7_back_33 rfl ?_
    refine e_get ff_7_2 hS_2.l26 w837 dX7_back_34 (w := aR (some 29)) hS_2.f26_2 ?_
    refine e_iload_n dX7_back_37 rfl ?_
    refine e_iald hS_2.l29 (hS_2.b29 b1) dX7_back_38 ?_
    show E K_X7_back 39 [some (aR (some 26)), some (aI x1), some (aJ x104), none] [aI (mI M2 29 x1.toNatClampNeg), aI (mI M2 26 35), aR (some 26)] (wrI M2 26 34 ((mI M2 26 34) - 1)) v M'
    refine e_aload_n dX7_back_39 rfl ?_
    refine e_get ff_7_30 hS_2.l26 w865 dX7_back_40 (w := aR (some 53)) hS_2.f26_30 ?_
    refine e_aload_n dX7_back_43 rfl ?_
    refine e_get ff_7_34 hS_2.l26 w869 dX7_back_44 (w := aI ((mI M2 26 34) - 1)) rfl ?_
    refine e_iald hS_2.l53 (hS_2.b53 (b8 g1)) dX7_back_47 ?_
    show E K_X7_back 48 [some (aR (some 26)), some (aI x1), some (aJ x104), none] [aI (mI M2 53 ((mI M2 26 34) - 1).toNatClampNeg), aI (mI M2 29 x1.toNatClampNeg), aI (mI M2 26 35), aR (some 26)] (wrI M2 26 34 ((mI M2 26 34) - 1)) v M'
    refine e_iadd dX7_back_48 ?_
    refine e_isub dX7_back_49 ?_
    refine e_putI ff_7_35 rfl hS_2.l26 w870 dX7_back_50 ?_
    refine e_aload_n dX7_back_53 rfl ?_
    refine e_get ff_7_34 hS_2.l26 w869 dX7_back_54 (w := aI ((mI M2 26 34) - 1)) rfl ?_
    refine e_if_ne (tgt := 66) dX7_back_57 rfl (fun g5 => ?_) (fun g5 => ?_)
    ·
      refine e_aload_n dX7_back_66 rfl ?_
      refine e_dupR dX7_back_67 ?_
      refine e_get ff_7_35 hS_2.l26 w870 dX7_back_68 (w := aI ((mI M2 26 35) - ((mI M2 29 x1.toNatClampNeg) + (mI M2 53 ((mI M2 26 34) - 1).toNatClampNeg)))) rfl ?_
      refine e_iconst (u := 2) dX7_back_71 (by decide) ?_
      refine e_isub dX7_back_72 ?_
      refine e_putI ff_7_35 rfl hS_2.l26 w870 dX7_back_73 ?_
      refine e_aload_n dX7_back_76 rfl ?_
      refine e_get ff_7_1 hS_2.l26 w836 dX7_back_77 (w := aR (some 28)) hS_2.f26_1 ?_
      refine e_iload_n dX7_back_80 rfl ?_
      refine e_iald hS_2.l28 (hS_2.b28 b1) dX7_back_81 ?_
      show E K_X7_back 82 [some (aR (some 26)), some (aI x1), some (aJ x104), none] [aI (mI M2 28 x1.toNatClampNeg)] (wrI (wrI (wrI M2 26 34 ((mI M2 26 34) - 1)) 26 35 ((mI M2 26 35) - ((mI M2 29 x1.toNatClampNeg) + (mI M2 53 ((mI M2 26 34) - 1).toNatClampNeg)))) 26 35 (((mI M2 26 35) - ((mI M2 29 x1.toNatClampNeg) + (mI M2 53 ((mI M2 26 34) - 1).toNatClampNeg))) - 2)) v M'
      refine e_if_le (tgt := 90) dX7_back_82 rfl (fun g6 => ?_) (fun g6 => ?_)
      ·
        exact e_vret rfl dX7_back_90 (k9 g1 g5 g6)
      ·
        refine e_aload_n dX7_back_85 rfl ?_
        refine e_lload_n dX7_back_86 rfl ?_
        refine e_callV (As := [aJ x104]) (rest := []) vk_X7_push hS_2.l26 w1117 ⟨by decide, by decide⟩ (Nat.le_of_ble_eq_true rfl) dX7_back_87 (c10 g1 g5 g6) ?_
        show E K_X7_back 90 [some (aR (some 26)), some (aI x1), some (aJ x104), none] [] M3 v M'
        have hS_3 : St M3 := St.sh (M := (wrI (wrI (wrI M2 26 34 ((mI M2 26 34) - 1)) 26 35 ((mI M2 26 35) - ((mI M2 29 x1.toNatClampNeg) + (mI M2 53 ((mI M2 26 34) - 1).toNatClampNeg)))) 26 35 (((mI M2 26 35) - ((mI M2 29 x1.toNatClampNeg) + (mI M2 53 ((mI M2 26 34) - 1).toNatClampNeg))) - 2))) (c10 g1 g5 g6).2.1 hS_2
        exact e_vret rfl dX7_back_90 (k11 g1 g5 g6)
    ·
      refine e_aload_n dX7_back_60 rfl ?_
      refine e_lload_n dX7_back_61 rfl ?_
      refine e_putJ ff_7_37 rfl hS_2.l26 w872 dX7_back_62 ?_
      exact e_vret rfl dX7_back_65 (k12 g1 g5)

set_option maxRecDepth 20000 in
theorem s_X7_doOne_0 {M M' : AM} {v : Option AV} {x1 : Int32} {x2 : Int32} {M1 : AM} {M2 : AM} {x103 : Int64} {M3 : AM} {M4 : AM} {M5 : AM} {x108 : Int64} {M6 : AM} {M7 : AM} {x112 : Int64} {M8 : AM} {M9 : AM} {M10 : AM} {x120 : Int64} {M11 : AM} {x121 : Int64} {M12 : AM} {x122 : Int64} {M13 : AM} (hS : St M)
    (b1 : vp_in ((120 * x1) + x2) 3840)
    (b2 : vp_in ((mI M 26 34) - 1) 100)
    (c3 : ∀ (g1 : (mI M 31 ((120 * x1) + x2).toNatClampNeg) = 0), Ev K_X7_push [aR (some 26), aJ (mJ M 32 ((120 * x1) + x2).toNatClampNeg)] (wrI M 52 ((mI M 26 34) - 1).toNatClampNeg (x2 + 1)) (none) M1)
    (k4 : ∀ (g1 : (mI M 31 ((120 * x1) + x2).toNatClampNeg) = 0), none = v ∧ M1 = M')
    (c5 : ∀ (g1 : ¬ ((mI M 31 ((120 * x1) + x2).toNatClampNeg) = 0)) (g2 : (mI M 31 ((120 * x1) + x2).toNatClampNeg) = 1), Ev K_X7_take [aR (some 26)] (wrI M 52 ((mI M 26 34) - 1).toNatClampNeg (x2 + 1)) (some (aJ x103)) M2)
    (k6 : ∀ (g1 : ¬ ((mI M 31 ((120 * x1) + x2).toNatClampNeg) = 0)) (g2 : (mI M 31 ((120 * x1) + x2).toNatClampNeg) = 1), none = v ∧ M2 = M')
    (b7 : ∀ (g1 : ¬ ((mI M 31 ((120 * x1) + x2).toNatClampNeg) = 0)) (g2 : ¬ ((mI M 31 ((120 * x1) + x2).toNatClampNeg) = 1)) (g4 : (mI M 31 ((120 * x1) + x2).toNatClampNeg) = 2), vp_in (((101 * ((mI M 26 34) - 1)) + (mI M 53 ((mI M 26 34) - 1).toNatClampNeg)) - 1) 10100)
    (c8 : ∀ (g1 : ¬ ((mI M 31 ((120 * x1) + x2).toNatClampNeg) = 0)) (g2 : ¬ ((mI M 31 ((120 * x1) + x2).toNatClampNeg) = 1)) (g4 : (mI M 31 ((120 * x1) + x2).toNatClampNeg) = 2), Ev K_X7_push [aR (some 26), aJ (mJ M 55 (((101 * ((mI M 26 34) - 1)) + (mI M 53 ((mI M 26 34) - 1).toNatClampNeg)) - 1).toNatClampNeg)] (wrI M 52 ((mI M 26 34) - 1).toNatClampNeg (x2 + 1)) (none) M3)
    (k9 : ∀ (g1 : ¬ ((mI M 31 ((120 * x1) + x2).toNatClampNeg) = 0)) (g2 : ¬ ((mI M 31 ((120 * x1) + x2).toNatClampNeg) = 1)) (g4 : (mI M 31 ((120 * x1) + x2).toNatClampNeg) = 2), none = v ∧ M3 = M')
    (b10 : ∀ (g1 : ¬ ((mI M 31 ((120 * x1) + x2).toNatClampNeg) = 0)) (g2 : ¬ ((mI M 31 ((120 * x1) + x2).toNatClampNeg) = 1)) (g4 : ¬ ((mI M 31 ((120 * x1) + x2).toNatClampNeg) = 2)) (g5 : (mI M 31 ((120 * x1) + x2).toNatClampNeg) = 3), vp_in (((101 * ((mI M 26 34) - 1)) + (mI M 53 ((mI M 26 34) - 1).toNatClampNeg)) - 1) 10100)
    (b11 : ∀ (g1 : ¬ ((mI M 31 ((120 * x1) + x2).toNatClampNeg) = 0)) (g2 : ¬ ((mI M 31 ((120 * x1) + x2).toNatClampNeg) = 1)) (g4 : ¬ ((mI M 31 ((120 * x1) + x2).toNatClampNeg) = 2)) (g5 : (mI M 31 ((120 * x1) + x2).toNatClampNeg) = 3), vp_in (((101 * ((mI M 26 34) - 1)) + (mI M 53 ((mI M 26 34) - 1).toNatClampNeg)) - 2) 10100)
    (k12 : ∀ (g1 : ¬ ((mI M 31 ((120 * x1) + x2).toNatClampNeg) = 0)) (g2 : ¬ ((mI M 31 ((120 * x1) + x2).toNatClampNeg) = 1)) (g4 : ¬ ((mI M 31 ((120 * x1) + x2).toNatClampNeg) = 2)) (g5 : (mI M 31 ((120 * x1) + x2).toNatClampNeg) = 3), none = v ∧ (wrJ (wrJ (wrI M 52 ((mI M 26 34) - 1).toNatClampNeg (x2 + 1)) 55 (((101 * ((mI M 26 34) - 1)) + (mI M 53 ((mI M 26 34) - 1).toNatClampNeg)) - 1).toNatClampNeg (mJ M 55 (((101 * ((mI M 26 34) - 1)) + (mI M 53 ((mI M 26 34) - 1).toNatClampNeg)) - 2).toNatClampNeg)) 55 (((101 * ((mI M 26 34) - 1)) + (mI M 53 ((mI M 26 34) - 1).toNatClampNeg)) - 2).toNatClampNeg (mJ M 55 (((101 * ((mI M 26 34) - 1)) + (mI M 53 ((mI M 26 34) - 1).toNatClampNeg)) - 1).toNatClampNeg)) = M')
    (b13 : ∀ (g1 : ¬ ((mI M 31 ((120 * x1) + x2).toNatClampNeg) = 0)) (g2 : ¬ ((mI M 31 ((120 * x1) + x2).toNatClampNeg) = 1)) (g4 : ¬ ((mI M 31 ((120 * x1) + x2).toNatClampNeg) = 2)) (g5 : ¬ ((mI M 31 ((120 * x1) + x2).toNatClampNeg) = 3)) (g6 : (mI M 31 ((120 * x1) + x2).toNatClampNeg) = 9), vp_in ((16 * ((mI M 26 34) - 1)) + ((mJ M 32 ((120 * x1) + x2).toNatClampNeg : Int64).toInt32)) 1600)
    (c14 : ∀ (g1 : ¬ ((mI M 31 ((120 * x1) + x2).toNatClampNeg) = 0)) (g2 : ¬ ((mI M 31 ((120 * x1) + x2).toNatClampNeg) = 1)) (g4 : ¬ ((mI M 31 ((120 * x1) + x2).toNatClampNeg) = 2)) (g5 : ¬ ((mI M 31 ((120 * x1) + x2).toNatClampNeg) = 3)) (g6 : (mI M 31 ((120 * x1) + x2).toNatClampNeg) = 9), Ev K_X7_push [aR (some 26), aJ (mJ M 54 ((16 * ((mI M 26 34) - 1)) + ((mJ M 32 ((120 * x1) + x2).toNatClampNeg : Int64).toInt32)).toNatClampNeg)] (wrI M 52 ((mI M 26 34) - 1).toNatClampNeg (x2 + 1)) (none) M4)
    (k15 : ∀ (g1 : ¬ ((mI M 31 ((120 * x1) + x2).toNatClampNeg) = 0)) (g2 : ¬ ((mI M 31 ((120 * x1) + x2).toNatClampNeg) = 1)) (g4 : ¬ ((mI M 31 ((120 * x1) + x2).toNatClampNeg) = 2)) (g5 : ¬ ((mI M 31 ((120 * x1) + x2).toNatClampNeg) = 3)) (g6 : (mI M 31 ((120 * x1) + x2).toNatClampNeg) = 9), none = v ∧ M4 = M')
    (c16 : ∀ (g1 : ¬ ((mI M 31 ((120 * x1) + x2).toNatClampNeg) = 0)) (g2 : ¬ ((mI M 31 ((120 * x1) + x2).toNatClampNeg) = 1)) (g4 : ¬ ((mI M 31 ((120 * x1) + x2).toNatClampNeg) = 2)) (g5 : ¬ ((mI M 31 ((120 * x1) + x2).toNatClampNeg) = 3)) (g6 : ¬ ((mI M 31 ((120 * x1) + x2).toNatClampNeg) = 9)) (g7 : (mI M 31 ((120 * x1) + x2).toNatClampNeg) = 10), Ev K_X7_take [aR (some 26)] (wrI M 52 ((mI M 26 34) - 1).toNatClampNeg (x2 + 1)) (some (aJ x108)) M5)
    (b17 : ∀ (g1 : ¬ ((mI M 31 ((120 * x1) + x2).toNatClampNeg) = 0)) (g2 : ¬ ((mI M 31 ((120 * x1) + x2).toNatClampNeg) = 1)) (g4 : ¬ ((mI M 31 ((120 * x1) + x2).toNatClampNeg) = 2)) (g5 : ¬ ((mI M 31 ((120 * x1) + x2).toNatClampNeg) = 3)) (g6 : ¬ ((mI M 31 ((120 * x1) + x2).toNatClampNeg) = 9)) (g7 : (mI M 31 ((120 * x1) + x2).toNatClampNeg) = 10), vp_in ((16 * ((mI M 26 34) - 1)) + ((mJ M 32 ((120 * x1) + x2).toNatClampNeg : Int64).toInt32)) 1600)
    (k18 : ∀ (g1 : ¬ ((mI M 31 ((120 * x1) + x2).toNatClampNeg) = 0)) (g2 : ¬ ((mI M 31 ((120 * x1) + x2).toNatClampNeg) = 1)) (g4 : ¬ ((mI M 31 ((120 * x1) + x2).toNatClampNeg) = 2)) (g5 : ¬ ((mI M 31 ((120 * x1) + x2).toNatClampNeg) = 3)) (g6 : ¬ ((mI M 31 ((120 * x1) + x2).toNatClampNeg) = 9)) (g7 : (mI M 31 ((120 * x1) + x2).toNatClampNeg) = 10), none = v ∧ (wrJ M5 54 ((16 * ((mI M 26 34) - 1)) + ((mJ M 32 ((120 * x1) + x2).toNatClampNeg : Int64).toInt32)).toNatClampNeg x108) = M')
    (b19 : ∀ (g1 : ¬ ((mI M 31 ((120 * x1) + x2).toNatClampNeg) = 0)) (g2 : ¬ ((mI M 31 ((120 * x1) + x2).toNatClampNeg) = 1)) (g4 : ¬ ((mI M 31 ((120 * x1) + x2).toNatClampNeg) = 2)) (g5 : ¬ ((mI M 31 ((120 * x1) + x2).toNatClampNeg) = 3)) (g6 : ¬ ((mI M 31 ((120 * x1) + x2).toNatClampNeg) = 9)) (g7 : ¬ ((mI M 31 ((120 * x1) + x2).toNatClampNeg) = 10)) (g9 : (mI M 31 ((120 * x1) + x2).toNatClampNeg) = 11), vp_in ((((101 * ((mI M 26 34) - 1)) + (mI M 53 ((mI M 26 34) - 1).toNatClampNeg)) - 1) - ((mJ M 32 ((120 * x1) + x2).toNatClampNeg : Int64).toInt32)) 10100)
    (c20 : ∀ (g1 : ¬ ((mI M 31 ((120 * x1) + x2).toNatClampNeg) = 0)) (g2 : ¬ ((mI M 31 ((120 * x1) + x2).toNatClampNeg) = 1)) (g4 : ¬ ((mI M 31 ((120 * x1) + x2).toNatClampNeg) = 2)) (g5 : ¬ ((mI M 31 ((120 * x1) + x2).toNatClampNeg) = 3)) (g6 : ¬ ((mI M 31 ((120 * x1) + x2).toNatClampNeg) = 9)) (g7 : ¬ ((mI M 31 ((120 * x1) + x2).toNatClampNeg) = 10)) (g9 : (mI M 31 ((120 * x1) + x2).toNatClampNeg) = 11), Ev K_X7_push [aR (some 26), aJ (mJ M 55 ((((101 * ((mI M 26 34) - 1)) + (mI M 53 ((mI M 26 34) - 1).toNatClampNeg)) - 1) - ((mJ M 32 ((120 * x1) + x2).toNatClampNeg : Int64).toInt32)).toNatClampNeg)] (wrI M 52 ((mI M 26 34) - 1).toNatClampNeg (x2 + 1)) (none) M6)
    (k21 : ∀ (g1 : ¬ ((mI M 31 ((120 * x1) + x2).toNatClampNeg) = 0)) (g2 : ¬ ((mI M 31 ((120 * x1) + x2).toNatClampNeg) = 1)) (g4 : ¬ ((mI M 31 ((120 * x1) + x2).toNatClampNeg) = 2)) (g5 : ¬ ((mI M 31 ((120 * x1) + x2).toNatClampNeg) = 3)) (g6 : ¬ ((mI M 31 ((120 * x1) + x2).toNatClampNeg) = 9)) (g7 : ¬ ((mI M 31 ((120 * x1) + x2).toNatClampNeg) = 10)) (g9 : (mI M 31 ((120 * x1) + x2).toNatClampNeg) = 11), none = v ∧ M6 = M')
    (k22 : ∀ (g1 : ¬ ((mI M 31 ((120 * x1) + x2).toNatClampNeg) = 0)) (g2 : ¬ ((mI M 31 ((120 * x1) + x2).toNatClampNeg) = 1)) (g4 : ¬ ((mI M 31 ((120 * x1) + x2).toNatClampNeg) = 2)) (g5 : ¬ ((mI M 31 ((120 * x1) + x2).toNatClampNeg) = 3)) (g6 : ¬ ((mI M 31 ((120 * x1) + x2).toNatClampNeg) = 9)) (g7 : ¬ ((mI M 31 ((120 * x1) + x2).toNatClampNeg) = 10)) (g9 : ¬ ((mI M 31 ((120 * x1) + x2).toNatClampNeg) = 11)) (g10 : (mI M 31 ((120 * x1) + x2).toNatClampNeg) = 12), none = v ∧ (wrI (wrI M 52 ((mI M 26 34) - 1).toNatClampNeg (x2 + 1)) 52 ((mI M 26 34) - 1).toNatClampNeg ((mJ M 32 ((120 * x1) + x2).toNatClampNeg : Int64).toInt32)) = M')
    (c23 : ∀ (g1 : ¬ ((mI M 31 ((120 * x1) + x2).toNatClampNeg) = 0)) (g2 : ¬ ((mI M 31 ((120 * x1) + x2).toNatClampNeg) = 1)) (g4 : ¬ ((mI M 31 ((120 * x1) + x2).toNatClampNeg) = 2)) (g5 : ¬ ((mI M 31 ((120 * x1) + x2).toNatClampNeg) = 3)) (g6 : ¬ ((mI M 31 ((120 * x1) + x2).toNatClampNeg) = 9)) (g7 : ¬ ((mI M 31 ((120 * x1) + x2).toNatClampNeg) = 10)) (g9 : ¬ ((mI M 31 ((120 * x1) + x2).toNatClampNeg) = 11)) (g10 : ¬ ((mI M 31 ((120 * x1) + x2).toNatClampNeg) = 12)) (g11 : (mI M 31 ((120 * x1) + x2).toNatClampNeg) = 13), Ev K_X7_take [aR (some 26)] (wrI M 52 ((mI M 26 34) - 1).toNatClampNeg (x2 + 1)) (some (aJ x112)) M7)
    (k24 : ∀ (g1 : ¬ ((mI M 31 ((120 * x1) + x2).toNatClampNeg) = 0)) (g2 : ¬ ((mI M 31 ((120 * x1) + x2).toNatClampNeg) = 1)) (g4 : ¬ ((mI M 31 ((120 * x1) + x2).toNatClampNeg) = 2)) (g5 : ¬ ((mI M 31 ((120 * x1) + x2).toNatClampNeg) = 3)) (g6 : ¬ ((mI M 31 ((120 * x1) + x2).toNatClampNeg) = 9)) (g7 : ¬ ((mI M 31 ((120 * x1) + x2).toNatClampNeg) = 10)) (g9 : ¬ ((mI M 31 ((120 * x1) + x2).toNatClampNeg) = 11)) (g10 : ¬ ((mI M 31 ((120 * x1) + x2).toNatClampNeg) = 12)) (g11 : (mI M 31 ((120 * x1) + x2).toNatClampNeg) = 13) (g13 : ¬ (x112 = 0)), none = v ∧ M7 = M')
    (k25 : ∀ (g1 : ¬ ((mI M 31 ((120 * x1) + x2).toNatClampNeg) = 0)) (g2 : ¬ ((mI M 31 ((120 * x1) + x2).toNatClampNeg) = 1)) (g4 : ¬ ((mI M 31 ((120 * x1) + x2).toNatClampNeg) = 2)) (g5 : ¬ ((mI M 31 ((120 * x1) + x2).toNatClampNeg) = 3)) (g6 : ¬ ((mI M 31 ((120 * x1) + x2).toNatClampNeg) = 9)) (g7 : ¬ ((mI M 31 ((120 * x1) + x2).toNatClampNeg) = 10)) (g9 : ¬ ((mI M 31 ((120 * x1) + x2).toNatClampNeg) = 11)) (g10 : ¬ ((mI M 31 ((120 * x1) + x2).toNatClampNeg) = 12)) (g11 : (mI M 31 ((120 * x1) + x2).toNatClampNeg) = 13) (g13 : x112 = 0), none = v ∧ (wrI M7 52 ((mI M 26 34) - 1).toNatClampNeg ((mJ M7 32 ((120 * x1) + x2).toNatClampNeg : Int64).toInt32)) = M')
    (b26 : ∀ (g1 : ¬ ((mI M 31 ((120 * x1) + x2).toNatClampNeg) = 0)) (g2 : ¬ ((mI M 31 ((120 * x1) + x2).toNatClampNeg) = 1)) (g4 : ¬ ((mI M 31 ((120 * x1) + x2).toNatClampNeg) = 2)) (g5 : ¬ ((mI M 31 ((120 * x1) + x2).toNatClampNeg) = 3)) (g6 : ¬ ((mI M 31 ((120 * x1) + x2).toNatClampNeg) = 9)) (g7 : ¬ ((mI M 31 ((120 * x1) + x2).toNatClampNeg) = 10)) (g9 : ¬ ((mI M 31 ((120 * x1) + x2).toNatClampNeg) = 11)) (g10 : ¬ ((mI M 31 ((120 * x1) + x2).toNatClampNeg) = 12)) (g11 : ¬ ((mI M 31 ((120 * x1) + x2).toNatClampNeg) = 13)) (g14 : (mI M 31 ((120 * x1) + x2).toNatClampNeg) = 14), vp_in (((9 * ((mI M 26 34) - 1)) + (mI M 37 ((120 * x1) + x2).toNatClampNeg)) + 1) 900)
    (k27 : ∀ (g1 : ¬ ((mI M 31 ((120 * x1) + x2).toNatClampNeg) = 0)) (g2 : ¬ ((mI M 31 ((120 * x1) + x2).toNatClampNeg) = 1)) (g4 : ¬ ((mI M 31 ((120 * x1) + x2).toNatClampNeg) = 2)) (g5 : ¬ ((mI M 31 ((120 * x1) + x2).toNatClampNeg) = 3)) (g6 : ¬ ((mI M 31 ((120 * x1) + x2).toNatClampNeg) = 9)) (g7 : ¬ ((mI M 31 ((120 * x1) + x2).toNatClampNeg) = 10)) (g9 : ¬ ((mI M 31 ((120 * x1) + x2).toNatClampNeg) = 11)) (g10 : ¬ ((mI M 31 ((120 * x1) + x2).toNatClampNeg) = 12)) (g11 : ¬ ((mI M 31 ((120 * x1) + x2).toNatClampNeg) = 13)) (g14 : (mI M 31 ((120 * x1) + x2).toNatClampNeg) = 14) (g15 : ¬ ((mJ M 32 ((120 * x1) + x2).toNatClampNeg) = 0)), none = v ∧ (wrI (wrJ (wrI M 52 ((mI M 26 34) - 1).toNatClampNeg (x2 + 1)) 56 (((9 * ((mI M 26 34) - 1)) + (mI M 37 ((120 * x1) + x2).toNatClampNeg)) + 1).toNatClampNeg (mJ M 32 ((120 * x1) + x2).toNatClampNeg)) 52 ((mI M 26 34) - 1).toNatClampNeg (x2 + 1)) = M')
    (k28 : ∀ (g1 : ¬ ((mI M 31 ((120 * x1) + x2).toNatClampNeg) = 0)) (g2 : ¬ ((mI M 31 ((120 * x1) + x2).toNatClampNeg) = 1)) (g4 : ¬ ((mI M 31 ((120 * x1) + x2).toNatClampNeg) = 2)) (g5 : ¬ ((mI M 31 ((120 * x1) + x2).toNatClampNeg) = 3)) (g6 : ¬ ((mI M 31 ((120 * x1) + x2).toNatClampNeg) = 9)) (g7 : ¬ ((mI M 31 ((120 * x1) + x2).toNatClampNeg) = 10)) (g9 : ¬ ((mI M 31 ((120 * x1) + x2).toNatClampNeg) = 11)) (g10 : ¬ ((mI M 31 ((120 * x1) + x2).toNatClampNeg) = 12)) (g11 : ¬ ((mI M 31 ((120 * x1) + x2).toNatClampNeg) = 13)) (g14 : (mI M 31 ((120 * x1) + x2).toNatClampNeg) = 14) (g15 : (mJ M 32 ((120 * x1) + x2).toNatClampNeg) = 0), none = v ∧ (wrI (wrJ (wrI M 52 ((mI M 26 34) - 1).toNatClampNeg (x2 + 1)) 56 (((9 * ((mI M 26 34) - 1)) + (mI M 37 ((120 * x1) + x2).toNatClampNeg)) + 1).toNatClampNeg (mJ M 32 ((120 * x1) + x2).toNatClampNeg)) 52 ((mI M 26 34) - 1).toNatClampNeg ((mI M 36 ((120 * x1) + x2).toNatClampNeg) + 1)) = M')
    (b29 : ∀ (g1 : ¬ ((mI M 31 ((120 * x1) + x2).toNatClampNeg) = 0)) (g2 : ¬ ((mI M 31 ((120 * x1) + x2).toNatClampNeg) = 1)) (g4 : ¬ ((mI M 31 ((120 * x1) + x2).toNatClampNeg) = 2)) (g5 : ¬ ((mI M 31 ((120 * x1) + x2).toNatClampNeg) = 3)) (g6 : ¬ ((mI M 31 ((120 * x1) + x2).toNatClampNeg) = 9)) (g7 : ¬ ((mI M 31 ((120 * x1) + x2).toNatClampNeg) = 10)) (g9 : ¬ ((mI M 31 ((120 * x1) + x2).toNatClampNeg) = 11)) (g10 : ¬ ((mI M 31 ((120 * x1) + x2).toNatClampNeg) = 12)) (g11 : ¬ ((mI M 31 ((120 * x1) + x2).toNatClampNeg) = 13)) (g14 : ¬ ((mI M 31 ((120 * x1) + x2).toNatClampNeg) = 14)) (g16 : (mI M 31 ((120 * x1) + x2).toNatClampNeg) = 15), vp_in ((9 * ((mI M 26 34) - 1)) + (mI M 37 ((120 * x1) + x2).toNatClampNeg)) 900)
    (k30 : ∀ (g1 : ¬ ((mI M 31 ((120 * x1) + x2).toNatClampNeg) = 0)) (g2 : ¬ ((mI M 31 ((120 * x1) + x2).toNatClampNeg) = 1)) (g4 : ¬ ((mI M 31 ((120 * x1) + x2).toNatClampNeg) = 2)) (g5 : ¬ ((mI M 31 ((120 * x1) + x2).toNatClampNeg) = 3)) (g6 : ¬ ((mI M 31 ((120 * x1) + x2).toNatClampNeg) = 9)) (g7 : ¬ ((mI M 31 ((120 * x1) + x2).toNatClampNeg) = 10)) (g9 : ¬ ((mI M 31 ((120 * x1) + x2).toNatClampNeg) = 11)) (g10 : ¬ ((mI M 31 ((120 * x1) + x2).toNatClampNeg) = 12)) (g11 : ¬ ((mI M 31 ((120 * x1) + x2).toNatClampNeg) = 13)) (g14 : ¬ ((mI M 31 ((120 * x1) + x2).toNatClampNeg) = 14)) (g16 : (mI M 31 ((120 * x1) + x2).toNatClampNeg) = 15) (g17 : ¬ (0 < (mJ (wrJ (wrI M 52 ((mI M 26 34) - 1).toNatClampNeg (x2 + 1)) 56 ((9 * ((mI M 26 34) - 1)) + (mI M 37 ((120 * x1) + x2).toNatClampNeg)).toNatClampNeg ((mJ M 56 ((9 * ((mI M 26 34) - 1)) + (mI M 37 ((120 * x1) + x2).toNatClampNeg)).toNatClampNeg) - 1)) 56 ((9 * ((mI M 26 34) - 1)) + (mI M 37 ((120 * x1) + x2).toNatClampNeg)).toNatClampNeg))), none = v ∧ (wrI (wrJ (wrI M 52 ((mI M 26 34) - 1).toNatClampNeg (x2 + 1)) 56 ((9 * ((mI M 26 34) - 1)) + (mI M 37 ((120 * x1) + x2).toNatClampNeg)).toNatClampNeg ((mJ M 56 ((9 * ((mI M 26 34) - 1)) + (mI M 37 ((120 * x1) + x2).toNatClampNeg)).toNatClampNeg) - 1)) 52 ((mI M 26 34) - 1).toNatClampNeg (x2 + 1)) = M')
    (k31 : ∀ (g1 : ¬ ((mI M 31 ((120 * x1) + x2).toNatClampNeg) = 0)) (g2 : ¬ ((mI M 31 ((120 * x1) + x2).toNatClampNeg) = 1)) (g4 : ¬ ((mI M 31 ((120 * x1) + x2).toNatClampNeg) = 2)) (g5 : ¬ ((mI M 31 ((120 * x1) + x2).toNatClampNeg) = 3)) (g6 : ¬ ((mI M 31 ((120 * x1) + x2).toNatClampNeg) = 9)) (g7 : ¬ ((mI M 31 ((120 * x1) + x2).toNatClampNeg) = 10)) (g9 : ¬ ((mI M 31 ((120 * x1) + x2).toNatClampNeg) = 11)) (g10 : ¬ ((mI M 31 ((120 * x1) + x2).toNatClampNeg) = 12)) (g11 : ¬ ((mI M 31 ((120 * x1) + x2).toNatClampNeg) = 13)) (g14 : ¬ ((mI M 31 ((120 * x1) + x2).toNatClampNeg) = 14)) (g16 : (mI M 31 ((120 * x1) + x2).toNatClampNeg) = 15) (g17 : 0 < (mJ (wrJ (wrI M 52 ((mI M 26 34) - 1).toNatClampNeg (x2 + 1)) 56 ((9 * ((mI M 26 34) - 1)) + (mI M 37 ((120 * x1) + x2).toNatClampNeg)).toNatClampNeg ((mJ M 56 ((9 * ((mI M 26 34) - 1)) + (mI M 37 ((120 * x1) + x2).toNatClampNeg)).toNatClampNeg) - 1)) 56 ((9 * ((mI M 26 34) - 1)) + (mI M 37 ((120 * x1) + x2).toNatClampNeg)).toNatClampNeg)), none = v ∧ (wrI (wrJ (wrI M 52 ((mI M 26 34) - 1).toNatClampNeg (x2 + 1)) 56 ((9 * ((mI M 26 34) - 1)) + (mI M 37 ((120 * x1) + x2).toNatClampNeg)).toNatClampNeg ((mJ M 56 ((9 * ((mI M 26 34) - 1)) + (mI M 37 ((120 * x1) + x2).toNatClampNeg)).toNatClampNeg) - 1)) 52 ((mI M 26 34) - 1).toNatClampNeg ((mI M 36 ((120 * x1) + x2).toNatClampNeg) + 1)) = M')
    (c32 : ∀ (g1 : ¬ ((mI M 31 ((120 * x1) + x2).toNatClampNeg) = 0)) (g2 : ¬ ((mI M 31 ((120 * x1) + x2).toNatClampNeg) = 1)) (g4 : ¬ ((mI M 31 ((120 * x1) + x2).toNatClampNeg) = 2)) (g5 : ¬ ((mI M 31 ((120 * x1) + x2).toNatClampNeg) = 3)) (g6 : ¬ ((mI M 31 ((120 * x1) + x2).toNatClampNeg) = 9)) (g7 : ¬ ((mI M 31 ((120 * x1) + x2).toNatClampNeg) = 10)) (g9 : ¬ ((mI M 31 ((120 * x1) + x2).toNatClampNeg) = 11)) (g10 : ¬ ((mI M 31 ((120 * x1) + x2).toNatClampNeg) = 12)) (g11 : ¬ ((mI M 31 ((120 * x1) + x2).toNatClampNeg) = 13)) (g14 : ¬ ((mI M 31 ((120 * x1) + x2).toNatClampNeg) = 14)) (g16 : ¬ ((mI M 31 ((120 * x1) + x2).toNatClampNeg) = 15)) (g18 : (mI M 31 ((120 * x1) + x2).toNatClampNeg) = 16), Ev K_X7_call [aR (some 26), aI ((mJ M 32 ((120 * x1) + x2).toNatClampNeg : Int64).toInt32)] (wrI M 52 ((mI M 26 34) - 1).toNatClampNeg (x2 + 1)) (none) M8)
    (k33 : ∀ (g1 : ¬ ((mI M 31 ((120 * x1) + x2).toNatClampNeg) = 0)) (g2 : ¬ ((mI M 31 ((120 * x1) + x2).toNatClampNeg) = 1)) (g4 : ¬ ((mI M 31 ((120 * x1) + x2).toNatClampNeg) = 2)) (g5 : ¬ ((mI M 31 ((120 * x1) + x2).toNatClampNeg) = 3)) (g6 : ¬ ((mI M 31 ((120 * x1) + x2).toNatClampNeg) = 9)) (g7 : ¬ ((mI M 31 ((120 * x1) + x2).toNatClampNeg) = 10)) (g9 : ¬ ((mI M 31 ((120 * x1) + x2).toNatClampNeg) = 11)) (g10 : ¬ ((mI M 31 ((120 * x1) + x2).toNatClampNeg) = 12)) (g11 : ¬ ((mI M 31 ((120 * x1) + x2).toNatClampNeg) = 13)) (g14 : ¬ ((mI M 31 ((120 * x1) + x2).toNatClampNeg) = 14)) (g16 : ¬ ((mI M 31 ((120 * x1) + x2).toNatClampNeg) = 15)) (g18 : (mI M 31 ((120 * x1) + x2).toNatClampNeg) = 16), none = v ∧ M8 = M')
    (c34 : ∀ (g1 : ¬ ((mI M 31 ((120 * x1) + x2).toNatClampNeg) = 0)) (g2 : ¬ ((mI M 31 ((120 * x1) + x2).toNatClampNeg) = 1)) (g4 : ¬ ((mI M 31 ((120 * x1) + x2).toNatClampNeg) = 2)) (g5 : ¬ ((mI M 31 ((120 * x1) + x2).toNatClampNeg) = 3)) (g6 : ¬ ((mI M 31 ((120 * x1) + x2).toNatClampNeg) = 9)) (g7 : ¬ ((mI M 31 ((120 * x1) + x2).toNatClampNeg) = 10)) (g9 : ¬ ((mI M 31 ((120 * x1) + x2).toNatClampNeg) = 11)) (g10 : ¬ ((mI M 31 ((120 * x1) + x2).toNatClampNeg) = 12)) (g11 : ¬ ((mI M 31 ((120 * x1) + x2).toNatClampNeg) = 13)) (g14 : ¬ ((mI M 31 ((120 * x1) + x2).toNatClampNeg) = 14)) (g16 : ¬ ((mI M 31 ((120 * x1) + x2).toNatClampNeg) = 15)) (g18 : ¬ ((mI M 31 ((120 * x1) + x2).toNatClampNeg) = 16)) (g19 : (mI M 31 ((120 * x1) + x2).toNatClampNeg) = 17), Ev K_X7_back [aR (some 26), aI x1] (wrI M 52 ((mI M 26 34) - 1).toNatClampNeg (x2 + 1)) (none) M9)
    (k35 : ∀ (g1 : ¬ ((mI M 31 ((120 * x1) + x2).toNatClampNeg) = 0)) (g2 : ¬ ((mI M 31 ((120 * x1) + x2).toNatClampNeg) = 1)) (g4 : ¬ ((mI M 31 ((120 * x1) + x2).toNatClampNeg) = 2)) (g5 : ¬ ((mI M 31 ((120 * x1) + x2).toNatClampNeg) = 3)) (g6 : ¬ ((mI M 31 ((120 * x1) + x2).toNatClampNeg) = 9)) (g7 : ¬ ((mI M 31 ((120 * x1) + x2).toNatClampNeg) = 10)) (g9 : ¬ ((mI M 31 ((120 * x1) + x2).toNatClampNeg) = 11)) (g10 : ¬ ((mI M 31 ((120 * x1) + x2).toNatClampNeg) = 12)) (g11 : ¬ ((mI M 31 ((120 * x1) + x2).toNatClampNeg) = 13)) (g14 : ¬ ((mI M 31 ((120 * x1) + x2).toNatClampNeg) = 14)) (g16 : ¬ ((mI M 31 ((120 * x1) + x2).toNatClampNeg) = 15)) (g18 : ¬ ((mI M 31 ((120 * x1) + x2).toNatClampNeg) = 16)) (g19 : (mI M 31 ((120 * x1) + x2).toNatClampNeg) = 17), none = v ∧ M9 = M')
    (c36 : ∀ (g1 : ¬ ((mI M 31 ((120 * x1) + x2).toNatClampNeg) = 0)) (g2 : ¬ ((mI M 31 ((120 * x1) + x2).toNatClampNeg) = 1)) (g4 : ¬ ((mI M 31 ((120 * x1) + x2).toNatClampNeg) = 2)) (g5 : ¬ ((mI M 31 ((120 * x1) + x2).toNatClampNeg) = 3)) (g6 : ¬ ((mI M 31 ((120 * x1) + x2).toNatClampNeg) = 9)) (g7 : ¬ ((mI M 31 ((120 * x1) + x2).toNatClampNeg) = 10)) (g9 : ¬ ((mI M 31 ((120 * x1) + x2).toNatClampNeg) = 11)) (g10 : ¬ ((mI M 31 ((120 * x1) + x2).toNatClampNeg) = 12)) (g11 : ¬ ((mI M 31 ((120 * x1) + x2).toNatClampNeg) = 13)) (g14 : ¬ ((mI M 31 ((120 * x1) + x2).toNatClampNeg) = 14)) (g16 : ¬ ((mI M 31 ((120 * x1) + x2).toNatClampNeg) = 15)) (g18 : ¬ ((mI M 31 ((120 * x1) + x2).toNatClampNeg) = 16)) (g19 : ¬ ((mI M 31 ((120 * x1) + x2).toNatClampNeg) = 17)), Ev K_X7_take [aR (some 26)] (wrI M 52 ((mI M 26 34) - 1).toNatClampNeg (x2 + 1)) (some (aJ x120)) M10)
    (c37 : ∀ (g1 : ¬ ((mI M 31 ((120 * x1) + x2).toNatClampNeg) = 0)) (g2 : ¬ ((mI M 31 ((120 * x1) + x2).toNatClampNeg) = 1)) (g4 : ¬ ((mI M 31 ((120 * x1) + x2).toNatClampNeg) = 2)) (g5 : ¬ ((mI M 31 ((120 * x1) + x2).toNatClampNeg) = 3)) (g6 : ¬ ((mI M 31 ((120 * x1) + x2).toNatClampNeg) = 9)) (g7 : ¬ ((mI M 31 ((120 * x1) + x2).toNatClampNeg) = 10)) (g9 : ¬ ((mI M 31 ((120 * x1) + x2).toNatClampNeg) = 11)) (g10 : ¬ ((mI M 31 ((120 * x1) + x2).toNatClampNeg) = 12)) (g11 : ¬ ((mI M 31 ((120 * x1) + x2).toNatClampNeg) = 13)) (g14 : ¬ ((mI M 31 ((120 * x1) + x2).toNatClampNeg) = 14)) (g16 : ¬ ((mI M 31 ((120 * x1) + x2).toNatClampNeg) = 15)) (g18 : ¬ ((mI M 31 ((120 * x1) + x2).toNatClampNeg) = 16)) (g19 : ¬ ((mI M 31 ((120 * x1) + x2).toNatClampNeg) = 17)), Ev K_X7_take [aR (some 26)] M10 (some (aJ x121)) M11)
    (c38 : ∀ (g1 : ¬ ((mI M 31 ((120 * x1) + x2).toNatClampNeg) = 0)) (g2 : ¬ ((mI M 31 ((120 * x1) + x2).toNatClampNeg) = 1)) (g4 : ¬ ((mI M 31 ((120 * x1) + x2).toNatClampNeg) = 2)) (g5 : ¬ ((mI M 31 ((120 * x1) + x2).toNatClampNeg) = 3)) (g6 : ¬ ((mI M 31 ((120 * x1) + x2).toNatClampNeg) = 9)) (g7 : ¬ ((mI M 31 ((120 * x1) + x2).toNatClampNeg) = 10)) (g9 : ¬ ((mI M 31 ((120 * x1) + x2).toNatClampNeg) = 11)) (g10 : ¬ ((mI M 31 ((120 * x1) + x2).toNatClampNeg) = 12)) (g11 : ¬ ((mI M 31 ((120 * x1) + x2).toNatClampNeg) = 13)) (g14 : ¬ ((mI M 31 ((120 * x1) + x2).toNatClampNeg) = 14)) (g16 : ¬ ((mI M 31 ((120 * x1) + x2).toNatClampNeg) = 15)) (g18 : ¬ ((mI M 31 ((120 * x1) + x2).toNatClampNeg) = 16)) (g19 : ¬ ((mI M 31 ((120 * x1) + x2).toNatClampNeg) = 17)), Ev K_X7_work [aI (mI M11 31 ((120 * x1) + x2).toNatClampNeg), aJ x121, aJ x120] M11 (some (aJ x122)) M12)
    (c39 : ∀ (g1 : ¬ ((mI M 31 ((120 * x1) + x2).toNatClampNeg) = 0)) (g2 : ¬ ((mI M 31 ((120 * x1) + x2).toNatClampNeg) = 1)) (g4 : ¬ ((mI M 31 ((120 * x1) + x2).toNatClampNeg) = 2)) (g5 : ¬ ((mI M 31 ((120 * x1) + x2).toNatClampNeg) = 3)) (g6 : ¬ ((mI M 31 ((120 * x1) + x2).toNatClampNeg) = 9)) (g7 : ¬ ((mI M 31 ((120 * x1) + x2).toNatClampNeg) = 10)) (g9 : ¬ ((mI M 31 ((120 * x1) + x2).toNatClampNeg) = 11)) (g10 : ¬ ((mI M 31 ((120 * x1) + x2).toNatClampNeg) = 12)) (g11 : ¬ ((mI M 31 ((120 * x1) + x2).toNatClampNeg) = 13)) (g14 : ¬ ((mI M 31 ((120 * x1) + x2).toNatClampNeg) = 14)) (g16 : ¬ ((mI M 31 ((120 * x1) + x2).toNatClampNeg) = 15)) (g18 : ¬ ((mI M 31 ((120 * x1) + x2).toNatClampNeg) = 16)) (g19 : ¬ ((mI M 31 ((120 * x1) + x2).toNatClampNeg) = 17)), Ev K_X7_push [aR (some 26), aJ x122] M12 (none) M13)
    (k40 : ∀ (g1 : ¬ ((mI M 31 ((120 * x1) + x2).toNatClampNeg) = 0)) (g2 : ¬ ((mI M 31 ((120 * x1) + x2).toNatClampNeg) = 1)) (g4 : ¬ ((mI M 31 ((120 * x1) + x2).toNatClampNeg) = 2)) (g5 : ¬ ((mI M 31 ((120 * x1) + x2).toNatClampNeg) = 3)) (g6 : ¬ ((mI M 31 ((120 * x1) + x2).toNatClampNeg) = 9)) (g7 : ¬ ((mI M 31 ((120 * x1) + x2).toNatClampNeg) = 10)) (g9 : ¬ ((mI M 31 ((120 * x1) + x2).toNatClampNeg) = 11)) (g10 : ¬ ((mI M 31 ((120 * x1) + x2).toNatClampNeg) = 12)) (g11 : ¬ ((mI M 31 ((120 * x1) + x2).toNatClampNeg) = 13)) (g14 : ¬ ((mI M 31 ((120 * x1) + x2).toNatClampNeg) = 14)) (g16 : ¬ ((mI M 31 ((120 * x1) + x2).toNatClampNeg) = 15)) (g18 : ¬ ((mI M 31 ((120 * x1) + x2).toNatClampNeg) = 16)) (g19 : ¬ ((mI M 31 ((120 * x1) + x2).toNatClampNeg) = 17)), none = v ∧ M13 = M') :
    Ev K_X7_doOne [aR (some 26), aI x1, aI x2] M v M' := by
  refine ⟨Nat.le_of_ble_eq_true rfl, ?_⟩
  show E K_X7_doOne 0 [some (aR (some 26)), some (aI x1), some (aI x2), none, none, none, none, none, none, none, none, none, none, none] [] M v M'
  refine e_bipush (u := 120) dX7_doOne_0 (by decide) ?_
  refine e_iload_n dX7_doOne_2 rfl ?_
  refine e_imul dX7_doOne_3 ?_
  refine e_iload_n dX7_doOne_4 rfl ?_
  refine e_iadd dX7_doOne_5 ?_
  refine e_istore_n dX7_doOne_6 (Nat.le_of_ble_eq_true rfl) ?_
  show E K_X7_doOne 7 [some (aR (some 26)), some (aI x1), some (aI x2), some (aI ((120 * x1) + x2)), none, none, none, none, none, none, none, none, none, none] [] M v M'
  refine e_aload_n dX7_doOne_7 rfl ?_
  refine e_get ff_7_34 hS.l26 w869 dX7_doOne_8 (w := aI (mI M 26 34)) rfl ?_
  refine e_iconst (u := 1) dX7_doOne_11 (by decide) ?_
  refine e_isub dX7_doOne_12 ?_
  refine e_istore dX7_doOne_13 (Nat.le_of_ble_eq_true rfl) ?_
  show E K_X7_doOne 15 [some (aR (some 26)), some (aI x1), some (aI x2), some (aI ((120 * x1) + x2)), some (aI ((mI M 26 34) - 1)), none, none, none, none, none, none, none, none, none] [] M v M'
  refine e_bipush (u := 9) dX7_doOne_15 (by decide) ?_
  refine e_iload dX7_doOne_17 rfl ?_
  refine e_imul dX7_doOne_19 ?_
  refine e_aload_n dX7_doOne_20 rfl ?_
  refine e_get ff_7_13 hS.l26 w848 dX7_doOne_21 (w := aR (some 37)) hS.f26_13 ?_
  refine e_iload_n dX7_doOne_24 rfl ?_
  refine e_iald hS.l37 (hS.b37 b1) dX7_doOne_25 ?_
  refine e_iadd dX7_doOne_26 ?_
  refine e_istore dX7_doOne_27 (Nat.le_of_ble_eq_true rfl) ?_
  show E K_X7_doOne 29 [some (aR (some 26)), some (aI x1), some (aI x2), some (aI ((120 * x1) + x2)), some (aI ((mI M 26 34) - 1)), some (aI ((9 * ((mI M 26 34) - 1)) + (mI M 37 ((120 * x1) + x2).toNatClampNeg))), none, none, none, none, none, none, none, none] [] M v M'
  refine e_aload_n dX7_doOne_29 rfl ?_
  refine e_get ff_7_29 hS.l26 w864 dX7_doOne_30 (w := aR (some 52)) hS.f26_29 ?_
  refine e_iload dX7_doOne_33 rfl ?_
  refine e_iload_n dX7_doOne_35 rfl ?_
  refine e_iconst (u := 1) dX7_doOne_36 (by decide) ?_
  refine e_iadd dX7_doOne_37 ?_
  refine e_iast hS.l52 (hS.b52 b2) dX7_doOne_38 ?_
  refine e_aload_n dX7_doOne_39 rfl ?_
  refine e_get ff_7_5 hS.l26 w840 dX7_doOne_40 (w := aR (some 31)) hS.f26_5 ?_
  refine e_iload_n dX7_doOne_43 rfl ?_
  refine e_iald hS.l31 (hS.b31 b1) dX7_doOne_44 ?_
  show E K_X7_doOne 45 [some (aR (some 26)), some (aI x1), some (aI x2), some (aI ((120 * x1) + x2)), some (aI ((mI M 26 34) - 1)), some (aI ((9 * ((mI M 26 34) - 1)) + (mI M 37 ((120 * x1) + x2).toNatClampNeg))), none, none, none, none, none, none, none, none] [aI (mI M 31 ((120 * x1) + x2).toNatClampNeg)] (wrI M 52 ((mI M 26 34) - 1).toNatClampNeg (x2 + 1)) v M'
  refine e_tsw (d := 515) (tg := [132, 145, 154, 181, 515, 515, 515, 515, 515, 268, 293, 318, 353, 370, 396, 446, 493, 507]) dX7_doOne_45 rfl rfl rfl ?_
  by_cases g1 : (mI M 31 ((120 * x1) + x2).toNatClampNeg) = 0
  · have e9 : tsw 0 [132, 145, 154, 181, 515, 515, 515, 515, 515, 268, 293, 318, 353, 370, 396, 446, 493, 507] 515 (mI M 31 ((120 * x1) + x2).toNatClampNeg) = 132 := by rw [g1]; rfl
    rw [e9]
    refine e_aload_n dX7_doOne_132 rfl ?_
    refine e_aload_n dX7_doOne_133 rfl ?_
    refine e_get ff_7_6 hS.l26 w841 dX7_doOne_134 (w := aR (some 32)) hS.f26_6 ?_
    refine e_iload_n dX7_doOne_137 rfl ?_
    refine e_lald hS.l32 (hS.b32 b1) dX7_doOne_138 ?_
    show E K_X7_doOne 139 [some (aR (some 26)), some (aI x1), some (aI x2), some (aI ((120 * x1) + x2)), some (aI ((mI M 26 34) - 1)), some (aI ((9 * ((mI M 26 34) - 1)) + (mI M 37 ((120 * x1) + x2).toNatClampNeg))), none, none, none, none, none, none, none, none] [aJ (mJ M 32 ((120 * x1) + x2).toNatClampNeg), aR (some 26)] (wrI M 52 ((mI M 26 34) - 1).toNatClampNeg (x2 + 1)) v M'
    refine e_callV (As := [aJ (mJ M 32 ((120 * x1) + x2).toNatClampNeg)]) (rest := []) vk_X7_push hS.l26 w1117 ⟨by decide, by decide⟩ (Nat.le_of_ble_eq_true rfl) dX7_doOne_139 (c3 g1) ?_
    show E K_X7_doOne 142 [some (aR (some 26)), some (aI x1), some (aI x2), some (aI ((120 * x1) + x2)), some (aI ((mI M 26 34) - 1)), some (aI ((9 * ((mI M 26 34) - 1)) + (mI M 37 ((120 * x1) + x2).toNatClampNeg))), none, none, none, none, none, none, none, none] [] M1 v M'
    have hS_1 : St M1 := St.sh (M := (wrI M 52 ((mI M 26 34) - 1).toNatClampNeg (x2 + 1))) (c3 g1).2.1 hS
    refine e_goto (tgt := 544) dX7_doOne_142 rfl ?_
    exact e_vret rfl dX7_doOne_544 (k4 g1)
  by_cases g2 : (mI M 31 ((120 * x1) + x2).toNatClampNeg) = 1
  · have e9 : tsw 0 [132, 145, 154, 181, 515, 515, 515, 515, 515, 268, 293, 318, 353, 370, 396, 446, 493, 507] 515 (mI M 31 ((120 * x1) + x2).toNatClampNeg) = 145 := by rw [g2]; rfl
    rw [e9]
    refine e_aload_n dX7_doOne_145 rfl ?_
    refine e_callV (As := []) (rest := []) vk_X7_take hS.l26 w1121 ⟨by decide, by decide⟩ (Nat.le_of_ble_eq_true rfl) dX7_doOne_146 (c5 g1 g2) ?_
    show E K_X7_doOne 149 [some (aR (some 26)), some (aI x1), some (aI x2), some (aI ((120 * x1) + x2)), some (aI ((mI M 26 34) - 1)), some (aI ((9 * ((mI M 26 34) - 1)) + (mI M 37 ((120 * x1) + x2).toNatClampNeg))), none, none, none, none, none, none, none, none] [aJ x103] M2 v M'
    have hS_2 : St M2 := St.sh (M := (wrI M 52 ((mI M 26 34) - 1).toNatClampNeg (x2 + 1))) (c5 g1 g2).2.1 hS
    refine e_lstore dX7_doOne_149 (Nat.le_of_ble_eq_true rfl) ?_
    show E K_X7_doOne 151 [some (aR (some 26)), some (aI x1), some (aI x2), some (aI ((120 * x1) + x2)), some (aI ((mI M 26 34) - 1)), some (aI ((9 * ((mI M 26 34) - 1)) + (mI M 37 ((120 * x1) + x2).toNatClampNeg))), some (aJ x103), none, none, none, none, none, none, none] [] M2 v M'
    refine e_goto (tgt := 544) dX7_doOne_151 rfl ?_
    exact e_vret rfl dX7_doOne_544 (k6 g1 g2)
  by_cases g4 : (mI M 31 ((120 * x1) + x2).toNatClampNeg) = 2
  · have e9 : tsw 0 [132, 145, 154, 181, 515, 515, 515, 515, 515, 268, 293, 318, 353, 370, 396, 446, 493, 507] 515 (mI M 31 ((120 * x1) + x2).toNatClampNeg) = 154 := by rw [g4]; rfl
    rw [e9]
    refine e_aload_n dX7_doOne_154 rfl ?_
    refine e_aload_n dX7_doOne_155 rfl ?_
    refine e_get ff_7_32 hS.l26 w867 dX7_doOne_156 (w := aR (some 55)) hS.f26_32 ?_
    refine e_bipush (u := 101) dX7_doOne_159 (by decide) ?_
    refine e_iload dX7_doOne_161 rfl ?_
    refine e_imul dX7_doOne_163 ?_
    refine e_aload_n dX7_doOne_164 rfl ?_
    refine e_get ff_7_30 hS.l26 w865 dX7_doOne_165 (w := aR (some 53)) hS.f26_30 ?_
    refine e_iload dX7_doOne_168 rfl ?_
    refine e_iald hS.l53 (hS.b53 b2) dX7_doOne_170 ?_
    show E K_X7_doOne 171 [some (aR (some 26)), some (aI x1), some (aI x2), some (aI ((120 * x1) + x2)), some (aI ((mI M 26 34) - 1)), some (aI ((9 * ((mI M 26 34) - 1)) + (mI M 37 ((120 * x1) + x2).toNatClampNeg))), none, none, none, none, none, none, none, none] [aI (mI M 53 ((mI M 26 34) - 1).toNatClampNeg), aI (101 * ((mI M 26 34) - 1)), aR (some 55), aR (some 26)] (wrI M 52 ((mI M 26 34) - 1).toNatClampNeg (x2 + 1)) v M'
    refine e_iadd dX7_doOne_171 ?_
    refine e_iconst (u := 1) dX7_doOne_172 (by decide) ?_
    refine e_isub dX7_doOne_173 ?_
    refine e_lald hS.l55 (hS.b55 (b7 g1 g2 g4)) dX7_doOne_174 ?_
    show E K_X7_doOne 175 [some (aR (some 26)), some (aI x1), some (aI x2), some (aI ((120 * x1) + x2)), some (aI ((mI M 26 34) - 1)), some (aI ((9 * ((mI M 26 34) - 1)) + (mI M 37 ((120 * x1) + x2).toNatClampNeg))), none, none, none, none, none, none, none, none] [aJ (mJ M 55 (((101 * ((mI M 26 34) - 1)) + (mI M 53 ((mI M 26 34) - 1).toNatClampNeg)) - 1).toNatClampNeg), aR (some 26)] (wrI M 52 ((mI M 26 34) - 1).toNatClampNeg (x2 + 1)) v M'
    refine e_callV (As := [aJ (mJ M 55 (((101 * ((mI M 26 34) - 1)) + (mI M 53 ((mI M 26 34) - 1).toNatClampNeg)) - 1).toNatClampNeg)]) (rest := []) vk_X7_push hS.l26 w1117 ⟨by decide, by decide⟩ (Nat.le_of_ble_eq_true rfl) dX7_doOne_175 (c8 g1 g2 g4) ?_
    show E K_X7_doOne 178 [some (aR (some 26)), some (aI x1), some (aI x2), some (aI ((120 * x1) + x2)), some (aI ((mI M 26 34) - 1)), some (aI ((9 * ((mI M 26 34) - 1)) + (mI M 37 ((120 * x1) + x2).toNatClampNeg))), none, none, none, none, none, none, none, none] [] M3 v M'
    have hS_3 : St M3 := St.sh (M := (wrI M 52 ((mI M 26 34) - 1).toNatClampNeg (x2 + 1))) (c8 g1 g2 g4).2.1 hS
    refine e_goto (tgt := 544) dX7_doOne_178 rfl ?_
    exact e_vret rfl dX7_doOne_544 (k9 g1 g2 g4)
  by_cases g5 : (mI M 31 ((120 * x1) + x2).toNatClampNeg) = 3
  · have e9 : tsw 0 [132, 145, 154, 181, 515, 515, 515, 515, 515, 268, 293, 318, 353, 370, 396, 446, 493, 507] 515 (mI M 31 ((120 * x1) + x2).toNatClampNeg) = 181 := by rw [g5]; rfl
    rw [e9]
    refine e_aload_n dX7_doOne_181 rfl ?_
    refine e_get ff_7_32 hS.l26 w867 dX7_doOne_182 (w := aR (some 55)) hS.f26_32 ?_
    refine e_bipush (u := 101) dX7_doOne_185 (by decide) ?_
    refine e_iload dX7_doOne_187 rfl ?_
    refine e_imul dX7_doOne_189 ?_
    refine e_aload_n dX7_doOne_190 rfl ?_
    refine e_get ff_7_30 hS.l26 w865 dX7_doOne_191 (w := aR (some 53)) hS.f26_30 ?_
    refine e_iload dX7_doOne_194 rfl ?_
    refine e_iald hS.l53 (hS.b53 b2) dX7_doOne_196 ?_
    show E K_X7_doOne 197 [some (aR (some 26)), some (aI x1), some (aI x2), some (aI ((120 * x1) + x2)), some (aI ((mI M 26 34) - 1)), some (aI ((9 * ((mI M 26 34) - 1)) + (mI M 37 ((120 * x1) + x2).toNatClampNeg))), none, none, none, none, none, none, none, none] [aI (mI M 53 ((mI M 26 34) - 1).toNatClampNeg), aI (101 * ((mI M 26 34) - 1)), aR (some 55)] (wrI M 52 ((mI M 26 34) - 1).toNatClampNeg (x2 + 1)) v M'
    refine e_iadd dX7_doOne_197 ?_
    refine e_iconst (u := 1) dX7_doOne_198 (by decide) ?_
    refine e_isub dX7_doOne_199 ?_
    refine e_lald hS.l55 (hS.b55 (b10 g1 g2 g4 g5)) dX7_doOne_200 ?_
    show E K_X7_doOne 201 [some (aR (some 26)), some (aI x1), some (aI x2), some (aI ((120 * x1) + x2)), some (aI ((mI M 26 34) - 1)), some (aI ((9 * ((mI M 26 34) - 1)) + (mI M 37 ((120 * x1) + x2).toNatClampNeg))), none, none, none, none, none, none, none, none] [aJ (mJ M 55 (((101 * ((mI M 26 34) - 1)) + (mI M 53 ((mI M 26 34) - 1).toNatClampNeg)) - 1).toNatClampNeg)] (wrI M 52 ((mI M 26 34) - 1).toNatClampNeg (x2 + 1)) v M'
    refine e_lstore dX7_doOne_201 (Nat.le_of_ble_eq_true rfl) ?_
    show E K_X7_doOne 203 [some (aR (some 26)), some (aI x1), some (aI x2), some (aI ((120 * x1) + x2)), some (aI ((mI M 26 34) - 1)), some (aI ((9 * ((mI M 26 34) - 1)) + (mI M 37 ((120 * x1) + x2).toNatClampNeg))), none, none, some (aJ (mJ M 55 (((101 * ((mI M 26 34) - 1)) + (mI M 53 ((mI M 26 34) - 1).toNatClampNeg)) - 1).toNatClampNeg)), none, none, none, none, none] [] (wrI M 52 ((mI M 26 34) - 1).toNatClampNeg (x2 + 1)) v M'
    refine e_aload_n dX7_doOne_203 rfl ?_
    refine e_get ff_7_32 hS.l26 w867 dX7_doOne_204 (w := aR (some 55)) hS.f26_32 ?_
    refine e_bipush (u := 101) dX7_doOne_207 (by decide) ?_
    refine e_iload dX7_doOne_209 rfl ?_
    refine e_imul dX7_doOne_211 ?_
    refine e_aload_n dX7_doOne_212 rfl ?_
    refine e_get ff_7_30 hS.l26 w865 dX7_doOne_213 (w := aR (some 53)) hS.f26_30 ?_
    refine e_iload dX7_doOne_216 rfl ?_
    refine e_iald hS.l53 (hS.b53 b2) dX7_doOne_218 ?_
    show E K_X7_doOne 219 [some (aR (some 26)), some (aI x1), some (aI x2), some (aI ((120 * x1) + x2)), some (aI ((mI M 26 34) - 1)), some (aI ((9 * ((mI M 26 34) - 1)) + (mI M 37 ((120 * x1) + x2).toNatClampNeg))), none, none, some (aJ (mJ M 55 (((101 * ((mI M 26 34) - 1)) + (mI M 53 ((mI M 26 34) - 1).toNatClampNeg)) - 1).toNatClampNeg)), none, none, none, none, none] [aI (mI M 53 ((mI M 26 34) - 1).toNatClampNeg), aI (101 * ((mI M 26 34) - 1)), aR (some 55)] (wrI M 52 ((mI M 26 34) - 1).toNatClampNeg (x2 + 1)) v M'
    refine e_iadd dX7_doOne_219 ?_
    refine e_iconst (u := 1) dX7_doOne_220 (by decide) ?_
    refine e_isub dX7_doOne_221 ?_
    refine e_aload_n dX7_doOne_222 rfl ?_
    refine e_get ff_7_32 hS.l26 w867 dX7_doOne_223 (w := aR (some 55)) hS.f26_32 ?_
    refine e_bipush (u := 101) dX7_doOne_226 (by decide) ?_
    refine e_iload dX7_doOne_228 rfl ?_
    refine e_imul dX7_doOne_230 ?_
    refine e_aload_n dX7_doOne_231 rfl ?_
    refine e_get ff_7_30 hS.l26 w865 dX7_doOne_232 (w := aR (some 53)) hS.f26_30 ?_
    refine e_iload dX7_doOne_235 rfl ?_
    refine e_iald hS.l53 (hS.b53 b2) dX7_doOne_237 ?_
    show E K_X7_doOne 238 [some (aR (some 26)), some (aI x1), some (aI x2), some (aI ((120 * x1) + x2)), some (aI ((mI M 26 34) - 1)), some (aI ((9 * ((mI M 26 34) - 1)) + (mI M 37 ((120 * x1) + x2).toNatClampNeg))), none, none, some (aJ (mJ M 55 (((101 * ((mI M 26 34) - 1)) + (mI M 53 ((mI M 26 34) - 1).toNatClampNeg)) - 1).toNatClampNeg)), none, none, none, none, none] [aI (mI M 53 ((mI M 26 34) - 1).toNatClampNeg), aI (101 * ((mI M 26 34) - 1)), aR (some 55), aI (((101 * ((mI M 26 34) - 1)) + (mI M 53 ((mI M 26 34) - 1).toNatClampNeg)) - 1), aR (some 55)] (wrI M 52 ((mI M 26 34) - 1).toNatClampNeg (x2 + 1)) v M'
    refine e_iadd dX7_doOne_238 ?_
    refine e_iconst (u := 2) dX7_doOne_239 (by decide) ?_
    refine e_isub dX7_doOne_240 ?_
    refine e_lald hS.l55 (hS.b55 (b11 g1 g2 g4 g5)) dX7_doOne_241 ?_
    show E K_X7_doOne 242 [some (aR (some 26)), some (aI x1), some (aI x2), some (aI ((120 * x1) + x2)), some (aI ((mI M 26 34) - 1)), some (aI ((9 * ((mI M 26 34) - 1)) + (mI M 37 ((120 * x1) + x2).toNatClampNeg))), none, none, some (aJ (mJ M 55 (((101 * ((mI M 26 34) - 1)) + (mI M 53 ((mI M 26 34) - 1).toNatClampNeg)) - 1).toNatClampNeg)), none, none, none, none, none] [aJ (mJ M 55 (((101 * ((mI M 26 34) - 1)) + (mI M 53 ((mI M 26 34) - 1).toNatClampNeg)) - 2).toNatClampNeg), aI (((101 * ((mI M 26 34) - 1)) + (mI M 53 ((mI M 26 34) - 1).toNatClampNeg)) - 1), aR (some 55)] (wrI M 52 ((mI M 26 34) - 1).toNatClampNeg (x2 + 1)) v M'
    refine e_last hS.l55 (hS.b55 (b10 g1 g2 g4 g5)) dX7_doOne_242 ?_
    refine e_aload_n dX7_doOne_243 rfl ?_
    refine e_get ff_7_32 hS.l26 w867 dX7_doOne_244 (w := aR (some 55)) hS.f26_32 ?_
    refine e_bipush (u := 101) dX7_doOne_247 (by decide) ?_
    refine e_iload dX7_doOne_249 rfl ?_
    refine e_imul dX7_doOne_251 ?_
    refine e_aload_n dX7_doOne_252 rfl ?_
    refine e_get ff_7_30 hS.l26 w865 dX7_doOne_253 (w := aR (some 53)) hS.f26_30 ?_
    refine e_iload dX7_doOne_256 rfl ?_
    refine e_iald hS.l53 (hS.b53 b2) dX7_doOne_258 ?_
    show E K_X7_doOne 259 [some (aR (some 26)), some (aI x1), some (aI x2), some (aI ((120 * x1) + x2)), some (aI ((mI M 26 34) - 1)), some (aI ((9 * ((mI M 26 34) - 1)) + (mI M 37 ((120 * x1) + x2).toNatClampNeg))), none, none, some (aJ (mJ M 55 (((101 * ((mI M 26 34) - 1)) + (mI M 53 ((mI M 26 34) - 1).toNatClampNeg)) - 1).toNatClampNeg)), none, none, none, none, none] [aI (mI M 53 ((mI M 26 34) - 1).toNatClampNeg), aI (101 * ((mI M 26 34) - 1)), aR (some 55)] (wrJ (wrI M 52 ((mI M 26 34) - 1).toNatClampNeg (x2 + 1)) 55 (((101 * ((mI M 26 34) - 1)) + (mI M 53 ((mI M 26 34) - 1).toNatClampNeg)) - 1).toNatClampNeg (mJ M 55 (((101 * ((mI M 26 34) - 1)) + (mI M 53 ((mI M 26 34) - 1).toNatClampNeg)) - 2).toNatClampNeg)) v M'
    refine e_iadd dX7_doOne_259 ?_
    refine e_iconst (u := 2) dX7_doOne_260 (by decide) ?_
    refine e_isub dX7_doOne_261 ?_
    refine e_lload dX7_doOne_262 rfl ?_
    refine e_last hS.l55 (hS.b55 (b11 g1 g2 g4 g5)) dX7_doOne_264 ?_
    refine e_goto (tgt := 544) dX7_doOne_265 rfl ?_
    exact e_vret rfl dX7_doOne_544 (k12 g1 g2 g4 g5)
  by_cases g6 : (mI M 31 ((120 * x1) + x2).toNatClampNeg) = 9
  · have e9 : tsw 0 [132, 145, 154, 181, 515, 515, 515, 515, 515, 268, 293, 318, 353, 370, 396, 446, 493, 507] 515 (mI M 31 ((120 * x1) + x2).toNatClampNeg) = 268 := by rw [g6]; rfl
    rw [e9]
    refine e_aload_n dX7_doOne_268 rfl ?_
    refine e_aload_n dX7_doOne_269 rfl ?_
    refine e_get ff_7_31 hS.l26 w866 dX7_doOne_270 (w := aR (some 54)) hS.f26_31 ?_
    refine e_bipush (u := 16) dX7_doOne_273 (by decide) ?_
    refine e_iload dX7_doOne_275 rfl ?_
    refine e_imul dX7_doOne_277 ?_
    refine e_aload_n dX7_doOne_278 rfl ?_
    refine e_get ff_7_6 hS.l26 w841 dX7_doOne_279 (w := aR (some 32)) hS.f26_6 ?_
    refine e_iload_n dX7_doOne_282 rfl ?_
    refine e_lald hS.l32 (hS.b32 b1) dX7_doOne_283 ?_
    show E K_X7_doOne 284 [some (aR (some 26)), some (aI x1), some (aI x2), some (aI ((120 * x1) + x2)), some (aI ((mI M 26 34) - 1)), some (aI ((9 * ((mI M 26 34) - 1)) + (mI M 37 ((120 * x1) + x2).toNatClampNeg))), none, none, none, none, none, none, none, none] [aJ (mJ M 32 ((120 * x1) + x2).toNatClampNeg), aI (16 * ((mI M 26 34) - 1)), aR (some 54), aR (some 26)] (wrI M 52 ((mI M 26 34) - 1).toNatClampNeg (x2 + 1)) v M'
    refine e_l2i dX7_doOne_284 ?_
    refine e_iadd dX7_doOne_285 ?_
    refine e_lald hS.l54 (hS.b54 (b13 g1 g2 g4 g5 g6)) dX7_doOne_286 ?_
    show E K_X7_doOne 287 [some (aR (some 26)), some (aI x1), some (aI x2), some (aI ((120 * x1) + x2)), some (aI ((mI M 26 34) - 1)), some (aI ((9 * ((mI M 26 34) - 1)) + (mI M 37 ((120 * x1) + x2).toNatClampNeg))), none, none, none, none, none, none, none, none] [aJ (mJ M 54 ((16 * ((mI M 26 34) - 1)) + ((mJ M 32 ((120 * x1) + x2).toNatClampNeg : Int64).toInt32)).toNatClampNeg), aR (some 26)] (wrI M 52 ((mI M 26 34) - 1).toNatClampNeg (x2 + 1)) v M'
    refine e_callV (As := [aJ (mJ M 54 ((16 * ((mI M 26 34) - 1)) + ((mJ M 32 ((120 * x1) + x2).toNatClampNeg : Int64).toInt32)).toNatClampNeg)]) (rest := []) vk_X7_push hS.l26 w1117 ⟨by decide, by decide⟩ (Nat.le_of_ble_eq_true rfl) dX7_doOne_287 (c14 g1 g2 g4 g5 g6) ?_
    show E K_X7_doOne 290 [some (aR (some 26)), some (aI x1), some (aI x2), some (aI ((120 * x1) + x2)), some (aI ((mI M 26 34) - 1)), some (aI ((9 * ((mI M 26 34) - 1)) + (mI M 37 ((120 * x1) + x2).toNatClampNeg))), none, none, none, none, none, none, none, none] [] M4 v M'
    have hS_4 : St M4 := St.sh (M := (wrI M 52 ((mI M 26 34) - 1).toNatClampNeg (x2 + 1))) (c14 g1 g2 g4 g5 g6).2.1 hS
    refine e_goto (tgt := 544) dX7_doOne_290 rfl ?_
    exact e_vret rfl dX7_doOne_544 (k15 g1 g2 g4 g5 g6)
  by_cases g7 : (mI M 31 ((120 * x1) + x2).toNatClampNeg) = 10
  · have e9 : tsw 0 [132, 145, 154, 181, 515, 515, 515, 515, 515, 268, 293, 318, 353, 370, 396, 446, 493, 507] 515 (mI M 31 ((120 * x1) + x2).toNatClampNeg) = 293 := by rw [g7]; rfl
    rw [e9]
    refine e_aload_n dX7_doOne_293 rfl ?_
    refine e_get ff_7_31 hS.l26 w866 dX7_doOne_294 (w := aR (some 54)) hS.f26_31 ?_
    refine e_bipush (u := 16) dX7_doOne_297 (by decide) ?_
    refine e_iload dX7_doOne_299 rfl ?_
    refine e_imul dX7_doOne_301 ?_
    refine e_aload_n dX7_doOne_302 rfl ?_
    refine e_get ff_7_6 hS.l26 w841 dX7_doOne_303 (w := aR (some 32)) hS.f26_6 ?_
    refine e_iload_n dX7_doOne_306 rfl ?_
    refine e_lald hS.l32 (hS.b32 b1) dX7_doOne_307 ?_
    show E K_X7_doOne 308 [some (aR (some 26)), some (aI x1), some (aI x2), some (aI ((120 * x1) + x2)), some (aI ((mI M 26 34) - 1)), some (aI ((9 * ((mI M 26 34) - 1)) + (mI M 37 ((120 * x1) + x2).toNatClampNeg))), none, none, none, none, none, none, none, none] [aJ (mJ M 32 ((120 * x1) + x2).toNatClampNeg), aI (16 * ((mI M 26 34) - 1)), aR (some 54)] (wrI M 52 ((mI M 26 34) - 1).toNatClampNeg (x2 + 1)) v M'
    refine e_l2i dX7_doOne_308 ?_
    refine e_iadd dX7_doOne_309 ?_
    refine e_aload_n dX7_doOne_310 rfl ?_
    refine e_callV (As := []) (rest := [aI ((16 * ((mI M 26 34) - 1)) + ((mJ M 32 ((120 * x1) + x2).toNatClampNeg : Int64).toInt32)), aR (some 54)]) vk_X7_take hS.l26 w1121 ⟨by decide, by decide⟩ (Nat.le_of_ble_eq_true rfl) dX7_doOne_311 (c16 g1 g2 g4 g5 g6 g7) ?_
    show E K_X7_doOne 314 [some (aR (some 26)), some (aI x1), some (aI x2), some (aI ((120 * x1) + x2)), some (aI ((mI M 26 34) - 1)), some (aI ((9 * ((mI M 26 34) - 1)) + (mI M 37 ((120 * x1) + x2).toNatClampNeg))), none, none, none, none, none, none, none, none] [aJ x108, aI ((16 * ((mI M 26 34) - 1)) + ((mJ M 32 ((120 * x1) + x2).toNatClampNeg : Int64).toInt32)), aR (some 54)] M5 v M'
    have hS_5 : St M5 := St.sh (M := (wrI M 52 ((mI M 26 34) - 1).toNatClampNeg (x2 + 1))) (c16 g1 g2 g4 g5 g6 g7).2.1 hS
    refine e_last hS_5.l54 (hS_5.b54 (b17 g1 g2 g4 g5 g6 g7)) dX7_doOne_314 ?_
    refine e_goto (tgt := 544) dX7_doOne_315 rfl ?_
    exact e_vret rfl dX7_doOne_544 (k18 g1 g2 g4 g5 g6 g7)
  by_cases g9 : (mI M 31 ((120 * x1) + x2).toNatClampNeg) = 11
  · have e9 : tsw 0 [132, 145, 154, 181, 515, 515, 515, 515, 515, 268, 293, 318, 353, 370, 396, 446, 493, 507] 515 (mI M 31 ((120 * x1) + x2).toNatClampNeg) = 318 := by rw [g9]; rfl
    rw [e9]
    refine e_aload_n dX7_doOne_318 rfl ?_
    refine e_aload_n dX7_doOne_319 rfl ?_
    refine e_get ff_7_32 hS.l26 w867 dX7_doOne_320 (w := aR (some 55)) hS.f26_32 ?_
    refine e_bipush (u := 101) dX7_doOne_323 (by decide) ?_
    refine e_iload dX7_doOne_325 rfl ?_
    refine e_imul dX7_doOne_327 ?_
    refine e_aload_n dX7_doOne_328 rfl ?_
    refine e_get ff_7_30 hS.l26 w865 dX7_doOne_329 (w := aR (some 53)) hS.f26_30 ?_
    refine e_iload dX7_doOne_332 rfl ?_
    refine e_iald hS.l53 (hS.b53 b2) dX7_doOne_334 ?_
    show E K_X7_doOne 335 [some (aR (some 26)), some (aI x1), some (aI x2), some (aI ((120 * x1) + x2)), some (aI ((mI M 26 34) - 1)), some (aI ((9 * ((mI M 26 34) - 1)) + (mI M 37 ((120 * x1) + x2).toNatClampNeg))), none, none, none, none, none, none, none, none] [aI (mI M 53 ((mI M 26 34) - 1).toNatClampNeg), aI (101 * ((mI M 26 34) - 1)), aR (some 55), aR (some 26)] (wrI M 52 ((mI M 26 34) - 1).toNatClampNeg (x2 + 1)) v M'
    refine e_iadd dX7_doOne_335 ?_
    refine e_iconst (u := 1) dX7_doOne_336 (by decide) ?_
    refine e_isub dX7_doOne_337 ?_
    refine e_aload_n dX7_doOne_338 rfl ?_
    refine e_get ff_7_6 hS.l26 w841 dX7_doOne_339 (w := aR (some 32)) hS.f26_6 ?_
    refine e_iload_n dX7_doOne_342 rfl ?_
    refine e_lald hS.l32 (hS.b32 b1) dX7_doOne_343 ?_
    show E K_X7_doOne 344 [some (aR (some 26)), some (aI x1), some (aI x2), some (aI ((120 * x1) + x2)), some (aI ((mI M 26 34) - 1)), some (aI ((9 * ((mI M 26 34) - 1)) + (mI M 37 ((120 * x1) + x2).toNatClampNeg))), none, none, none, none, none, none, none, none] [aJ (mJ M 32 ((120 * x1) + x2).toNatClampNeg), aI (((101 * ((mI M 26 34) - 1)) + (mI M 53 ((mI M 26 34) - 1).toNatClampNeg)) - 1), aR (some 55), aR (some 26)] (wrI M 52 ((mI M 26 34) - 1).toNatClampNeg (x2 + 1)) v M'
    refine e_l2i dX7_doOne_344 ?_
    refine e_isub dX7_doOne_345 ?_
    refine e_lald hS.l55 (hS.b55 (b19 g1 g2 g4 g5 g6 g7 g9)) dX7_doOne_346 ?_
    show E K_X7_doOne 347 [some (aR (some 26)), some (aI x1), some (aI x2), some (aI ((120 * x1) + x2)), some (aI ((mI M 26 34) - 1)), some (aI ((9 * ((mI M 26 34) - 1)) + (mI M 37 ((120 * x1) + x2).toNatClampNeg))), none, none, none, none, none, none, none, none] [aJ (mJ M 55 ((((101 * ((mI M 26 34) - 1)) + (mI M 53 ((mI M 26 34) - 1).toNatClampNeg)) - 1) - ((mJ M 32 ((120 * x1) + x2).toNatClampNeg : Int64).toInt32)).toNatClampNeg), aR (some 26)] (wrI M 52 ((mI M 26 34) - 1).toNatClampNeg (x2 + 1)) v M'
    refine e_callV (As := [aJ (mJ M 55 ((((101 * ((mI M 26 34) - 1)) + (mI M 53 ((mI M 26 34) - 1).toNatClampNeg)) - 1) - ((mJ M 32 ((120 * x1) + x2).toNatClampNeg : Int64).toInt32)).toNatClampNeg)]) (rest := []) vk_X7_push hS.l26 w1117 ⟨by decide, by decide⟩ (Nat.le_of_ble_eq_true rfl) dX7_doOne_347 (c20 g1 g2 g4 g5 g6 g7 g9) ?_
    show E K_X7_doOne 350 [some (aR (some 26)), some (aI x1), some (aI x2), some (aI ((120 * x1) + x2)), some (aI ((mI M 26 34) - 1)), some (aI ((9 * ((mI M 26 34) - 1)) + (mI M 37 ((120 * x1) + x2).toNatClampNeg))), none, none, none, none, none, none, none, none] [] M6 v M'
    have hS_6 : St M6 := St.sh (M := (wrI M 52 ((mI M 26 34) - 1).toNatClampNeg (x2 + 1))) (c20 g1 g2 g4 g5 g6 g7 g9).2.1 hS
    refine e_goto (tgt := 544) dX7_doOne_350 rfl ?_
    exact e_vret rfl dX7_doOne_544 (k21 g1 g2 g4 g5 g6 g7 g9)
  by_cases g10 : (mI M 31 ((120 * x1) + x2).toNatClampNeg) = 12
  · have e9 : tsw 0 [132, 145, 154, 181, 515, 515, 515, 515, 515, 268, 293, 318, 353, 370, 396, 446, 493, 507] 515 (mI M 31 ((120 * x1) + x2).toNatClampNeg) = 353 := by rw [g10]; rfl
    rw [e9]
    refine e_aload_n dX7_doOne_353 rfl ?_
    refine e_get ff_7_29 hS.l26 w864 dX7_doOne_354 (w := aR (some 52)) hS.f26_29 ?_
    refine e_iload dX7_doOne_357 rfl ?_
    refine e_aload_n dX7_doOne_359 rfl ?_
    refine e_get ff_7_6 hS.l26 w841 dX7_doOne_360 (w := aR (some 32)) hS.f26_6 ?_
    refine e_iload_n dX7_doOne_363 rfl ?_
    refine e_lald hS.l32 (hS.b32 b1) dX7_doOne_364 ?_
    show E K_X7_doOne 365 [some (aR (some 26)), some (aI x1), some (aI x2), some (aI ((120 * x1) + x2)), some (aI ((mI M 26 34) - 1)), some (aI ((9 * ((mI M 26 34) - 1)) + (mI M 37 ((120 * x1) + x2).toNatClampNeg))), none, none, none, none, none, none, none, none] [aJ (mJ M 32 ((120 * x1) + x2).toNatClampNeg), aI ((mI M 26 34) - 1), aR (some 52)] (wrI M 52 ((mI M 26 34) - 1).toNatClampNeg (x2 + 1)) v M'
    refine e_l2i dX7_doOne_365 ?_
    refine e_iast hS.l52 (hS.b52 b2) dX7_doOne_366 ?_
    refine e_goto (tgt := 544) dX7_doOne_367 rfl ?_
    exact e_vret rfl dX7_doOne_544 (k22 g1 g2 g4 g5 g6 g7 g9 g10)
  by_cases g11 : (mI M 31 ((120 * x1) + x2).toNatClampNeg) = 13
  · have e9 : tsw 0 [132, 145, 154, 181, 515, 515, 515, 515, 515, 268, 293, 318, 353, 370, 396, 446, 493, 507] 515 (mI M 31 ((120 * x1) + x2).toNatClampNeg) = 370 := by rw [g11]; rfl
    rw [e9]
    refine e_aload_n dX7_doOne_370 rfl ?_
    refine e_callV (As := []) (rest := []) vk_X7_take hS.l26 w1121 ⟨by decide, by decide⟩ (Nat.le_of_ble_eq_true rfl) dX7_doOne_371 (c23 g1 g2 g4 g5 g6 g7 g9 g10 g11) ?_
    show E K_X7_doOne 374 [some (aR (some 26)), some (aI x1), some (aI x2), some (aI ((120 * x1) + x2)), some (aI ((mI M 26 34) - 1)), some (aI ((9 * ((mI M 26 34) - 1)) + (mI M 37 ((120 * x1) + x2).toNatClampNeg))), none, none, none, none, none, none, none, none] [aJ x112] M7 v M'
    have hS_7 : St M7 := St.sh (M := (wrI M 52 ((mI M 26 34) - 1).toNatClampNeg (x2 + 1))) (c23 g1 g2 g4 g5 g6 g7 g9 g10 g11).2.1 hS
    refine e_lconst (u := 0) dX7_doOne_374 (by decide) ?_
    refine e_lcmp_ne (tgt := 544) dX7_doOne_375 dX7_doOne_376 rfl (fun g13 => ?_) (fun g13 => ?_)
    ·
      exact e_vret rfl dX7_doOne_544 (k24 g1 g2 g4 g5 g6 g7 g9 g10 g11 g13)
    ·
      refine e_aload_n dX7_doOne_379 rfl ?_
      refine e_get ff_7_29 hS_7.l26 w864 dX7_doOne_380 (w := aR (some 52)) hS_7.f26_29 ?_
      refine e_iload dX7_doOne_383 rfl ?_
      refine e_aload_n dX7_doOne_385 rfl ?_
      refine e_get ff_7_6 hS_7.l26 w841 dX7_doOne_386 (w := aR (some 32)) hS_7.f26_6 ?_
      refine e_iload_n dX7_doOne_389 rfl ?_
      refine e_lald hS_7.l32 (hS_7.b32 b1) dX7_doOne_390 ?_
      refine e_l2i dX7_doOne_391 ?_
      refine e_iast hS_7.l52 (hS_7.b52 b2) dX7_doOne_392 ?_
      refine e_goto (tgt := 544) dX7_doOne_393 rfl ?_
      exact e_vret rfl dX7_doOne_544 (k25 g1 g2 g4 g5 g6 g7 g9 g10 g11 g13)
  by_cases g14 : (mI M 31 ((120 * x1) + x2).toNatClampNeg) = 14
  · have e9 : tsw 0 [132, 145, 154, 181, 515, 515, 515, 515, 515, 268, 293, 318, 353, 370, 396, 446, 493, 507] 515 (mI M 31 ((120 * x1) + x2).toNatClampNeg) = 396 := by rw [g14]; rfl
    rw [e9]
    refine e_aload_n dX7_doOne_396 rfl ?_
    refine e_get ff_7_33 hS.l26 w868 dX7_doOne_397 (w := aR (some 56)) hS.f26_33 ?_
    refine e_iload dX7_doOne_400 rfl ?_
    refine e_iconst (u := 1) dX7_doOne_402 (by decide) ?_
    refine e_iadd dX7_doOne_403 ?_
    refine e_aload_n dX7_doOne_404 rfl ?_
    refine e_get ff_7_6 hS.l26 w841 dX7_doOne_405 (w := aR (some 32)) hS.f26_6 ?_
    refine e_iload_n dX7_doOne_408 rfl ?_
    refine e_lald hS.l32 (hS.b32 b1) dX7_doOne_409 ?_
    show E K_X7_doOne 410 [some (aR (some 26)), some (aI x1), some (aI x2), some (aI ((120 * x1) + x2)), some (aI ((mI M 26 34) - 1)), some (aI ((9 * ((mI M 26 34) - 1)) + (mI M 37 ((120 * x1) + x2).toNatClampNeg))), none, none, none, none, none, none, none, none] [aJ (mJ M 32 ((120 * x1) + x2).toNatClampNeg), aI (((9 * ((mI M 26 34) - 1)) + (mI M 37 ((120 * x1) + x2).toNatClampNeg)) + 1), aR (some 56)] (wrI M 52 ((mI M 26 34) - 1).toNatClampNeg (x2 + 1)) v M'
    refine e_last hS.l56 (hS.b56 (b26 g1 g2 g4 g5 g6 g7 g9 g10 g11 g14)) dX7_doOne_410 ?_
    refine e_aload_n dX7_doOne_411 rfl ?_
    refine e_get ff_7_29 hS.l26 w864 dX7_doOne_412 (w := aR (some 52)) hS.f26_29 ?_
    refine e_iload dX7_doOne_415 rfl ?_
    refine e_aload_n dX7_doOne_417 rfl ?_
    refine e_get ff_7_6 hS.l26 w841 dX7_doOne_418 (w := aR (some 32)) hS.f26_6 ?_
    refine e_iload_n dX7_doOne_421 rfl ?_
    refine e_lald hS.l32 (hS.b32 b1) dX7_doOne_422 ?_
    show E K_X7_doOne 423 [some (aR (some 26)), some (aI x1), some (aI x2), some (aI ((120 * x1) + x2)), some (aI ((mI M 26 34) - 1)), some (aI ((9 * ((mI M 26 34) - 1)) + (mI M 37 ((120 * x1) + x2).toNatClampNeg))), none, none, none, none, none, none, none, none] [aJ (mJ M 32 ((120 * x1) + x2).toNatClampNeg), aI ((mI M 26 34) - 1), aR (some 52)] (wrJ (wrI M 52 ((mI M 26 34) - 1).toNatClampNeg (x2 + 1)) 56 (((9 * ((mI M 26 34) - 1)) + (mI M 37 ((120 * x1) + x2).toNatClampNeg)) + 1).toNatClampNeg (mJ M 32 ((120 * x1) + x2).toNatClampNeg)) v M'
    refine e_lconst (u := 0) dX7_doOne_423 (by decide) ?_
    refine e_lcmp_ne (tgt := 439) dX7_doOne_424 dX7_doOne_425 rfl (fun g15 => ?_) (fun g15 => ?_)
    ·
      refine e_iload_n dX7_doOne_439 rfl ?_
      refine e_iconst (u := 1) dX7_doOne_440 (by decide) ?_
      refine e_iadd dX7_doOne_441 ?_
      refine e_iast hS.l52 (hS.b52 b2) dX7_doOne_442 ?_
      refine e_goto (tgt := 544) dX7_doOne_443 rfl ?_
      exact e_vret rfl dX7_doOne_544 (k27 g1 g2 g4 g5 g6 g7 g9 g10 g11 g14 g15)
    ·
      refine e_aload_n dX7_doOne_428 rfl ?_
      refine e_get ff_7_12 hS.l26 w847 dX7_doOne_429 (w := aR (some 36)) hS.f26_12 ?_
      refine e_iload_n dX7_doOne_432 rfl ?_
      refine e_iald hS.l36 (hS.b36 b1) dX7_doOne_433 ?_
      show E K_X7_doOne 434 [some (aR (some 26)), some (aI x1), some (aI x2), some (aI ((120 * x1) + x2)), some (aI ((mI M 26 34) - 1)), some (aI ((9 * ((mI M 26 34) - 1)) + (mI M 37 ((120 * x1) + x2).toNatClampNeg))), none, none, none, none, none, none, none, none] [aI (mI M 36 ((120 * x1) + x2).toNatClampNeg), aI ((mI M 26 34) - 1), aR (some 52)] (wrJ (wrI M 52 ((mI M 26 34) - 1).toNatClampNeg (x2 + 1)) 56 (((9 * ((mI M 26 34) - 1)) + (mI M 37 ((120 * x1) + x2).toNatClampNeg)) + 1).toNatClampNeg (mJ M 32 ((120 * x1) + x2).toNatClampNeg)) v M'
      refine e_iconst (u := 1) dX7_doOne_434 (by decide) ?_
      refine e_iadd dX7_doOne_435 ?_
      refine e_goto (tgt := 442) dX7_doOne_436 rfl ?_
      refine e_iast hS.l52 (hS.b52 b2) dX7_doOne_442 ?_
      refine e_goto (tgt := 544) dX7_doOne_443 rfl ?_
      exact e_vret rfl dX7_doOne_544 (k28 g1 g2 g4 g5 g6 g7 g9 g10 g11 g14 g15)
  by_cases g16 : (mI M 31 ((120 * x1) + x2).toNatClampNeg) = 15
  · have e9 : tsw 0 [132, 145, 154, 181, 515, 515, 515, 515, 515, 268, 293, 318, 353, 370, 396, 446, 493, 507] 515 (mI M 31 ((120 * x1) + x2).toNatClampNeg) = 446 := by rw [g16]; rfl
    rw [e9]
    refine e_aload_n dX7_doOne_446 rfl ?_
    refine e_get ff_7_33 hS.l26 w868 dX7_doOne_447 (w := aR (some 56)) hS.f26_33 ?_
    refine e_iload dX7_doOne_450 rfl ?_
    refine e_dup2RI dX7_doOne_452 ?_
    refine e_lald hS.l56 (hS.b56 (b29 g1 g2 g4 g5 g6 g7 g9 g10 g11 g14 g16)) dX7_doOne_453 ?_
    show E K_X7_doOne 454 [some (aR (some 26)), some (aI x1), some (aI x2), some (aI ((120 * x1) + x2)), some (aI ((mI M 26 34) - 1)), some (aI ((9 * ((mI M 26 34) - 1)) + (mI M 37 ((120 * x1) + x2).toNatClampNeg))), none, none, none, none, none, none, none, none] [aJ (mJ M 56 ((9 * ((mI M 26 34) - 1)) + (mI M 37 ((120 * x1) + x2).toNatClampNeg)).toNatClampNeg), aI ((9 * ((mI M 26 34) - 1)) + (mI M 37 ((120 * x1) + x2).toNatClampNeg)), aR (some 56)] (wrI M 52 ((mI M 26 34) - 1).toNatClampNeg (x2 + 1)) v M'
    refine e_lconst (u := 1) dX7_doOne_454 (by decide) ?_
    refine e_lsub dX7_doOne_455 ?_
    refine e_last hS.l56 (hS.b56 (b29 g1 g2 g4 g5 g6 g7 g9 g10 g11 g14 g16)) dX7_doOne_456 ?_
    refine e_aload_n dX7_doOne_457 rfl ?_
    refine e_get ff_7_29 hS.l26 w864 dX7_doOne_458 (w := aR (some 52)) hS.f26_29 ?_
    refine e_iload dX7_doOne_461 rfl ?_
    refine e_aload_n dX7_doOne_463 rfl ?_
    refine e_get ff_7_33 hS.l26 w868 dX7_doOne_464 (w := aR (some 56)) hS.f26_33 ?_
    refine e_iload dX7_doOne_467 rfl ?_
    refine e_lald hS.l56 (hS.b56 (b29 g1 g2 g4 g5 g6 g7 g9 g10 g11 g14 g16)) dX7_doOne_469 ?_
    show E K_X7_doOne 470 [some (aR (some 26)), some (aI x1), some (aI x2), some (aI ((120 * x1) + x2)), some (aI ((mI M 26 34) - 1)), some (aI ((9 * ((mI M 26 34) - 1)) + (mI M 37 ((120 * x1) + x2).toNatClampNeg))), none, none, none, none, none, none, none, none] [aJ (mJ (wrJ (wrI M 52 ((mI M 26 34) - 1).toNatClampNeg (x2 + 1)) 56 ((9 * ((mI M 26 34) - 1)) + (mI M 37 ((120 * x1) + x2).toNatClampNeg)).toNatClampNeg ((mJ M 56 ((9 * ((mI M 26 34) - 1)) + (mI M 37 ((120 * x1) + x2).toNatClampNeg)).toNatClampNeg) - 1)) 56 ((9 * ((mI M 26 34) - 1)) + (mI M 37 ((120 * x1) + x2).toNatClampNeg)).toNatClampNeg), aI ((mI M 26 34) - 1), aR (some 52)] (wrJ (wrI M 52 ((mI M 26 34) - 1).toNatClampNeg (x2 + 1)) 56 ((9 * ((mI M 26 34) - 1)) + (mI M 37 ((120 * x1) + x2).toNatClampNeg)).toNatClampNeg ((mJ M 56 ((9 * ((mI M 26 34) - 1)) + (mI M 37 ((120 * x1) + x2).toNatClampNeg)).toNatClampNeg) - 1)) v M'
    refine e_lconst (u := 0) dX7_doOne_470 (by decide) ?_
    refine e_lcmp_le (tgt := 486) dX7_doOne_471 dX7_doOne_472 rfl (fun g17 => ?_) (fun g17 => ?_)
    ·
      refine e_iload_n dX7_doOne_486 rfl ?_
      refine e_iconst (u := 1) dX7_doOne_487 (by decide) ?_
      refine e_iadd dX7_doOne_488 ?_
      refine e_iast hS.l52 (hS.b52 b2) dX7_doOne_489 ?_
      refine e_goto (tgt := 544) dX7_doOne_490 rfl ?_
      exact e_vret rfl dX7_doOne_544 (k30 g1 g2 g4 g5 g6 g7 g9 g10 g11 g14 g16 g17)
    ·
      refine e_aload_n dX7_doOne_475 rfl ?_
      refine e_get ff_7_12 hS.l26 w847 dX7_doOne_476 (w := aR (some 36)) hS.f26_12 ?_
      refine e_iload_n dX7_doOne_479 rfl ?_
      refine e_iald hS.l36 (hS.b36 b1) dX7_doOne_480 ?_
      show E K_X7_doOne 481 [some (aR (some 26)), some (aI x1), some (aI x2), some (aI ((120 * x1) + x2)), some (aI ((mI M 26 34) - 1)), some (aI ((9 * ((mI M 26 34) - 1)) + (mI M 37 ((120 * x1) + x2).toNatClampNeg))), none, none, none, none, none, none, none, none] [aI (mI M 36 ((120 * x1) + x2).toNatClampNeg), aI ((mI M 26 34) - 1), aR (some 52)] (wrJ (wrI M 52 ((mI M 26 34) - 1).toNatClampNeg (x2 + 1)) 56 ((9 * ((mI M 26 34) - 1)) + (mI M 37 ((120 * x1) + x2).toNatClampNeg)).toNatClampNeg ((mJ M 56 ((9 * ((mI M 26 34) - 1)) + (mI M 37 ((120 * x1) + x2).toNatClampNeg)).toNatClampNeg) - 1)) v M'
      refine e_iconst (u := 1) dX7_doOne_481 (by decide) ?_
      refine e_iadd dX7_doOne_482 ?_
      refine e_goto (tgt := 489) dX7_doOne_483 rfl ?_
      refine e_iast hS.l52 (hS.b52 b2) dX7_doOne_489 ?_
      refine e_goto (tgt := 544) dX7_doOne_490 rfl ?_
      exact e_vret rfl dX7_doOne_544 (k31 g1 g2 g4 g5 g6 g7 g9 g10 g11 g14 g16 g17)
  by_cases g18 : (mI M 31 ((120 * x1) + x2).toNatClampNeg) = 16
  · have e9 : tsw 0 [132, 145, 154, 181, 515, 515, 515, 515, 515, 268, 293, 318, 353, 370, 396, 446, 493, 507] 515 (mI M 31 ((120 * x1) + x2).toNatClampNeg) = 493 := by rw [g18]; rfl
    rw [e9]
    refine e_aload_n dX7_doOne_493 rfl ?_
    refine e_aload_n dX7_doOne_494 rfl ?_
    refine e_get ff_7_6 hS.l26 w841 dX7_doOne_495 (w := aR (some 32)) hS.f26_6 ?_
    refine e_iload_n dX7_doOne_498 rfl ?_
    refine e_lald hS.l32 (hS.b32 b1) dX7_doOne_499 ?_
    show E K_X7_doOne 500 [some (aR (some 26)), some (aI x1), some (aI x2), some (aI ((120 * x1) + x2)), some (aI ((mI M 26 34) - 1)), some (aI ((9 * ((mI M 26 34) - 1)) + (mI M 37 ((120 * x1) + x2).toNatClampNeg))), none, none, none, none, none, none, none, none] [aJ (mJ M 32 ((120 * x1) + x2).toNatClampNeg), aR (some 26)] (wrI M 52 ((mI M 26 34) - 1).toNatClampNeg (x2 + 1)) v M'
    refine e_l2i dX7_doOne_500 ?_
    refine e_callV (As := [aI ((mJ M 32 ((120 * x1) + x2).toNatClampNeg : Int64).toInt32)]) (rest := []) vk_X7_call hS.l26 w1125 ⟨by decide, by decide⟩ (Nat.le_of_ble_eq_true rfl) dX7_doOne_501 (c32 g1 g2 g4 g5 g6 g7 g9 g10 g11 g14 g16 g18) ?_
    show E K_X7_doOne 504 [some (aR (some 26)), some (aI x1), some (aI x2), some (aI ((120 * x1) + x2)), some (aI ((mI M 26 34) - 1)), some (aI ((9 * ((mI M 26 34) - 1)) + (mI M 37 ((120 * x1) + x2).toNatClampNeg))), none, none, none, none, none, none, none, none] [] M8 v M'
    have hS_8 : St M8 := St.sh (M := (wrI M 52 ((mI M 26 34) - 1).toNatClampNeg (x2 + 1))) (c32 g1 g2 g4 g5 g6 g7 g9 g10 g11 g14 g16 g18).2.1 hS
    refine e_goto (tgt := 544) dX7_doOne_504 rfl ?_
    exact e_vret rfl dX7_doOne_544 (k33 g1 g2 g4 g5 g6 g7 g9 g10 g11 g14 g16 g18)
  by_cases g19 : (mI M 31 ((120 * x1) + x2).toNatClampNeg) = 17
  · have e9 : tsw 0 [132, 145, 154, 181, 515, 515, 515, 515, 515, 268, 293, 318, 353, 370, 396, 446, 493, 507] 515 (mI M 31 ((120 * x1) + x2).toNatClampNeg) = 507 := by rw [g19]; rfl
    rw [e9]
    refine e_aload_n dX7_doOne_507 rfl ?_
    refine e_iload_n dX7_doOne_508 rfl ?_
    refine e_callV (As := [aI x1]) (rest := []) vk_X7_back hS.l26 w1129 ⟨by decide, by decide⟩ (Nat.le_of_ble_eq_true rfl) dX7_doOne_509 (c34 g1 g2 g4 g5 g6 g7 g9 g10 g11 g14 g16 g18 g19) ?_
    show E K_X7_doOne 512 [some (aR (some 26)), some (aI x1), some (aI x2), some (aI ((120 * x1) + x2)), some (aI ((mI M 26 34) - 1)), some (aI ((9 * ((mI M 26 34) - 1)) + (mI M 37 ((120 * x1) + x2).toNatClampNeg))), none, none, none, none, none, none, none, none] [] M9 v M'
    have hS_9 : St M9 := St.sh (M := (wrI M 52 ((mI M 26 34) - 1).toNatClampNeg (x2 + 1))) (c34 g1 g2 g4 g5 g6 g7 g9 g10 g11 g14 g16 g18 g19).2.1 hS
    refine e_goto (tgt := 544) dX7_doOne_512 rfl ?_
    exact e_vret rfl dX7_doOne_544 (k35 g1 g2 g4 g5 g6 g7 g9 g10 g11 g14 g16 g18 g19)
  have e9 : tsw 0 [132, 145, 154, 181, 515, 515, 515, 515, 515, 268, 293, 318, 353, 370, 396, 446, 493, 507] 515 (mI M 31 ((120 * x1) + x2).toNatClampNeg) = 515 := tsw_out [0, 1, 2, 3, 9, 10, 11, 12, 13, 14, 15, 16, 17] (by decide) (by
      simp only [List.mem_cons, List.not_mem_nil, or_false, forall_eq_or_imp, forall_eq]
      skip
      exact ⟨g1, g2, g4, g5, g6, g7, g9, g10, g11, g14, g16, g18, g19⟩)
  rw [e9]
  refine e_aload_n dX7_doOne_515 rfl ?_
  refine e_callV (As := []) (rest := []) vk_X7_take hS.l26 w1121 ⟨by decide, by decide⟩ (Nat.le_of_ble_eq_true rfl) dX7_doOne_516 (c36 g1 g2 g4 g5 g6 g7 g9 g10 g11 g14 g16 g18 g19) ?_
  show E K_X7_doOne 519 [some (aR (some 26)), some (aI x1), some (aI x2), some (aI ((120 * x1) + x2)), some (aI ((mI M 26 34) - 1)), some (aI ((9 * ((mI M 26 34) - 1)) + (mI M 37 ((120 * x1) + x2).toNatClampNeg))), none, none, none, none, none, none, none, none] [aJ x120] M10 v M'
  have hS_10 : St M10 := St.sh (M := (wrI M 52 ((mI M 26 34) - 1).toNatClampNeg (x2 + 1))) (c36 g1 g2 g4 g5 g6 g7 g9 g10 g11 g14 g16 g18 g19).2.1 hS
  refine e_lstore dX7_doOne_519 (Nat.le_of_ble_eq_true rfl) ?_
  show E K_X7_doOne 521 [some (aR (some 26)), some (aI x1), some (aI x2), some (aI ((120 * x1) + x2)), some (aI ((mI M 26 34) - 1)), some (aI ((9 * ((mI M 26 34) - 1)) + (mI M 37 ((120 * x1) + x2).toNatClampNeg))), none, none, none, none, some (aJ x120), none, none, none] [] M10 v M'
  refine e_aload_n dX7_doOne_521 rfl ?_
  refine e_callV (As := []) (rest := []) vk_X7_take hS_10.l26 w1121 ⟨by decide, by decide⟩ (Nat.le_of_ble_eq_true rfl) dX7_doOne_522 (c37 g1 g2 g4 g5 g6 g7 g9 g10 g11 g14 g16 g18 g19) ?_
  show E K_X7_doOne 525 [some (aR (some 26)), some (aI x1), some (aI x2), some (aI ((120 * x1) + x2)), some (aI ((mI M 26 34) - 1)), some (aI ((9 * ((mI M 26 34) - 1)) + (mI M 37 ((120 * x1) + x2).toNatClampNeg))), none, none, none, none, some (aJ x120), none, none, none] [aJ x121] M11 v M'
  have hS_11 : St M11 := St.sh (M := M10) (c37 g1 g2 g4 g5 g6 g7 g9 g10 g11 g14 g16 g18 g19).2.1 hS_10
  refine e_lstore dX7_doOne_525 (Nat.le_of_ble_eq_true rfl) ?_
  show E K_X7_doOne 527 [some (aR (some 26)), some (aI x1), some (aI x2), some (aI ((120 * x1) + x2)), some (aI ((mI M 26 34) - 1)), some (aI ((9 * ((mI M 26 34) - 1)) + (mI M 37 ((120 * x1) + x2).toNatClampNeg))), none, none, none, none, some (aJ x120), none, some (aJ x121), none] [] M11 v M'
  refine e_aload_n dX7_doOne_527 rfl ?_
  refine e_aload_n dX7_doOne_528 rfl ?_
  refine e_get ff_7_5 hS_11.l26 w840 dX7_doOne_529 (w := aR (some 31)) hS_11.f26_5 ?_
  refine e_iload_n dX7_doOne_532 rfl ?_
  refine e_iald hS_11.l31 (hS_11.b31 b1) dX7_doOne_533 ?_
  refine e_lload dX7_doOne_534 rfl ?_
  refine e_lload dX7_doOne_536 rfl ?_
  refine e_callS (As := [aI (mI M11 31 ((120 * x1) + x2).toNatClampNeg), aJ x121, aJ x120]) (rest := [aR (some 26)]) sk_X7_work w1133 ⟨by decide, by decide⟩ (Nat.le_of_ble_eq_true rfl) dX7_doOne_538 (c38 g1 g2 g4 g5 g6 g7 g9 g10 g11 g14 g16 g18 g19) ?_
  show E K_X7_doOne 541 [some (aR (some 26)), some (aI x1), some (aI x2), some (aI ((120 * x1) + x2)), some (aI ((mI M 26 34) - 1)), some (aI ((9 * ((mI M 26 34) - 1)) + (mI M 37 ((120 * x1) + x2).toNatClampNeg))), none, none, none, none, some (aJ x120), none, some (aJ x121), none] [aJ x122, aR (some 26)] M12 v M'
  have hS_12 : St M12 := St.sh (M := M11) (c38 g1 g2 g4 g5 g6 g7 g9 g10 g11 g14 g16 g18 g19).2.1 hS_11
  refine e_callV (As := [aJ x122]) (rest := []) vk_X7_push hS_12.l26 w1117 ⟨by decide, by decide⟩ (Nat.le_of_ble_eq_true rfl) dX7_doOne_541 (c39 g1 g2 g4 g5 g6 g7 g9 g10 g11 g14 g16 g18 g19) ?_
  show E K_X7_doOne 544 [some (aR (some 26)), some (aI x1), some (aI x2), some (aI ((120 * x1) + x2)), some (aI ((mI M 26 34) - 1)), some (aI ((9 * ((mI M 26 34) - 1)) + (mI M 37 ((120 * x1) + x2).toNatClampNeg))), none, none, none, none, some (aJ x120), none, some (aJ x121), none] [] M13 v M'
  have hS_13 : St M13 := St.sh (M := M12) (c39 g1 g2 g4 g5 g6 g7 g9 g10 g11 g14 g16 g18 g19).2.1 hS_12
  exact e_vret rfl dX7_doOne_544 (k40 g1 g2 g4 g5 g6 g7 g9 g10 g11 g14 g16 g18 g19)

set_option maxRecDepth 20000 in
theorem s_X7_run_0 {M M' : AM} {v : Option AV} {x1 : Int32} {x2 : Int32} {M1 : AM} {x101 : Int32} {M2 : AM} {M3 : AM} (hS : St M)
    (c1 : Ev K_X7_noMethod [aR (some 26), aI x1] M (some (aI x101)) M1)
    (b2 : ∀ (g2 : x101 = 0), vp_in x1 32)
    (k3 : ∀ (g2 : x101 = 0) (g3 : ¬ (mI M1 26 27) = (mI M1 27 x1.toNatClampNeg)), some (aI 0) = v ∧ (wrI M1 26 9 2) = M')
    (k4 : ∀ (g2 : x101 = 0) (g3 : (mI M1 26 27) = (mI M1 27 x1.toNatClampNeg)) (g4 : x2 < 0), some (aI 0) = v ∧ (wrI M1 26 9 2) = M')
    (c5 : ∀ (g2 : x101 = 0) (g3 : (mI M1 26 27) = (mI M1 27 x1.toNatClampNeg)) (g4 : ¬ (x2 < 0)) (g5 : x2 ≤ 100000), Ev K_X7_examineAll [aR (some 26)] (wrI M1 26 9 0) (none) M2)
    (c6 : ∀ (g2 : x101 = 0) (g3 : (mI M1 26 27) = (mI M1 27 x1.toNatClampNeg)) (g4 : ¬ (x2 < 0)) (g5 : x2 ≤ 100000) (g6 : (mI M2 38 x1.toNatClampNeg) ≤ 0), Ev K_X7_enter [aR (some 26), aI x1] (wrI (wrI (wrJ (wrJ (wrI (wrI (wrI (wrI M2 26 27 0) 26 34 0) 26 35 0) 26 36 0) 26 37 0) 26 38 0) 26 39 0) 26 40 0) (none) M3)
    (k7 : ∀ (g2 : x101 = 0) (g3 : (mI M1 26 27) = (mI M1 27 x1.toNatClampNeg)) (g4 : ¬ (x2 < 0)) (g5 : x2 ≤ 100000) (g6 : (mI M2 38 x1.toNatClampNeg) ≤ 0), E K_X7_run 121 [some (aR (some 26)), some (aI x1), some (aI x2), some (aI (mI M2 26 27)), some (aI 0), none, none] [] M3 v M')
    (k8 : ∀ (g2 : x101 = 0) (g3 : (mI M1 26 27) = (mI M1 27 x1.toNatClampNeg)) (g4 : ¬ (x2 < 0)) (g5 : x2 ≤ 100000) (g6 : ¬ ((mI M2 38 x1.toNatClampNeg) ≤ 0)), some (aI 4) = v ∧ (wrI (wrI (wrJ (wrJ (wrI (wrI (wrI (wrI M2 26 27 0) 26 34 0) 26 35 0) 26 36 0) 26 37 0) 26 38 0) 26 39 0) 26 40 0) = M')
    (k9 : ∀ (g2 : x101 = 0) (g3 : (mI M1 26 27) = (mI M1 27 x1.toNatClampNeg)) (g4 : ¬ (x2 < 0)) (g5 : ¬ (x2 ≤ 100000)), some (aI 0) = v ∧ (wrI M1 26 9 2) = M')
    (k10 : ∀ (g2 : ¬ x101 = 0), some (aI 0) = v ∧ (wrI M1 26 9 1) = M') :
    Ev K_X7_run [aR (some 26), aI x1, aI x2] M v M' := by
  refine ⟨Nat.le_of_ble_eq_true rfl, ?_⟩
  show E K_X7_run 0 [some (aR (some 26)), some (aI x1), some (aI x2), none, none, none, none] [] M v M'
  refine e_aload_n dX7_run_0 rfl ?_
  refine e_aload_n dX7_run_1 rfl ?_
  refine e_iload_n dX7_run_2 rfl ?_
  refine e_callV (As := [aI x1]) (rest := [aR (some 26)]) vk_X7_noMethod hS.l26 w972 ⟨by decide, by decide⟩ (Nat.le_of_ble_eq_true rfl) dX7_run_3 c1 ?_
  show E K_X7_run 6 [some (aR (some 26)), some (aI x1), some (aI x2), none, none, none, none] [aI x101, aR (some 26)] M1 v M'
  have hS_1 : St M1 := St.sh (M := M) c1.2.1 hS
  refine e_if_eq (tgt := 13) dX7_run_6 rfl (fun g2 => ?_) (fun g2 => ?_)
  ·
    refine e_aload_n dX7_run_13 rfl ?_
    refine e_get ff_7_27 hS_1.l26 w862 dX7_run_14 (w := aI (mI M1 26 27)) rfl ?_
    refine e_aload_n dX7_run_17 rfl ?_
    refine e_get ff_7_0 hS_1.l26 w835 dX7_run_18 (w := aR (some 27)) hS_1.f26_0 ?_
    refine e_iload_n dX7_run_21 rfl ?_
    refine e_iald hS_1.l27 (hS_1.b27 (b2 g2)) dX7_run_22 ?_
    refine e_icmp_ne (tgt := 36) dX7_run_23 rfl (fun g3 => ?_) (fun g3 => ?_)
    ·
      refine e_iconst (u := 2) dX7_run_36 (by decide) ?_
      refine e_goto (tgt := 41) dX7_run_37 rfl ?_
      refine e_putI ff_7_9 rfl hS_1.l26 w844 dX7_run_41 ?_
      refine e_aload_n dX7_run_44 rfl ?_
      refine e_get ff_7_9 hS_1.l26 w844 dX7_run_45 (w := aI 2) rfl ?_
      refine e_if_le (tgt := 53) dX7_run_48 rfl (fun z => ?_) (fun z => ?_)
      · exact absurd z (by decide)
      ·
        refine e_iconst (u := 0) dX7_run_51 (by decide) ?_
        exact e_iret rfl dX7_run_52 (k3 g2 g3)
    ·
      refine e_iload_n dX7_run_26 rfl ?_
      refine e_if_lt (tgt := 36) dX7_run_27 rfl (fun g4 => ?_) (fun g4 => ?_)
      ·
        refine e_iconst (u := 2) dX7_run_36 (by decide) ?_
        refine e_goto (tgt := 41) dX7_run_37 rfl ?_
        refine e_putI ff_7_9 rfl hS_1.l26 w844 dX7_run_41 ?_
        refine e_aload_n dX7_run_44 rfl ?_
        refine e_get ff_7_9 hS_1.l26 w844 dX7_run_45 (w := aI 2) rfl ?_
        refine e_if_le (tgt := 53) dX7_run_48 rfl (fun z => ?_) (fun z => ?_)
        · exact absurd z (by decide)
        ·
          refine e_iconst (u := 0) dX7_run_51 (by decide) ?_
          exact e_iret rfl dX7_run_52 (k4 g2 g3 g4)
      ·
        refine e_iload_n dX7_run_30 rfl ?_
        refine e_ldc dX7_run_31 w1108 ?_
        refine e_icmp_le (tgt := 40) dX7_run_33 rfl (fun g5 => ?_) (fun g5 => ?_)
        ·
          refine e_iconst (u := 0) dX7_run_40 (by decide) ?_
          refine e_putI ff_7_9 rfl hS_1.l26 w844 dX7_run_41 ?_
          refine e_aload_n dX7_run_44 rfl ?_
          refine e_get ff_7_9 hS_1.l26 w844 dX7_run_45 (w := aI 0) rfl ?_
          refine e_if_le (tgt := 53) dX7_run_48 rfl (fun z => ?_) (fun z => ?_)
          ·
            refine e_aload_n dX7_run_53 rfl ?_
            refine e_callV (As := []) (rest := []) vk_X7_examineAll hS_1.l26 w1051 ⟨by decide, by decide⟩ (Nat.le_of_ble_eq_true rfl) dX7_run_54 (c5 g2 g3 g4 g5) ?_
            show E K_X7_run 57 [some (aR (some 26)), some (aI x1), some (aI x2), none, none, none, none] [] M2 v M'
            have hS_2 : St M2 := St.sh (M := (wrI M1 26 9 0)) (c5 g2 g3 g4 g5).2.1 hS_1
            refine e_aload_n dX7_run_57 rfl ?_
            refine e_get ff_7_27 hS_2.l26 w862 dX7_run_58 (w := aI (mI M2 26 27)) rfl ?_
            refine e_istore_n dX7_run_61 (Nat.le_of_ble_eq_true rfl) ?_
            show E K_X7_run 62 [some (aR (some 26)), some (aI x1), some (aI x2), some (aI (mI M2 26 27)), none, none, none] [] M2 v M'
            refine e_aload_n dX7_run_62 rfl ?_
            refine e_iconst (u := 0) dX7_run_63 (by decide) ?_
            refine e_putI ff_7_27 rfl hS_2.l26 w862 dX7_run_64 ?_
            refine e_aload_n dX7_run_67 rfl ?_
            refine e_iconst (u := 0) dX7_run_68 (by decide) ?_
            refine e_putI ff_7_34 rfl hS_2.l26 w869 dX7_run_69 ?_
            refine e_aload_n dX7_run_72 rfl ?_
            refine e_iconst (u := 0) dX7_run_73 (by decide) ?_
            refine e_putI ff_7_35 rfl hS_2.l26 w870 dX7_run_74 ?_
            refine e_aload_n dX7_run_77 rfl ?_
            refine e_iconst (u := 0) dX7_run_78 (by decide) ?_
            refine e_putI ff_7_36 rfl hS_2.l26 w871 dX7_run_79 ?_
            refine e_aload_n dX7_run_82 rfl ?_
            refine e_lconst (u := 0) dX7_run_83 (by decide) ?_
            refine e_putJ ff_7_37 rfl hS_2.l26 w872 dX7_run_84 ?_
            refine e_aload_n dX7_run_87 rfl ?_
            refine e_lconst (u := 0) dX7_run_88 (by decide) ?_
            refine e_putJ ff_7_38 rfl hS_2.l26 w873 dX7_run_89 ?_
            refine e_aload_n dX7_run_92 rfl ?_
            refine e_iconst (u := 0) dX7_run_93 (by decide) ?_
            refine e_putI ff_7_39 rfl hS_2.l26 w874 dX7_run_94 ?_
            refine e_aload_n dX7_run_97 rfl ?_
            refine e_iconst (u := 0) dX7_run_98 (by decide) ?_
            refine e_putI ff_7_40 rfl hS_2.l26 w875 dX7_run_99 ?_
            refine e_aload_n dX7_run_102 rfl ?_
            refine e_get ff_7_14 hS_2.l26 w849 dX7_run_103 (w := aR (some 38)) hS_2.f26_14 ?_
            refine e_iload_n dX7_run_106 rfl ?_
            refine e_iald hS_2.l38 (hS_2.b38 (b2 g2)) dX7_run_107 ?_
            show E K_X7_run 108 [some (aR (some 26)), some (aI x1), some (aI x2), some (aI (mI M2 26 27)), none, none, none] [aI (mI M2 38 x1.toNatClampNeg)] (wrI (wrI (wrJ (wrJ (wrI (wrI (wrI (wrI M2 26 27 0) 26 34 0) 26 35 0) 26 36 0) 26 37 0) 26 38 0) 26 39 0) 26 40 0) v M'
            refine e_if_le (tgt := 113) dX7_run_108 rfl (fun g6 => ?_) (fun g6 => ?_)
            ·
              refine e_aload_n dX7_run_113 rfl ?_
              refine e_iload_n dX7_run_114 rfl ?_
              refine e_callV (As := [aI x1]) (rest := []) vk_X7_enter hS_2.l26 w1109 ⟨by decide, by decide⟩ (Nat.le_of_ble_eq_true rfl) dX7_run_115 (c6 g2 g3 g4 g5 g6) ?_
              show E K_X7_run 118 [some (aR (some 26)), some (aI x1), some (aI x2), some (aI (mI M2 26 27)), none, none, none] [] M3 v M'
              have hS_3 : St M3 := St.sh (M := (wrI (wrI (wrJ (wrJ (wrI (wrI (wrI (wrI M2 26 27 0) 26 34 0) 26 35 0) 26 36 0) 26 37 0) 26 38 0) 26 39 0) 26 40 0)) (c6 g2 g3 g4 g5 g6).2.1 hS_2
              refine e_iconst (u := 0) dX7_run_118 (by decide) ?_
              refine e_istore dX7_run_119 (Nat.le_of_ble_eq_true rfl) ?_
              show E K_X7_run 121 [some (aR (some 26)), some (aI x1), some (aI x2), some (aI (mI M2 26 27)), some (aI 0), none, none] [] M3 v M'
              exact (k7 g2 g3 g4 g5 g6)
            ·
              refine e_iconst (u := 4) dX7_run_111 (by decide) ?_
              exact e_iret rfl dX7_run_112 (k8 g2 g3 g4 g5 g6)
          · exact absurd z (by decide)
        ·
          refine e_iconst (u := 2) dX7_run_36 (by decide) ?_
          refine e_goto (tgt := 41) dX7_run_37 rfl ?_
          refine e_putI ff_7_9 rfl hS_1.l26 w844 dX7_run_41 ?_
          refine e_aload_n dX7_run_44 rfl ?_
          refine e_get ff_7_9 hS_1.l26 w844 dX7_run_45 (w := aI 2) rfl ?_
          refine e_if_le (tgt := 53) dX7_run_48 rfl (fun z => ?_) (fun z => ?_)
          · exact absurd z (by decide)
          ·
            refine e_iconst (u := 0) dX7_run_51 (by decide) ?_
            exact e_iret rfl dX7_run_52 (k9 g2 g3 g4 g5)
  ·
    refine e_iconst (u := 1) dX7_run_9 (by decide) ?_
    refine e_goto (tgt := 41) dX7_run_10 rfl ?_
    refine e_putI ff_7_9 rfl hS_1.l26 w844 dX7_run_41 ?_
    refine e_aload_n dX7_run_44 rfl ?_
    refine e_get ff_7_9 hS_1.l26 w844 dX7_run_45 (w := aI 1) rfl ?_
    refine e_if_le (tgt := 53) dX7_run_48 rfl (fun z => ?_) (fun z => ?_)
    · exact absurd z (by decide)
    ·
      refine e_iconst (u := 0) dX7_run_51 (by decide) ?_
      exact e_iret rfl dX7_run_52 (k10 g2)

set_option maxRecDepth 20000 in
theorem s_X7_run_121 {M M' : AM} {v : Option AV} {x1 : Int32} {x2 : Int32} {x3 : Int32} {x4 : Int32} (hS : St M)
    (k1 : ∀ (g1 : x3 ≤ x4), E K_X7_run 147 [some (aR (some 26)), some (aI x1), some (aI x2), some (aI x3), some (aI x4), none, none] [] M v M')
    (b2 : ∀ (g1 : ¬ (x3 ≤ x4)), vp_in x4 8)
    (b3 : ∀ (g1 : ¬ (x3 ≤ x4)), vp_in x4 1600)
    (k4 : ∀ (g1 : ¬ (x3 ≤ x4)), E K_X7_run 121 [some (aR (some 26)), some (aI x1), some (aI x2), some (aI x3), some (aI (x4 + 1)), none, none] [] (wrJ M 54 x4.toNatClampNeg (mJ M 50 x4.toNatClampNeg)) v M') :
    E K_X7_run 121 [some (aR (some 26)), some (aI x1), some (aI x2), some (aI x3), some (aI x4), none, none] [] M v M' := by
  refine e_iload dX7_run_121 rfl ?_
  refine e_iload_n dX7_run_123 rfl ?_
  refine e_icmp_ge (tgt := 147) dX7_run_124 rfl (fun g1 => ?_) (fun g1 => ?_)
  ·
    exact (k1 g1)
  ·
    refine e_aload_n dX7_run_127 rfl ?_
    refine e_get ff_7_31 hS.l26 w866 dX7_run_128 (w := aR (some 54)) hS.f26_31 ?_
    refine e_iload dX7_run_131 rfl ?_
    refine e_aload_n dX7_run_133 rfl ?_
    refine e_get ff_7_26 hS.l26 w861 dX7_run_134 (w := aR (some 50)) hS.f26_26 ?_
    refine e_iload dX7_run_137 rfl ?_
    refine e_lald hS.l50 (hS.b50 (b2 g1)) dX7_run_139 ?_
    refine e_last hS.l54 (hS.b54 (b3 g1)) dX7_run_140 ?_
    refine e_iinc dX7_run_141 rfl ?_
    show E K_X7_run 144 [some (aR (some 26)), some (aI x1), some (aI x2), some (aI x3), some (aI (x4 + 1)), none, none] [] (wrJ M 54 x4.toNatClampNeg (mJ M 50 x4.toNatClampNeg)) v M'
    refine e_goto (tgt := 121) dX7_run_144 rfl ?_
    exact (k4 g1)

set_option maxRecDepth 20000 in
theorem s_X7_run_147 {M M' : AM} {v : Option AV} {x1 : Int32} {x2 : Int32} {x3 : Int32} {x4 : Int32} {M1 : AM} {M2 : AM} {M3 : AM} {M4 : AM} (hS : St M)
    (k1 : ∀ (g1 : (mI M 26 34) ≤ 0), some (aI 1) = v ∧ M = M')
    (b2 : ∀ (g1 : ¬ ((mI M 26 34) ≤ 0)), vp_in ((mI M 26 34) - 1) 100)
    (b3 : ∀ (g1 : ¬ ((mI M 26 34) ≤ 0)) (g2 : ¬ (mI M 26 39) = x2), vp_in ((120 * (mI M 51 ((mI M 26 34) - 1).toNatClampNeg)) + (mI M 52 ((mI M 26 34) - 1).toNatClampNeg)) 3840)
    (b4 : ∀ (g1 : ¬ ((mI M 26 34) ≤ 0)) (g2 : ¬ (mI M 26 39) = x2) (g3 : ¬ (mI M 31 ((120 * (mI M 51 ((mI M 26 34) - 1).toNatClampNeg)) + (mI M 52 ((mI M 26 34) - 1).toNatClampNeg)).toNatClampNeg) = 16) (g4 : ¬ (mI M 31 ((120 * (mI M 51 ((mI M 26 34) - 1).toNatClampNeg)) + (mI M 52 ((mI M 26 34) - 1).toNatClampNeg)).toNatClampNeg) = 16), vp_in (mI M 31 ((120 * (mI M 51 ((mI M 26 34) - 1).toNatClampNeg)) + (mI M 52 ((mI M 26 34) - 1).toNatClampNeg)).toNatClampNeg) 18)
    (c5 : ∀ (g1 : ¬ ((mI M 26 34) ≤ 0)) (g2 : ¬ (mI M 26 39) = x2) (g3 : ¬ (mI M 31 ((120 * (mI M 51 ((mI M 26 34) - 1).toNatClampNeg)) + (mI M 52 ((mI M 26 34) - 1).toNatClampNeg)).toNatClampNeg) = 16) (g4 : ¬ (mI M 31 ((120 * (mI M 51 ((mI M 26 34) - 1).toNatClampNeg)) + (mI M 52 ((mI M 26 34) - 1).toNatClampNeg)).toNatClampNeg) = 16), Ev K_X7_doOne [aR (some 26), aI (mI M 51 ((mI M 26 34) - 1).toNatClampNeg), aI (mI M 52 ((mI M 26 34) - 1).toNatClampNeg)] (wrJ (wrI M 26 39 ((mI M 26 39) + 1)) 26 38 ((mJ M 26 38) + (mJ M 33 (mI M 31 ((120 * (mI M 51 ((mI M 26 34) - 1).toNatClampNeg)) + (mI M 52 ((mI M 26 34) - 1).toNatClampNeg)).toNatClampNeg).toNatClampNeg))) (none) M1)
    (k6 : ∀ (g1 : ¬ ((mI M 26 34) ≤ 0)) (g2 : ¬ (mI M 26 39) = x2) (g3 : ¬ (mI M 31 ((120 * (mI M 51 ((mI M 26 34) - 1).toNatClampNeg)) + (mI M 52 ((mI M 26 34) - 1).toNatClampNeg)).toNatClampNeg) = 16) (g4 : ¬ (mI M 31 ((120 * (mI M 51 ((mI M 26 34) - 1).toNatClampNeg)) + (mI M 52 ((mI M 26 34) - 1).toNatClampNeg)).toNatClampNeg) = 16), E K_X7_run 147 [some (aR (some 26)), some (aI x1), some (aI x2), some (aI x3), some (aI (mI M 51 ((mI M 26 34) - 1).toNatClampNeg)), some (aI (mI M 52 ((mI M 26 34) - 1).toNatClampNeg)), some (aI ((120 * (mI M 51 ((mI M 26 34) - 1).toNatClampNeg)) + (mI M 52 ((mI M 26 34) - 1).toNatClampNeg)))] [] M1 v M')
    (b7 : ∀ (g1 : ¬ ((mI M 26 34) ≤ 0)) (g2 : ¬ (mI M 26 39) = x2) (g3 : ¬ (mI M 31 ((120 * (mI M 51 ((mI M 26 34) - 1).toNatClampNeg)) + (mI M 52 ((mI M 26 34) - 1).toNatClampNeg)).toNatClampNeg) = 16) (g4 : (mI M 31 ((120 * (mI M 51 ((mI M 26 34) - 1).toNatClampNeg)) + (mI M 52 ((mI M 26 34) - 1).toNatClampNeg)).toNatClampNeg) = 16) (g5 : ¬ (mI M 26 34) = 100), vp_in (mI M 31 ((120 * (mI M 51 ((mI M 26 34) - 1).toNatClampNeg)) + (mI M 52 ((mI M 26 34) - 1).toNatClampNeg)).toNatClampNeg) 18)
    (c8 : ∀ (g1 : ¬ ((mI M 26 34) ≤ 0)) (g2 : ¬ (mI M 26 39) = x2) (g3 : ¬ (mI M 31 ((120 * (mI M 51 ((mI M 26 34) - 1).toNatClampNeg)) + (mI M 52 ((mI M 26 34) - 1).toNatClampNeg)).toNatClampNeg) = 16) (g4 : (mI M 31 ((120 * (mI M 51 ((mI M 26 34) - 1).toNatClampNeg)) + (mI M 52 ((mI M 26 34) - 1).toNatClampNeg)).toNatClampNeg) = 16) (g5 : ¬ (mI M 26 34) = 100), Ev K_X7_doOne [aR (some 26), aI (mI M 51 ((mI M 26 34) - 1).toNatClampNeg), aI (mI M 52 ((mI M 26 34) - 1).toNatClampNeg)] (wrJ (wrI M 26 39 ((mI M 26 39) + 1)) 26 38 ((mJ M 26 38) + (mJ M 33 (mI M 31 ((120 * (mI M 51 ((mI M 26 34) - 1).toNatClampNeg)) + (mI M 52 ((mI M 26 34) - 1).toNatClampNeg)).toNatClampNeg).toNatClampNeg))) (none) M2)
    (k9 : ∀ (g1 : ¬ ((mI M 26 34) ≤ 0)) (g2 : ¬ (mI M 26 39) = x2) (g3 : ¬ (mI M 31 ((120 * (mI M 51 ((mI M 26 34) - 1).toNatClampNeg)) + (mI M 52 ((mI M 26 34) - 1).toNatClampNeg)).toNatClampNeg) = 16) (g4 : (mI M 31 ((120 * (mI M 51 ((mI M 26 34) - 1).toNatClampNeg)) + (mI M 52 ((mI M 26 34) - 1).toNatClampNeg)).toNatClampNeg) = 16) (g5 : ¬ (mI M 26 34) = 100), E K_X7_run 147 [some (aR (some 26)), some (aI x1), some (aI x2), some (aI x3), some (aI (mI M 51 ((mI M 26 34) - 1).toNatClampNeg)), some (aI (mI M 52 ((mI M 26 34) - 1).toNatClampNeg)), some (aI ((120 * (mI M 51 ((mI M 26 34) - 1).toNatClampNeg)) + (mI M 52 ((mI M 26 34) - 1).toNatClampNeg)))] [] M2 v M')
    (k10 : ∀ (g1 : ¬ ((mI M 26 34) ≤ 0)) (g2 : ¬ (mI M 26 39) = x2) (g3 : ¬ (mI M 31 ((120 * (mI M 51 ((mI M 26 34) - 1).toNatClampNeg)) + (mI M 52 ((mI M 26 34) - 1).toNatClampNeg)).toNatClampNeg) = 16) (g4 : (mI M 31 ((120 * (mI M 51 ((mI M 26 34) - 1).toNatClampNeg)) + (mI M 52 ((mI M 26 34) - 1).toNatClampNeg)).toNatClampNeg) = 16) (g5 : (mI M 26 34) = 100), some (aI 3) = v ∧ M = M')
    (b11 : ∀ (g1 : ¬ ((mI M 26 34) ≤ 0)) (g2 : ¬ (mI M 26 39) = x2) (g3 : (mI M 31 ((120 * (mI M 51 ((mI M 26 34) - 1).toNatClampNeg)) + (mI M 52 ((mI M 26 34) - 1).toNatClampNeg)).toNatClampNeg) = 16), vp_in ((mJ M 32 ((120 * (mI M 51 ((mI M 26 34) - 1).toNatClampNeg)) + (mI M 52 ((mI M 26 34) - 1).toNatClampNeg)).toNatClampNeg : Int64).toInt32) 32)
    (b12 : ∀ (g1 : ¬ ((mI M 26 34) ≤ 0)) (g2 : ¬ (mI M 26 39) = x2) (g3 : (mI M 31 ((120 * (mI M 51 ((mI M 26 34) - 1).toNatClampNeg)) + (mI M 52 ((mI M 26 34) - 1).toNatClampNeg)).toNatClampNeg) = 16) (g6 : (mI M 38 ((mJ M 32 ((120 * (mI M 51 ((mI M 26 34) - 1).toNatClampNeg)) + (mI M 52 ((mI M 26 34) - 1).toNatClampNeg)).toNatClampNeg : Int64).toInt32).toNatClampNeg) ≤ 0) (g7 : ¬ (mI M 31 ((120 * (mI M 51 ((mI M 26 34) - 1).toNatClampNeg)) + (mI M 52 ((mI M 26 34) - 1).toNatClampNeg)).toNatClampNeg) = 16), vp_in (mI M 31 ((120 * (mI M 51 ((mI M 26 34) - 1).toNatClampNeg)) + (mI M 52 ((mI M 26 34) - 1).toNatClampNeg)).toNatClampNeg) 18)
    (c13 : ∀ (g1 : ¬ ((mI M 26 34) ≤ 0)) (g2 : ¬ (mI M 26 39) = x2) (g3 : (mI M 31 ((120 * (mI M 51 ((mI M 26 34) - 1).toNatClampNeg)) + (mI M 52 ((mI M 26 34) - 1).toNatClampNeg)).toNatClampNeg) = 16) (g6 : (mI M 38 ((mJ M 32 ((120 * (mI M 51 ((mI M 26 34) - 1).toNatClampNeg)) + (mI M 52 ((mI M 26 34) - 1).toNatClampNeg)).toNatClampNeg : Int64).toInt32).toNatClampNeg) ≤ 0) (g7 : ¬ (mI M 31 ((120 * (mI M 51 ((mI M 26 34) - 1).toNatClampNeg)) + (mI M 52 ((mI M 26 34) - 1).toNatClampNeg)).toNatClampNeg) = 16), Ev K_X7_doOne [aR (some 26), aI (mI M 51 ((mI M 26 34) - 1).toNatClampNeg), aI (mI M 52 ((mI M 26 34) - 1).toNatClampNeg)] (wrJ (wrI M 26 39 ((mI M 26 39) + 1)) 26 38 ((mJ M 26 38) + (mJ M 33 (mI M 31 ((120 * (mI M 51 ((mI M 26 34) - 1).toNatClampNeg)) + (mI M 52 ((mI M 26 34) - 1).toNatClampNeg)).toNatClampNeg).toNatClampNeg))) (none) M3)
    (k14 : ∀ (g1 : ¬ ((mI M 26 34) ≤ 0)) (g2 : ¬ (mI M 26 39) = x2) (g3 : (mI M 31 ((120 * (mI M 51 ((mI M 26 34) - 1).toNatClampNeg)) + (mI M 52 ((mI M 26 34) - 1).toNatClampNeg)).toNatClampNeg) = 16) (g6 : (mI M 38 ((mJ M 32 ((120 * (mI M 51 ((mI M 26 34) - 1).toNatClampNeg)) + (mI M 52 ((mI M 26 34) - 1).toNatClampNeg)).toNatClampNeg : Int64).toInt32).toNatClampNeg) ≤ 0) (g7 : ¬ (mI M 31 ((120 * (mI M 51 ((mI M 26 34) - 1).toNatClampNeg)) + (mI M 52 ((mI M 26 34) - 1).toNatClampNeg)).toNatClampNeg) = 16), E K_X7_run 147 [some (aR (some 26)), some (aI x1), some (aI x2), some (aI x3), some (aI (mI M 51 ((mI M 26 34) - 1).toNatClampNeg)), some (aI (mI M 52 ((mI M 26 34) - 1).toNatClampNeg)), some (aI ((120 * (mI M 51 ((mI M 26 34) - 1).toNatClampNeg)) + (mI M 52 ((mI M 26 34) - 1).toNatClampNeg)))] [] M3 v M')
    (b15 : ∀ (g1 : ¬ ((mI M 26 34) ≤ 0)) (g2 : ¬ (mI M 26 39) = x2) (g3 : (mI M 31 ((120 * (mI M 51 ((mI M 26 34) - 1).toNatClampNeg)) + (mI M 52 ((mI M 26 34) - 1).toNatClampNeg)).toNatClampNeg) = 16) (g6 : (mI M 38 ((mJ M 32 ((120 * (mI M 51 ((mI M 26 34) - 1).toNatClampNeg)) + (mI M 52 ((mI M 26 34) - 1).toNatClampNeg)).toNatClampNeg : Int64).toInt32).toNatClampNeg) ≤ 0) (g7 : (mI M 31 ((120 * (mI M 51 ((mI M 26 34) - 1).toNatClampNeg)) + (mI M 52 ((mI M 26 34) - 1).toNatClampNeg)).toNatClampNeg) = 16) (g8 : ¬ (mI M 26 34) = 100), vp_in (mI M 31 ((120 * (mI M 51 ((mI M 26 34) - 1).toNatClampNeg)) + (mI M 52 ((mI M 26 34) - 1).toNatClampNeg)).toNatClampNeg) 18)
    (c16 : ∀ (g1 : ¬ ((mI M 26 34) ≤ 0)) (g2 : ¬ (mI M 26 39) = x2) (g3 : (mI M 31 ((120 * (mI M 51 ((mI M 26 34) - 1).toNatClampNeg)) + (mI M 52 ((mI M 26 34) - 1).toNatClampNeg)).toNatClampNeg) = 16) (g6 : (mI M 38 ((mJ M 32 ((120 * (mI M 51 ((mI M 26 34) - 1).toNatClampNeg)) + (mI M 52 ((mI M 26 34) - 1).toNatClampNeg)).toNatClampNeg : Int64).toInt32).toNatClampNeg) ≤ 0) (g7 : (mI M 31 ((120 * (mI M 51 ((mI M 26 34) - 1).toNatClampNeg)) + (mI M 52 ((mI M 26 34) - 1).toNatClampNeg)).toNatClampNeg) = 16) (g8 : ¬ (mI M 26 34) = 100), Ev K_X7_doOne [aR (some 26), aI (mI M 51 ((mI M 26 34) - 1).toNatClampNeg), aI (mI M 52 ((mI M 26 34) - 1).toNatClampNeg)] (wrJ (wrI M 26 39 ((mI M 26 39) + 1)) 26 38 ((mJ M 26 38) + (mJ M 33 (mI M 31 ((120 * (mI M 51 ((mI M 26 34) - 1).toNatClampNeg)) + (mI M 52 ((mI M 26 34) - 1).toNatClampNeg)).toNatClampNeg).toNatClampNeg))) (none) M4)
    (k17 : ∀ (g1 : ¬ ((mI M 26 34) ≤ 0)) (g2 : ¬ (mI M 26 39) = x2) (g3 : (mI M 31 ((120 * (mI M 51 ((mI M 26 34) - 1).toNatClampNeg)) + (mI M 52 ((mI M 26 34) - 1).toNatClampNeg)).toNatClampNeg) = 16) (g6 : (mI M 38 ((mJ M 32 ((120 * (mI M 51 ((mI M 26 34) - 1).toNatClampNeg)) + (mI M 52 ((mI M 26 34) - 1).toNatClampNeg)).toNatClampNeg : Int64).toInt32).toNatClampNeg) ≤ 0) (g7 : (mI M 31 ((120 * (mI M 51 ((mI M 26 34) - 1).toNatClampNeg)) + (mI M 52 ((mI M 26 34) - 1).toNatClampNeg)).toNatClampNeg) = 16) (g8 : ¬ (mI M 26 34) = 100), E K_X7_run 147 [some (aR (some 26)), some (aI x1), some (aI x2), some (aI x3), some (aI (mI M 51 ((mI M 26 34) - 1).toNatClampNeg)), some (aI (mI M 52 ((mI M 26 34) - 1).toNatClampNeg)), some (aI ((120 * (mI M 51 ((mI M 26 34) - 1).toNatClampNeg)) + (mI M 52 ((mI M 26 34) - 1).toNatClampNeg)))] [] M4 v M')
    (k18 : ∀ (g1 : ¬ ((mI M 26 34) ≤ 0)) (g2 : ¬ (mI M 26 39) = x2) (g3 : (mI M 31 ((120 * (mI M 51 ((mI M 26 34) - 1).toNatClampNeg)) + (mI M 52 ((mI M 26 34) - 1).toNatClampNeg)).toNatClampNeg) = 16) (g6 : (mI M 38 ((mJ M 32 ((120 * (mI M 51 ((mI M 26 34) - 1).toNatClampNeg)) + (mI M 52 ((mI M 26 34) - 1).toNatClampNeg)).toNatClampNeg : Int64).toInt32).toNatClampNeg) ≤ 0) (g7 : (mI M 31 ((120 * (mI M 51 ((mI M 26 34) - 1).toNatClampNeg)) + (mI M 52 ((mI M 26 34) - 1).toNatClampNeg)).toNatClampNeg) = 16) (g8 : (mI M 26 34) = 100), some (aI 3) = v ∧ M = M')
    (k19 : ∀ (g1 : ¬ ((mI M 26 34) ≤ 0)) (g2 : ¬ (mI M 26 39) = x2) (g3 : (mI M 31 ((120 * (mI M 51 ((mI M 26 34) - 1).toNatClampNeg)) + (mI M 52 ((mI M 26 34) - 1).toNatClampNeg)).toNatClampNeg) = 16) (g6 : ¬ ((mI M 38 ((mJ M 32 ((120 * (mI M 51 ((mI M 26 34) - 1).toNatClampNeg)) + (mI M 52 ((mI M 26 34) - 1).toNatClampNeg)).toNatClampNeg : Int64).toInt32).toNatClampNeg) ≤ 0)), some (aI 4) = v ∧ M = M')
    (k20 : ∀ (g1 : ¬ ((mI M 26 34) ≤ 0)) (g2 : (mI M 26 39) = x2), some (aI 2) = v ∧ M = M') :
    E K_X7_run 147 [some (aR (some 26)), some (aI x1), some (aI x2), some (aI x3), some (aI x4), none, none] [] M v M' := by
  refine e_aload_n dX7_run_147 rfl ?_
  refine e_get ff_7_34 hS.l26 w869 dX7_run_148 (w := aI (mI M 26 34)) rfl ?_
  refine e_if_le (tgt := 295) dX7_run_151 rfl (fun g1 => ?_) (fun g1 => ?_)
  ·
    refine e_iconst (u := 1) dX7_run_295 (by decide) ?_
    exact e_iret rfl dX7_run_296 (k1 g1)
  ·
    refine e_aload_n dX7_run_154 rfl ?_
    refine e_get ff_7_28 hS.l26 w863 dX7_run_155 (w := aR (some 51)) hS.f26_28 ?_
    refine e_aload_n dX7_run_158 rfl ?_
    refine e_get ff_7_34 hS.l26 w869 dX7_run_159 (w := aI (mI M 26 34)) rfl ?_
    refine e_iconst (u := 1) dX7_run_162 (by decide) ?_
    refine e_isub dX7_run_163 ?_
    refine e_iald hS.l51 (hS.b51 (b2 g1)) dX7_run_164 ?_
    refine e_istore dX7_run_165 (Nat.le_of_ble_eq_true rfl) ?_
    show E K_X7_run 167 [some (aR (some 26)), some (aI x1), some (aI x2), some (aI x3), some (aI (mI M 51 ((mI M 26 34) - 1).toNatClampNeg)), none, none] [] M v M'
    refine e_aload_n dX7_run_167 rfl ?_
    refine e_get ff_7_29 hS.l26 w864 dX7_run_168 (w := aR (some 52)) hS.f26_29 ?_
    refine e_aload_n dX7_run_171 rfl ?_
    refine e_get ff_7_34 hS.l26 w869 dX7_run_172 (w := aI (mI M 26 34)) rfl ?_
    refine e_iconst (u := 1) dX7_run_175 (by decide) ?_
    refine e_isub dX7_run_176 ?_
    refine e_iald hS.l52 (hS.b52 (b2 g1)) dX7_run_177 ?_
    refine e_istore dX7_run_178 (Nat.le_of_ble_eq_true rfl) ?_
    show E K_X7_run 180 [some (aR (some 26)), some (aI x1), some (aI x2), some (aI x3), some (aI (mI M 51 ((mI M 26 34) - 1).toNatClampNeg)), some (aI (mI M 52 ((mI M 26 34) - 1).toNatClampNeg)), none] [] M v M'
    refine e_bipush (u := 120) dX7_run_180 (by decide) ?_
    refine e_iload dX7_run_182 rfl ?_
    refine e_imul dX7_run_184 ?_
    refine e_iload dX7_run_185 rfl ?_
    refine e_iadd dX7_run_187 ?_
    refine e_istore dX7_run_188 (Nat.le_of_ble_eq_true rfl) ?_
    show E K_X7_run 190 [some (aR (some 26)), some (aI x1), some (aI x2), some (aI x3), some (aI (mI M 51 ((mI M 26 34) - 1).toNatClampNeg)), some (aI (mI M 52 ((mI M 26 34) - 1).toNatClampNeg)), some (aI ((120 * (mI M 51 ((mI M 26 34) - 1).toNatClampNeg)) + (mI M 52 ((mI M 26 34) - 1).toNatClampNeg)))] [] M v M'
    refine e_aload_n dX7_run_190 rfl ?_
    refine e_get ff_7_39 hS.l26 w874 dX7_run_191 (w := aI (mI M 26 39)) rfl ?_
    refine e_iload_n dX7_run_194 rfl ?_
    refine e_icmp_ne (tgt := 200) dX7_run_195 rfl (fun g2 => ?_) (fun g2 => ?_)
    ·
      refine e_aload_n dX7_run_200 rfl ?_
      refine e_get ff_7_5 hS.l26 w840 dX7_run_201 (w := aR (some 31)) hS.f26_5 ?_
      refine e_iload dX7_run_204 rfl ?_
      refine e_iald hS.l31 (hS.b31 (b3 g1 g2)) dX7_run_206 ?_
      refine e_bipush (u := 16) dX7_run_207 (by decide) ?_
      refine e_icmp_ne (tgt := 230) dX7_run_209 rfl (fun g3 => ?_) (fun g3 => ?_)
      ·
        refine e_aload_n dX7_run_230 rfl ?_
        refine e_get ff_7_5 hS.l26 w840 dX7_run_231 (w := aR (some 31)) hS.f26_5 ?_
        refine e_iload dX7_run_234 rfl ?_
        refine e_iald hS.l31 (hS.b31 (b3 g1 g2)) dX7_run_236 ?_
        refine e_bipush (u := 16) dX7_run_237 (by decide) ?_
        refine e_icmp_ne (tgt := 253) dX7_run_239 rfl (fun g4 => ?_) (fun g4 => ?_)
        ·
          refine e_aload_n dX7_run_253 rfl ?_
          refine e_dupR dX7_run_254 ?_
          refine e_get ff_7_39 hS.l26 w874 dX7_run_255 (w := aI (mI M 26 39)) rfl ?_
          refine e_iconst (u := 1) dX7_run_258 (by decide) ?_
          refine e_iadd dX7_run_259 ?_
          refine e_putI ff_7_39 rfl hS.l26 w874 dX7_run_260 ?_
          refine e_aload_n dX7_run_263 rfl ?_
          refine e_dupR dX7_run_264 ?_
          refine e_get ff_7_38 hS.l26 w873 dX7_run_265 (w := aJ (mJ M 26 38)) rfl ?_
          refine e_aload_n dX7_run_268 rfl ?_
          refine e_get ff_7_7 hS.l26 w842 dX7_run_269 (w := aR (some 33)) hS.f26_7 ?_
          refine e_aload_n dX7_run_272 rfl ?_
          refine e_get ff_7_5 hS.l26 w840 dX7_run_273 (w := aR (some 31)) hS.f26_5 ?_
          refine e_iload dX7_run_276 rfl ?_
          refine e_iald hS.l31 (hS.b31 (b3 g1 g2)) dX7_run_278 ?_
          show E K_X7_run 279 [some (aR (some 26)), some (aI x1), some (aI x2), some (aI x3), some (aI (mI M 51 ((mI M 26 34) - 1).toNatClampNeg)), some (aI (mI M 52 ((mI M 26 34) - 1).toNatClampNeg)), some (aI ((120 * (mI M 51 ((mI M 26 34) - 1).toNatClampNeg)) + (mI M 52 ((mI M 26 34) - 1).toNatClampNeg)))] [aI (mI M 31 ((120 * (mI M 51 ((mI M 26 34) - 1).toNatClampNeg)) + (mI M 52 ((mI M 26 34) - 1).toNatClampNeg)).toNatClampNeg), aR (some 33), aJ (mJ M 26 38), aR (some 26)] (wrI M 26 39 ((mI M 26 39) + 1)) v M'
          refine e_lald hS.l33 (hS.b33 (b4 g1 g2 g3 g4)) dX7_run_279 ?_
          show E K_X7_run 280 [some (aR (some 26)), some (aI x1), some (aI x2), some (aI x3), some (aI (mI M 51 ((mI M 26 34) - 1).toNatClampNeg)), some (aI (mI M 52 ((mI M 26 34) - 1).toNatClampNeg)), some (aI ((120 * (mI M 51 ((mI M 26 34) - 1).toNatClampNeg)) + (mI M 52 ((mI M 26 34) - 1).toNatClampNeg)))] [aJ (mJ M 33 (mI M 31 ((120 * (mI M 51 ((mI M 26 34) - 1).toNatClampNeg)) + (mI M 52 ((mI M 26 34) - 1).toNatClampNeg)).toNatClampNeg).toNatClampNeg), aJ (mJ M 26 38), aR (some 26)] (wrI M 26 39 ((mI M 26 39) + 1)) v M'
          refine e_ladd dX7_run_280 ?_
          refine e_putJ ff_7_38 rfl hS.l26 w873 dX7_run_281 ?_
          refine e_aload_n dX7_run_284 rfl ?_
          refine e_iload dX7_run_285 rfl ?_
          refine e_iload dX7_run_287 rfl ?_
          refine e_callV (As := [aI (mI M 51 ((mI M 26 34) - 1).toNatClampNeg), aI (mI M 52 ((mI M 26 34) - 1).toNatClampNeg)]) (rest := []) vk_X7_doOne hS.l26 w1113 ⟨by decide, by decide⟩ (Nat.le_of_ble_eq_true rfl) dX7_run_289 (c5 g1 g2 g3 g4) ?_
          show E K_X7_run 292 [some (aR (some 26)), some (aI x1), some (aI x2), some (aI x3), some (aI (mI M 51 ((mI M 26 34) - 1).toNatClampNeg)), some (aI (mI M 52 ((mI M 26 34) - 1).toNatClampNeg)), some (aI ((120 * (mI M 51 ((mI M 26 34) - 1).toNatClampNeg)) + (mI M 52 ((mI M 26 34) - 1).toNatClampNeg)))] [] M1 v M'
          have hS_1 : St M1 := St.sh (M := (wrJ (wrI M 26 39 ((mI M 26 39) + 1)) 26 38 ((mJ M 26 38) + (mJ M 33 (mI M 31 ((120 * (mI M 51 ((mI M 26 34) - 1).toNatClampNeg)) + (mI M 52 ((mI M 26 34) - 1).toNatClampNeg)).toNatClampNeg).toNatClampNeg)))) (c5 g1 g2 g3 g4).2.1 hS
          refine e_goto (tgt := 147) dX7_run_292 rfl ?_
          exact (k6 g1 g2 g3 g4)
        ·
          refine e_aload_n dX7_run_242 rfl ?_
          refine e_get ff_7_34 hS.l26 w869 dX7_run_243 (w := aI (mI M 26 34)) rfl ?_
          refine e_bipush (u := 100) dX7_run_246 (by decide) ?_
          refine e_icmp_ne (tgt := 253) dX7_run_248 rfl (fun g5 => ?_) (fun g5 => ?_)
          ·
            refine e_aload_n dX7_run_253 rfl ?_
            refine e_dupR dX7_run_254 ?_
            refine e_get ff_7_39 hS.l26 w874 dX7_run_255 (w := aI (mI M 26 39)) rfl ?_
            refine e_iconst (u := 1) dX7_run_258 (by decide) ?_
            refine e_iadd dX7_run_259 ?_
            refine e_putI ff_7_39 rfl hS.l26 w874 dX7_run_260 ?_
            refine e_aload_n dX7_run_263 rfl ?_
            refine e_dupR dX7_run_264 ?_
            refine e_get ff_7_38 hS.l26 w873 dX7_run_265 (w := aJ (mJ M 26 38)) rfl ?_
            refine e_aload_n dX7_run_268 rfl ?_
            refine e_get ff_7_7 hS.l26 w842 dX7_run_269 (w := aR (some 33)) hS.f26_7 ?_
            refine e_aload_n dX7_run_272 rfl ?_
            refine e_get ff_7_5 hS.l26 w840 dX7_run_273 (w := aR (some 31)) hS.f26_5 ?_
            refine e_iload dX7_run_276 rfl ?_
            refine e_iald hS.l31 (hS.b31 (b3 g1 g2)) dX7_run_278 ?_
            show E K_X7_run 279 [some (aR (some 26)), some (aI x1), some (aI x2), some (aI x3), some (aI (mI M 51 ((mI M 26 34) - 1).toNatClampNeg)), some (aI (mI M 52 ((mI M 26 34) - 1).toNatClampNeg)), some (aI ((120 * (mI M 51 ((mI M 26 34) - 1).toNatClampNeg)) + (mI M 52 ((mI M 26 34) - 1).toNatClampNeg)))] [aI (mI M 31 ((120 * (mI M 51 ((mI M 26 34) - 1).toNatClampNeg)) + (mI M 52 ((mI M 26 34) - 1).toNatClampNeg)).toNatClampNeg), aR (some 33), aJ (mJ M 26 38), aR (some 26)] (wrI M 26 39 ((mI M 26 39) + 1)) v M'
            refine e_lald hS.l33 (hS.b33 (b7 g1 g2 g3 g4 g5)) dX7_run_279 ?_
            show E K_X7_run 280 [some (aR (some 26)), some (aI x1), some (aI x2), some (aI x3), some (aI (mI M 51 ((mI M 26 34) - 1).toNatClampNeg)), some (aI (mI M 52 ((mI M 26 34) - 1).toNatClampNeg)), some (aI ((120 * (mI M 51 ((mI M 26 34) - 1).toNatClampNeg)) + (mI M 52 ((mI M 26 34) - 1).toNatClampNeg)))] [aJ (mJ M 33 (mI M 31 ((120 * (mI M 51 ((mI M 26 34) - 1).toNatClampNeg)) + (mI M 52 ((mI M 26 34) - 1).toNatClampNeg)).toNatClampNeg).toNatClampNeg), aJ (mJ M 26 38), aR (some 26)] (wrI M 26 39 ((mI M 26 39) + 1)) v M'
            refine e_ladd dX7_run_280 ?_
            refine e_putJ ff_7_38 rfl hS.l26 w873 dX7_run_281 ?_
            refine e_aload_n dX7_run_284 rfl ?_
            refine e_iload dX7_run_285 rfl ?_
            refine e_iload dX7_run_287 rfl ?_
            refine e_callV (As := [aI (mI M 51 ((mI M 26 34) - 1).toNatClampNeg), aI (mI M 52 ((mI M 26 34) - 1).toNatClampNeg)]) (rest := []) vk_X7_doOne hS.l26 w1113 ⟨by decide, by decide⟩ (Nat.le_of_ble_eq_true rfl) dX7_run_289 (c8 g1 g2 g3 g4 g5) ?_
            show E K_X7_run 292 [some (aR (some 26)), some (aI x1), some (aI x2), some (aI x3), some (aI (mI M 51 ((mI M 26 34) - 1).toNatClampNeg)), some (aI (mI M 52 ((mI M 26 34) - 1).toNatClampNeg)), some (aI ((120 * (mI M 51 ((mI M 26 34) - 1).toNatClampNeg)) + (mI M 52 ((mI M 26 34) - 1).toNatClampNeg)))] [] M2 v M'
            have hS_2 : St M2 := St.sh (M := (wrJ (wrI M 26 39 ((mI M 26 39) + 1)) 26 38 ((mJ M 26 38) + (mJ M 33 (mI M 31 ((120 * (mI M 51 ((mI M 26 34) - 1).toNatClampNeg)) + (mI M 52 ((mI M 26 34) - 1).toNatClampNeg)).toNatClampNeg).toNatClampNeg)))) (c8 g1 g2 g3 g4 g5).2.1 hS
            refine e_goto (tgt := 147) dX7_run_292 rfl ?_
            exact (k9 g1 g2 g3 g4 g5)
          ·
            refine e_iconst (u := 3) dX7_run_251 (by decide) ?_
            exact e_iret rfl dX7_run_252 (k10 g1 g2 g3 g4 g5)
      ·
        refine e_aload_n dX7_run_212 rfl ?_
        refine e_get ff_7_14 hS.l26 w849 dX7_run_213 (w := aR (some 38)) hS.f26_14 ?_
        refine e_aload_n dX7_run_216 rfl ?_
        refine e_get ff_7_6 hS.l26 w841 dX7_run_217 (w := aR (some 32)) hS.f26_6 ?_
        refine e_iload dX7_run_220 rfl ?_
        refine e_lald hS.l32 (hS.b32 (b3 g1 g2)) dX7_run_222 ?_
        refine e_l2i dX7_run_223 ?_
        refine e_iald hS.l38 (hS.b38 (b11 g1 g2 g3)) dX7_run_224 ?_
        refine e_if_le (tgt := 230) dX7_run_225 rfl (fun g6 => ?_) (fun g6 => ?_)
        ·
          refine e_aload_n dX7_run_230 rfl ?_
          refine e_get ff_7_5 hS.l26 w840 dX7_run_231 (w := aR (some 31)) hS.f26_5 ?_
          refine e_iload dX7_run_234 rfl ?_
          refine e_iald hS.l31 (hS.b31 (b3 g1 g2)) dX7_run_236 ?_
          refine e_bipush (u := 16) dX7_run_237 (by decide) ?_
          refine e_icmp_ne (tgt := 253) dX7_run_239 rfl (fun g7 => ?_) (fun g7 => ?_)
          ·
            refine e_aload_n dX7_run_253 rfl ?_
            refine e_dupR dX7_run_254 ?_
            refine e_get ff_7_39 hS.l26 w874 dX7_run_255 (w := aI (mI M 26 39)) rfl ?_
            refine e_iconst (u := 1) dX7_run_258 (by decide) ?_
            refine e_iadd dX7_run_259 ?_
            refine e_putI ff_7_39 rfl hS.l26 w874 dX7_run_260 ?_
            refine e_aload_n dX7_run_263 rfl ?_
            refine e_dupR dX7_run_264 ?_
            refine e_get ff_7_38 hS.l26 w873 dX7_run_265 (w := aJ (mJ M 26 38)) rfl ?_
            refine e_aload_n dX7_run_268 rfl ?_
            refine e_get ff_7_7 hS.l26 w842 dX7_run_269 (w := aR (some 33)) hS.f26_7 ?_
            refine e_aload_n dX7_run_272 rfl ?_
            refine e_get ff_7_5 hS.l26 w840 dX7_run_273 (w := aR (some 31)) hS.f26_5 ?_
            refine e_iload dX7_run_276 rfl ?_
            refine e_iald hS.l31 (hS.b31 (b3 g1 g2)) dX7_run_278 ?_
            show E K_X7_run 279 [some (aR (some 26)), some (aI x1), some (aI x2), some (aI x3), some (aI (mI M 51 ((mI M 26 34) - 1).toNatClampNeg)), some (aI (mI M 52 ((mI M 26 34) - 1).toNatClampNeg)), some (aI ((120 * (mI M 51 ((mI M 26 34) - 1).toNatClampNeg)) + (mI M 52 ((mI M 26 34) - 1).toNatClampNeg)))] [aI (mI M 31 ((120 * (mI M 51 ((mI M 26 34) - 1).toNatClampNeg)) + (mI M 52 ((mI M 26 34) - 1).toNatClampNeg)).toNatClampNeg), aR (some 33), aJ (mJ M 26 38), aR (some 26)] (wrI M 26 39 ((mI M 26 39) + 1)) v M'
            refine e_lald hS.l33 (hS.b33 (b12 g1 g2 g3 g6 g7)) dX7_run_279 ?_
            show E K_X7_run 280 [some (aR (some 26)), some (aI x1), some (aI x2), some (aI x3), some (aI (mI M 51 ((mI M 26 34) - 1).toNatClampNeg)), some (aI (mI M 52 ((mI M 26 34) - 1).toNatClampNeg)), some (aI ((120 * (mI M 51 ((mI M 26 34) - 1).toNatClampNeg)) + (mI M 52 ((mI M 26 34) - 1).toNatClampNeg)))] [aJ (mJ M 33 (mI M 31 ((120 * (mI M 51 ((mI M 26 34) - 1).toNatClampNeg)) + (mI M 52 ((mI M 26 34) - 1).toNatClampNeg)).toNatClampNeg).toNatClampNeg), aJ (mJ M 26 38), aR (some 26)] (wrI M 26 39 ((mI M 26 39) + 1)) v M'
            refine e_ladd dX7_run_280 ?_
            refine e_putJ ff_7_38 rfl hS.l26 w873 dX7_run_281 ?_
            refine e_aload_n dX7_run_284 rfl ?_
            refine e_iload dX7_run_285 rfl ?_
            refine e_iload dX7_run_287 rfl ?_
            refine e_callV (As := [aI (mI M 51 ((mI M 26 34) - 1).toNatClampNeg), aI (mI M 52 ((mI M 26 34) - 1).toNatClampNeg)]) (rest := []) vk_X7_doOne hS.l26 w1113 ⟨by decide, by decide⟩ (Nat.le_of_ble_eq_true rfl) dX7_run_289 (c13 g1 g2 g3 g6 g7) ?_
            show E K_X7_run 292 [some (aR (some 26)), some (aI x1), some (aI x2), some (aI x3), some (aI (mI M 51 ((mI M 26 34) - 1).toNatClampNeg)), some (aI (mI M 52 ((mI M 26 34) - 1).toNatClampNeg)), some (aI ((120 * (mI M 51 ((mI M 26 34) - 1).toNatClampNeg)) + (mI M 52 ((mI M 26 34) - 1).toNatClampNeg)))] [] M3 v M'
            have hS_3 : St M3 := St.sh (M := (wrJ (wrI M 26 39 ((mI M 26 39) + 1)) 26 38 ((mJ M 26 38) + (mJ M 33 (mI M 31 ((120 * (mI M 51 ((mI M 26 34) - 1).toNatClampNeg)) + (mI M 52 ((mI M 26 34) - 1).toNatClampNeg)).toNatClampNeg).toNatClampNeg)))) (c13 g1 g2 g3 g6 g7).2.1 hS
            refine e_goto (tgt := 147) dX7_run_292 rfl ?_
            exact (k14 g1 g2 g3 g6 g7)
          ·
            refine e_aload_n dX7_run_242 rfl ?_
            refine e_get ff_7_34 hS.l26 w869 dX7_run_243 (w := aI (mI M 26 34)) rfl ?_
            refine e_bipush (u := 100) dX7_run_246 (by decide) ?_
            refine e_icmp_ne (tgt := 253) dX7_run_248 rfl (fun g8 => ?_) (fun g8 => ?_)
            ·
              refine e_aload_n dX7_run_253 rfl ?_
              refine e_dupR dX7_run_254 ?_
              refine e_get ff_7_39 hS.l26 w874 dX7_run_255 (w := aI (mI M 26 39)) rfl ?_
              refine e_iconst (u := 1) dX7_run_258 (by decide) ?_
              refine e_iadd dX7_run_259 ?_
              refine e_putI ff_7_39 rfl hS.l26 w874 dX7_run_260 ?_
              refine e_aload_n dX7_run_263 rfl ?_
              refine e_dupR dX7_run_264 ?_
              refine e_get ff_7_38 hS.l26 w873 dX7_run_265 (w := aJ (mJ M 26 38)) rfl ?_
              refine e_aload_n dX7_run_268 rfl ?_
              refine e_get ff_7_7 hS.l26 w842 dX7_run_269 (w := aR (some 33)) hS.f26_7 ?_
              refine e_aload_n dX7_run_272 rfl ?_
              refine e_get ff_7_5 hS.l26 w840 dX7_run_273 (w := aR (some 31)) hS.f26_5 ?_
              refine e_iload dX7_run_276 rfl ?_
              refine e_iald hS.l31 (hS.b31 (b3 g1 g2)) dX7_run_278 ?_
              show E K_X7_run 279 [some (aR (some 26)), some (aI x1), some (aI x2), some (aI x3), some (aI (mI M 51 ((mI M 26 34) - 1).toNatClampNeg)), some (aI (mI M 52 ((mI M 26 34) - 1).toNatClampNeg)), some (aI ((120 * (mI M 51 ((mI M 26 34) - 1).toNatClampNeg)) + (mI M 52 ((mI M 26 34) - 1).toNatClampNeg)))] [aI (mI M 31 ((120 * (mI M 51 ((mI M 26 34) - 1).toNatClampNeg)) + (mI M 52 ((mI M 26 34) - 1).toNatClampNeg)).toNatClampNeg), aR (some 33), aJ (mJ M 26 38), aR (some 26)] (wrI M 26 39 ((mI M 26 39) + 1)) v M'
              refine e_lald hS.l33 (hS.b33 (b15 g1 g2 g3 g6 g7 g8)) dX7_run_279 ?_
              show E K_X7_run 280 [some (aR (some 26)), some (aI x1), some (aI x2), some (aI x3), some (aI (mI M 51 ((mI M 26 34) - 1).toNatClampNeg)), some (aI (mI M 52 ((mI M 26 34) - 1).toNatClampNeg)), some (aI ((120 * (mI M 51 ((mI M 26 34) - 1).toNatClampNeg)) + (mI M 52 ((mI M 26 34) - 1).toNatClampNeg)))] [aJ (mJ M 33 (mI M 31 ((120 * (mI M 51 ((mI M 26 34) - 1).toNatClampNeg)) + (mI M 52 ((mI M 26 34) - 1).toNatClampNeg)).toNatClampNeg).toNatClampNeg), aJ (mJ M 26 38), aR (some 26)] (wrI M 26 39 ((mI M 26 39) + 1)) v M'
              refine e_ladd dX7_run_280 ?_
              refine e_putJ ff_7_38 rfl hS.l26 w873 dX7_run_281 ?_
              refine e_aload_n dX7_run_284 rfl ?_
              refine e_iload dX7_run_285 rfl ?_
              refine e_iload dX7_run_287 rfl ?_
              refine e_callV (As := [aI (mI M 51 ((mI M 26 34) - 1).toNatClampNeg), aI (mI M 52 ((mI M 26 34) - 1).toNatClampNeg)]) (rest := []) vk_X7_doOne hS.l26 w1113 ⟨by decide, by decide⟩ (Nat.le_of_ble_eq_true rfl) dX7_run_289 (c16 g1 g2 g3 g6 g7 g8) ?_
              show E K_X7_run 292 [some (aR (some 26)), some (aI x1), some (aI x2), some (aI x3), some (aI (mI M 51 ((mI M 26 34) - 1).toNatClampNeg)), some (aI (mI M 52 ((mI M 26 34) - 1).toNatClampNeg)), some (aI ((120 * (mI M 51 ((mI M 26 34) - 1).toNatClampNeg)) + (mI M 52 ((mI M 26 34) - 1).toNatClampNeg)))] [] M4 v M'
              have hS_4 : St M4 := St.sh (M := (wrJ (wrI M 26 39 ((mI M 26 39) + 1)) 26 38 ((mJ M 26 38) + (mJ M 33 (mI M 31 ((120 * (mI M 51 ((mI M 26 34) - 1).toNatClampNeg)) + (mI M 52 ((mI M 26 34) - 1).toNatClampNeg)).toNatClampNeg).toNatClampNeg)))) (c16 g1 g2 g3 g6 g7 g8).2.1 hS
              refine e_goto (tgt := 147) dX7_run_292 rfl ?_
              exact (k17 g1 g2 g3 g6 g7 g8)
            ·
              refine e_iconst (u := 3) dX7_run_251 (by decide) ?_
              exact e_iret rfl dX7_run_252 (k18 g1 g2 g3 g6 g7 g8)
        ·
          refine e_iconst (u := 4) dX7_run_228 (by decide) ?_
          exact e_iret rfl dX7_run_229 (k19 g1 g2 g3 g6)
    ·
      refine e_iconst (u := 2) dX7_run_198 (by decide) ?_
      exact e_iret rfl dX7_run_199 (k20 g1 g2)

set_option maxRecDepth 20000 in
theorem s_X7_ran_0 {M M' : AM} {v : Option AV} {x1 : Int32} (hS : St M)
    (k1 : ∀ (g1 : x1 < 0), some (aJ 0) = v ∧ (wrI M 26 9 1) = M')
    (k2 : ∀ (g1 : ¬ (x1 < 0)) (g2 : x1 ≤ 4) (g3 : ¬ x1 = 0) (g4 : ¬ x1 = 1) (g5 : ¬ x1 = 2) (g6 : ¬ x1 = 3), some (aJ ((mI M 26 40 : Int32).toInt64)) = v ∧ (wrI M 26 9 0) = M')
    (k3 : ∀ (g1 : ¬ (x1 < 0)) (g2 : x1 ≤ 4) (g3 : ¬ x1 = 0) (g4 : ¬ x1 = 1) (g5 : ¬ x1 = 2) (g6 : x1 = 3), some (aJ ((mI M 26 39 : Int32).toInt64)) = v ∧ (wrI M 26 9 0) = M')
    (k4 : ∀ (g1 : ¬ (x1 < 0)) (g2 : x1 ≤ 4) (g3 : ¬ x1 = 0) (g4 : ¬ x1 = 1) (g5 : x1 = 2), some (aJ ((mI M 26 36 : Int32).toInt64)) = v ∧ (wrI M 26 9 0) = M')
    (k5 : ∀ (g1 : ¬ (x1 < 0)) (g2 : x1 ≤ 4) (g3 : ¬ x1 = 0) (g4 : x1 = 1), some (aJ (mJ M 26 38)) = v ∧ (wrI M 26 9 0) = M')
    (k6 : ∀ (g1 : ¬ (x1 < 0)) (g2 : x1 ≤ 4) (g3 : x1 = 0), some (aJ (mJ M 26 37)) = v ∧ (wrI M 26 9 0) = M')
    (k7 : ∀ (g1 : ¬ (x1 < 0)) (g2 : ¬ (x1 ≤ 4)), some (aJ 0) = v ∧ (wrI M 26 9 1) = M') :
    Ev K_X7_ran [aR (some 26), aI x1] M v M' := by
  refine ⟨Nat.le_of_ble_eq_true rfl, ?_⟩
  show E K_X7_ran 0 [some (aR (some 26)), some (aI x1)] [] M v M'
  refine e_aload_n dX7_ran_0 rfl ?_
  refine e_iload_n dX7_ran_1 rfl ?_
  refine e_if_lt (tgt := 10) dX7_ran_2 rfl (fun g1 => ?_) (fun g1 => ?_)
  ·
    refine e_iconst (u := 1) dX7_ran_10 (by decide) ?_
    refine e_goto (tgt := 15) dX7_ran_11 rfl ?_
    refine e_putI ff_7_9 rfl hS.l26 w844 dX7_ran_15 ?_
    refine e_aload_n dX7_ran_18 rfl ?_
    refine e_get ff_7_9 hS.l26 w844 dX7_ran_19 (w := aI 1) rfl ?_
    refine e_if_le (tgt := 27) dX7_ran_22 rfl (fun z => ?_) (fun z => ?_)
    · exact absurd z (by decide)
    ·
      refine e_lconst (u := 0) dX7_ran_25 (by decide) ?_
      exact e_lret rfl dX7_ran_26 (k1 g1)
  ·
    refine e_iload_n dX7_ran_5 rfl ?_
    refine e_iconst (u := 4) dX7_ran_6 (by decide) ?_
    refine e_icmp_le (tgt := 14) dX7_ran_7 rfl (fun g2 => ?_) (fun g2 => ?_)
    ·
      refine e_iconst (u := 0) dX7_ran_14 (by decide) ?_
      refine e_putI ff_7_9 rfl hS.l26 w844 dX7_ran_15 ?_
      refine e_aload_n dX7_ran_18 rfl ?_
      refine e_get ff_7_9 hS.l26 w844 dX7_ran_19 (w := aI 0) rfl ?_
      refine e_if_le (tgt := 27) dX7_ran_22 rfl (fun z => ?_) (fun z => ?_)
      ·
        refine e_iload_n dX7_ran_27 rfl ?_
        refine e_if_ne (tgt := 38) dX7_ran_28 rfl (fun g3 => ?_) (fun g3 => ?_)
        ·
          refine e_iload_n dX7_ran_38 rfl ?_
          refine e_iconst (u := 1) dX7_ran_39 (by decide) ?_
          refine e_icmp_ne (tgt := 50) dX7_ran_40 rfl (fun g4 => ?_) (fun g4 => ?_)
          ·
            refine e_iload_n dX7_ran_50 rfl ?_
            refine e_iconst (u := 2) dX7_ran_51 (by decide) ?_
            refine e_icmp_ne (tgt := 63) dX7_ran_52 rfl (fun g5 => ?_) (fun g5 => ?_)
            ·
              refine e_iload_n dX7_ran_63 rfl ?_
              refine e_iconst (u := 3) dX7_ran_64 (by decide) ?_
              refine e_icmp_ne (tgt := 76) dX7_ran_65 rfl (fun g6 => ?_) (fun g6 => ?_)
              ·
                refine e_aload_n dX7_ran_76 rfl ?_
                refine e_get ff_7_40 hS.l26 w875 dX7_ran_77 (w := aI (mI M 26 40)) rfl ?_
                refine e_i2l dX7_ran_80 ?_
                exact e_lret rfl dX7_ran_81 (k2 g1 g2 g3 g4 g5 g6)
              ·
                refine e_aload_n dX7_ran_68 rfl ?_
                refine e_get ff_7_39 hS.l26 w874 dX7_ran_69 (w := aI (mI M 26 39)) rfl ?_
                refine e_i2l dX7_ran_72 ?_
                refine e_goto (tgt := 81) dX7_ran_73 rfl ?_
                exact e_lret rfl dX7_ran_81 (k3 g1 g2 g3 g4 g5 g6)
            ·
              refine e_aload_n dX7_ran_55 rfl ?_
              refine e_get ff_7_36 hS.l26 w871 dX7_ran_56 (w := aI (mI M 26 36)) rfl ?_
              refine e_i2l dX7_ran_59 ?_
              refine e_goto (tgt := 81) dX7_ran_60 rfl ?_
              exact e_lret rfl dX7_ran_81 (k4 g1 g2 g3 g4 g5)
          ·
            refine e_aload_n dX7_ran_43 rfl ?_
            refine e_get ff_7_38 hS.l26 w873 dX7_ran_44 (w := aJ (mJ M 26 38)) rfl ?_
            refine e_goto (tgt := 81) dX7_ran_47 rfl ?_
            exact e_lret rfl dX7_ran_81 (k5 g1 g2 g3 g4)
        ·
          refine e_aload_n dX7_ran_31 rfl ?_
          refine e_get ff_7_37 hS.l26 w872 dX7_ran_32 (w := aJ (mJ M 26 37)) rfl ?_
          refine e_goto (tgt := 81) dX7_ran_35 rfl ?_
          exact e_lret rfl dX7_ran_81 (k6 g1 g2 g3)
      · exact absurd z (by decide)
    ·
      refine e_iconst (u := 1) dX7_ran_10 (by decide) ?_
      refine e_goto (tgt := 15) dX7_ran_11 rfl ?_
      refine e_putI ff_7_9 rfl hS.l26 w844 dX7_ran_15 ?_
      refine e_aload_n dX7_ran_18 rfl ?_
      refine e_get ff_7_9 hS.l26 w844 dX7_ran_19 (w := aI 1) rfl ?_
      refine e_if_le (tgt := 27) dX7_ran_22 rfl (fun z => ?_) (fun z => ?_)
      · exact absurd z (by decide)
      ·
        refine e_lconst (u := 0) dX7_ran_25 (by decide) ?_
        exact e_lret rfl dX7_ran_26 (k7 g1 g2)

set_option maxRecDepth 20000 in
theorem s_X7_about_0 {M M' : AM} {v : Option AV} {x1 : Int32} {x2 : Int32} {M1 : AM} {x101 : Int32} (hS : St M)
    (c1 : Ev K_X7_noMethod [aR (some 26), aI x1] M (some (aI x101)) M1)
    (k2 : ∀ (g2 : ¬ x101 = 0), some (aI 0) = v ∧ (wrI M1 26 9 1) = M')
    (k3 : ∀ (g2 : x101 = 0) (g3 : x2 < 0), some (aI 0) = v ∧ (wrI M1 26 9 1) = M')
    (b4 : ∀ (g2 : x101 = 0) (g3 : ¬ (x2 < 0)) (g4 : x2 ≤ 3) (g5 : ¬ x2 = 0) (g6 : ¬ x2 = 1) (g7 : ¬ x2 = 2), vp_in x1 32)
    (k5 : ∀ (g2 : x101 = 0) (g3 : ¬ (x2 < 0)) (g4 : x2 ≤ 3) (g5 : ¬ x2 = 0) (g6 : ¬ x2 = 1) (g7 : ¬ x2 = 2), some (aI (mI M1 30 x1.toNatClampNeg)) = v ∧ (wrI M1 26 9 0) = M')
    (b6 : ∀ (g2 : x101 = 0) (g3 : ¬ (x2 < 0)) (g4 : x2 ≤ 3) (g5 : ¬ x2 = 0) (g6 : ¬ x2 = 1) (g7 : x2 = 2), vp_in x1 32)
    (k7 : ∀ (g2 : x101 = 0) (g3 : ¬ (x2 < 0)) (g4 : x2 ≤ 3) (g5 : ¬ x2 = 0) (g6 : ¬ x2 = 1) (g7 : x2 = 2), some (aI (mI M1 29 x1.toNatClampNeg)) = v ∧ (wrI M1 26 9 0) = M')
    (b8 : ∀ (g2 : x101 = 0) (g3 : ¬ (x2 < 0)) (g4 : x2 ≤ 3) (g5 : ¬ x2 = 0) (g6 : x2 = 1), vp_in x1 32)
    (k9 : ∀ (g2 : x101 = 0) (g3 : ¬ (x2 < 0)) (g4 : x2 ≤ 3) (g5 : ¬ x2 = 0) (g6 : x2 = 1), some (aI (mI M1 28 x1.toNatClampNeg)) = v ∧ (wrI M1 26 9 0) = M')
    (b10 : ∀ (g2 : x101 = 0) (g3 : ¬ (x2 < 0)) (g4 : x2 ≤ 3) (g5 : x2 = 0), vp_in x1 32)
    (k11 : ∀ (g2 : x101 = 0) (g3 : ¬ (x2 < 0)) (g4 : x2 ≤ 3) (g5 : x2 = 0), some (aI (mI M1 27 x1.toNatClampNeg)) = v ∧ (wrI M1 26 9 0) = M')
    (k12 : ∀ (g2 : x101 = 0) (g3 : ¬ (x2 < 0)) (g4 : ¬ (x2 ≤ 3)), some (aI 0) = v ∧ (wrI M1 26 9 1) = M') :
    Ev K_X7_about [aR (some 26), aI x1, aI x2] M v M' := by
  refine ⟨Nat.le_of_ble_eq_true rfl, ?_⟩
  show E K_X7_about 0 [some (aR (some 26)), some (aI x1), some (aI x2)] [] M v M'
  refine e_aload_n dX7_about_0 rfl ?_
  refine e_aload_n dX7_about_1 rfl ?_
  refine e_iload_n dX7_about_2 rfl ?_
  refine e_callV (As := [aI x1]) (rest := [aR (some 26)]) vk_X7_noMethod hS.l26 w972 ⟨by decide, by decide⟩ (Nat.le_of_ble_eq_true rfl) dX7_about_3 c1 ?_
  show E K_X7_about 6 [some (aR (some 26)), some (aI x1), some (aI x2)] [aI x101, aR (some 26)] M1 v M'
  have hS_1 : St M1 := St.sh (M := M) c1.2.1 hS
  refine e_if_ne (tgt := 18) dX7_about_6 rfl (fun g2 => ?_) (fun g2 => ?_)
  ·
    refine e_iconst (u := 1) dX7_about_18 (by decide) ?_
    refine e_goto (tgt := 23) dX7_about_19 rfl ?_
    refine e_putI ff_7_9 rfl hS_1.l26 w844 dX7_about_23 ?_
    refine e_aload_n dX7_about_26 rfl ?_
    refine e_get ff_7_9 hS_1.l26 w844 dX7_about_27 (w := aI 1) rfl ?_
    refine e_if_le (tgt := 35) dX7_about_30 rfl (fun z => ?_) (fun z => ?_)
    · exact absurd z (by decide)
    ·
      refine e_iconst (u := 0) dX7_about_33 (by decide) ?_
      exact e_iret rfl dX7_about_34 (k2 g2)
  ·
    refine e_iload_n dX7_about_9 rfl ?_
    refine e_if_lt (tgt := 18) dX7_about_10 rfl (fun g3 => ?_) (fun g3 => ?_)
    ·
      refine e_iconst (u := 1) dX7_about_18 (by decide) ?_
      refine e_goto (tgt := 23) dX7_about_19 rfl ?_
      refine e_putI ff_7_9 rfl hS_1.l26 w844 dX7_about_23 ?_
      refine e_aload_n dX7_about_26 rfl ?_
      refine e_get ff_7_9 hS_1.l26 w844 dX7_about_27 (w := aI 1) rfl ?_
      refine e_if_le (tgt := 35) dX7_about_30 rfl (fun z => ?_) (fun z => ?_)
      · exact absurd z (by decide)
      ·
        refine e_iconst (u := 0) dX7_about_33 (by decide) ?_
        exact e_iret rfl dX7_about_34 (k3 g2 g3)
    ·
      refine e_iload_n dX7_about_13 rfl ?_
      refine e_iconst (u := 3) dX7_about_14 (by decide) ?_
      refine e_icmp_le (tgt := 22) dX7_about_15 rfl (fun g4 => ?_) (fun g4 => ?_)
      ·
        refine e_iconst (u := 0) dX7_about_22 (by decide) ?_
        refine e_putI ff_7_9 rfl hS_1.l26 w844 dX7_about_23 ?_
        refine e_aload_n dX7_about_26 rfl ?_
        refine e_get ff_7_9 hS_1.l26 w844 dX7_about_27 (w := aI 0) rfl ?_
        refine e_if_le (tgt := 35) dX7_about_30 rfl (fun z => ?_) (fun z => ?_)
        ·
          refine e_iload_n dX7_about_35 rfl ?_
          refine e_if_ne (tgt := 48) dX7_about_36 rfl (fun g5 => ?_) (fun g5 => ?_)
          ·
            refine e_iload_n dX7_about_48 rfl ?_
            refine e_iconst (u := 1) dX7_about_49 (by decide) ?_
            refine e_icmp_ne (tgt := 62) dX7_about_50 rfl (fun g6 => ?_) (fun g6 => ?_)
            ·
              refine e_iload_n dX7_about_62 rfl ?_
              refine e_iconst (u := 2) dX7_about_63 (by decide) ?_
              refine e_icmp_ne (tgt := 76) dX7_about_64 rfl (fun g7 => ?_) (fun g7 => ?_)
              ·
                refine e_aload_n dX7_about_76 rfl ?_
                refine e_get ff_7_3 hS_1.l26 w838 dX7_about_77 (w := aR (some 30)) hS_1.f26_3 ?_
                refine e_iload_n dX7_about_80 rfl ?_
                refine e_iald hS_1.l30 (hS_1.b30 (b4 g2 g3 g4 g5 g6 g7)) dX7_about_81 ?_
                show E K_X7_about 82 [some (aR (some 26)), some (aI x1), some (aI x2)] [aI (mI M1 30 x1.toNatClampNeg)] (wrI M1 26 9 0) v M'
                exact e_iret rfl dX7_about_82 (k5 g2 g3 g4 g5 g6 g7)
              ·
                refine e_aload_n dX7_about_67 rfl ?_
                refine e_get ff_7_2 hS_1.l26 w837 dX7_about_68 (w := aR (some 29)) hS_1.f26_2 ?_
                refine e_iload_n dX7_about_71 rfl ?_
                refine e_iald hS_1.l29 (hS_1.b29 (b6 g2 g3 g4 g5 g6 g7)) dX7_about_72 ?_
                show E K_X7_about 73 [some (aR (some 26)), some (aI x1), some (aI x2)] [aI (mI M1 29 x1.toNatClampNeg)] (wrI M1 26 9 0) v M'
                refine e_goto (tgt := 82) dX7_about_73 rfl ?_
                exact e_iret rfl dX7_about_82 (k7 g2 g3 g4 g5 g6 g7)
            ·
              refine e_aload_n dX7_about_53 rfl ?_
              refine e_get ff_7_1 hS_1.l26 w836 dX7_about_54 (w := aR (some 28)) hS_1.f26_1 ?_
              refine e_iload_n dX7_about_57 rfl ?_
              refine e_iald hS_1.l28 (hS_1.b28 (b8 g2 g3 g4 g5 g6)) dX7_about_58 ?_
              show E K_X7_about 59 [some (aR (some 26)), some (aI x1), some (aI x2)] [aI (mI M1 28 x1.toNatClampNeg)] (wrI M1 26 9 0) v M'
              refine e_goto (tgt := 82) dX7_about_59 rfl ?_
              exact e_iret rfl dX7_about_82 (k9 g2 g3 g4 g5 g6)
          ·
            refine e_aload_n dX7_about_39 rfl ?_
            refine e_get ff_7_0 hS_1.l26 w835 dX7_about_40 (w := aR (some 27)) hS_1.f26_0 ?_
            refine e_iload_n dX7_about_43 rfl ?_
            refine e_iald hS_1.l27 (hS_1.b27 (b10 g2 g3 g4 g5)) dX7_about_44 ?_
            show E K_X7_about 45 [some (aR (some 26)), some (aI x1), some (aI x2)] [aI (mI M1 27 x1.toNatClampNeg)] (wrI M1 26 9 0) v M'
            refine e_goto (tgt := 82) dX7_about_45 rfl ?_
            exact e_iret rfl dX7_about_82 (k11 g2 g3 g4 g5)
        · exact absurd z (by decide)
      ·
        refine e_iconst (u := 1) dX7_about_18 (by decide) ?_
        refine e_goto (tgt := 23) dX7_about_19 rfl ?_
        refine e_putI ff_7_9 rfl hS_1.l26 w844 dX7_about_23 ?_
        refine e_aload_n dX7_about_26 rfl ?_
        refine e_get ff_7_9 hS_1.l26 w844 dX7_about_27 (w := aI 1) rfl ?_
        refine e_if_le (tgt := 35) dX7_about_30 rfl (fun z => ?_) (fun z => ?_)
        · exact absurd z (by decide)
        ·
          refine e_iconst (u := 0) dX7_about_33 (by decide) ?_
          exact e_iret rfl dX7_about_34 (k12 g2 g3 g4)
