set_option maxRecDepth 20000 in
theorem s_X0_analyseFrom_0 {M M' : AM} {v : Option AV} {x1 : Int32} {M1 : AM} {M2 : AM} {x101 : Int32} {M3 : AM} {x102 : Int32} {M4 : AM} {x106 : Int32} {M5 : AM} {x108 : Int32} {M6 : AM} {x113 : Int32} (hS : St M)
    (c1 : Ev K_X0_followCalls [aR (some 11)] M (none) M1)
    (b2 : vp_in x1 32)
    (c3 : Ev K_X0_bit [aI x1] M1 (some (aI x101)) M2)
    (c4 : Ev K_X0_faultyOnes [aR (some 11)] (wrI M2 11 3 ((mI M1 17 x1.toNatClampNeg) ||| x101)) (some (aI x102)) M3)
    (k5 : ∀ (g3 : ¬ (x102 &&& (mI M3 11 3)) = 0) (g4 : ¬ (x102 &&& (mI M3 11 3)) = 0) (g5 : (x102 &&& (mI M3 11 3)) = 0), some (aI 2) = v ∧ (wrI (wrI (wrI M3 11 4 (x102 &&& (mI M3 11 3))) 11 5 0) 11 6 0) = M')
    (k6 : ∀ (g3 : ¬ (x102 &&& (mI M3 11 3)) = 0) (g4 : ¬ (x102 &&& (mI M3 11 3)) = 0) (g5 : ¬ (x102 &&& (mI M3 11 3)) = 0), some (aI 1) = v ∧ (wrI (wrI (wrI M3 11 4 (x102 &&& (mI M3 11 3))) 11 5 0) 11 6 0) = M')
    (c7 : ∀ (g3 : ¬ (x102 &&& (mI M3 11 3)) = 0) (g4 : (x102 &&& (mI M3 11 3)) = 0), Ev K_X0_countBounds [aR (some 11)] (wrI (wrI (wrI M3 11 4 (x102 &&& (mI M3 11 3))) 11 5 0) 11 6 1) (some (aI x106)) M4)
    (k8 : ∀ (g3 : ¬ (x102 &&& (mI M3 11 3)) = 0) (g4 : (x102 &&& (mI M3 11 3)) = 0) (g7 : x106 = 0), some (aI 3) = v ∧ M4 = M')
    (k9 : ∀ (g3 : ¬ (x102 &&& (mI M3 11 3)) = 0) (g4 : (x102 &&& (mI M3 11 3)) = 0) (g7 : ¬ x106 = 0), some (aI 0) = v ∧ M4 = M')
    (c10 : ∀ (g3 : (x102 &&& (mI M3 11 3)) = 0), Ev K_X0_circularOnes [aR (some 11)] (wrI M3 11 4 (x102 &&& (mI M3 11 3))) (some (aI x108)) M5)
    (k11 : ∀ (g3 : (x102 &&& (mI M3 11 3)) = 0) (g9 : ¬ (mI M5 11 4) = 0) (g10 : (mI M5 11 4) = 0), some (aI 2) = v ∧ (wrI (wrI M5 11 5 (x108 &&& (mI M5 11 3))) 11 6 0) = M')
    (k12 : ∀ (g3 : (x102 &&& (mI M3 11 3)) = 0) (g9 : ¬ (mI M5 11 4) = 0) (g10 : ¬ (mI M5 11 4) = 0), some (aI 1) = v ∧ (wrI (wrI M5 11 5 (x108 &&& (mI M5 11 3))) 11 6 0) = M')
    (k13 : ∀ (g3 : (x102 &&& (mI M3 11 3)) = 0) (g9 : (mI M5 11 4) = 0) (g11 : ¬ (x108 &&& (mI M5 11 3)) = 0) (g12 : (mI M5 11 4) = 0), some (aI 2) = v ∧ (wrI (wrI M5 11 5 (x108 &&& (mI M5 11 3))) 11 6 0) = M')
    (k14 : ∀ (g3 : (x102 &&& (mI M3 11 3)) = 0) (g9 : (mI M5 11 4) = 0) (g11 : ¬ (x108 &&& (mI M5 11 3)) = 0) (g12 : ¬ (mI M5 11 4) = 0), some (aI 1) = v ∧ (wrI (wrI M5 11 5 (x108 &&& (mI M5 11 3))) 11 6 0) = M')
    (c15 : ∀ (g3 : (x102 &&& (mI M3 11 3)) = 0) (g9 : (mI M5 11 4) = 0) (g11 : (x108 &&& (mI M5 11 3)) = 0), Ev K_X0_countBounds [aR (some 11)] (wrI (wrI M5 11 5 (x108 &&& (mI M5 11 3))) 11 6 1) (some (aI x113)) M6)
    (k16 : ∀ (g3 : (x102 &&& (mI M3 11 3)) = 0) (g9 : (mI M5 11 4) = 0) (g11 : (x108 &&& (mI M5 11 3)) = 0) (g14 : x113 = 0), some (aI 3) = v ∧ M6 = M')
    (k17 : ∀ (g3 : (x102 &&& (mI M3 11 3)) = 0) (g9 : (mI M5 11 4) = 0) (g11 : (x108 &&& (mI M5 11 3)) = 0) (g14 : ¬ x113 = 0), some (aI 0) = v ∧ M6 = M') :
    Ev K_X0_analyseFrom [aR (some 11), aI x1] M v M' := by
  refine ⟨Nat.le_of_ble_eq_true rfl, ?_⟩
  show E K_X0_analyseFrom 0 [some (aR (some 11)), some (aI x1)] [] M v M'
  refine e_aload_n dX0_analyseFrom_0 rfl ?_
  refine e_callV (As := []) (rest := []) vk_X0_followCalls hS.l11 w592 ⟨by decide, by decide⟩ (Nat.le_of_ble_eq_true rfl) dX0_analyseFrom_1 c1 ?_
  show E K_X0_analyseFrom 4 [some (aR (some 11)), some (aI x1)] [] M1 v M'
  have hS_1 : St M1 := St.sh (M := M) c1.2.1 hS
  refine e_aload_n dX0_analyseFrom_4 rfl ?_
  refine e_aload_n dX0_analyseFrom_5 rfl ?_
  refine e_get ff_0_2 hS_1.l11 w165 dX0_analyseFrom_6 (w := aR (some 17)) hS_1.f11_2 ?_
  refine e_iload_n dX0_analyseFrom_9 rfl ?_
  refine e_iald hS_1.l17 (hS_1.b17 b2) dX0_analyseFrom_10 ?_
  refine e_iload_n dX0_analyseFrom_11 rfl ?_
  refine e_callS (As := [aI x1]) (rest := [aI (mI M1 17 x1.toNatClampNeg), aR (some 11)]) sk_X0_bit w607 ⟨by decide, by decide⟩ (Nat.le_of_ble_eq_true rfl) dX0_analyseFrom_12 c3 ?_
  show E K_X0_analyseFrom 15 [some (aR (some 11)), some (aI x1)] [aI x101, aI (mI M1 17 x1.toNatClampNeg), aR (some 11)] M2 v M'
  have hS_2 : St M2 := St.sh (M := M1) c3.2.1 hS_1
  refine e_ior dX0_analyseFrom_15 ?_
  refine e_putI ff_0_3 rfl hS_2.l11 w166 dX0_analyseFrom_16 ?_
  refine e_aload_n dX0_analyseFrom_19 rfl ?_
  refine e_aload_n dX0_analyseFrom_20 rfl ?_
  refine e_callV (As := []) (rest := [aR (some 11)]) vk_X0_faultyOnes hS_2.l11 w613 ⟨by decide, by decide⟩ (Nat.le_of_ble_eq_true rfl) dX0_analyseFrom_21 c4 ?_
  show E K_X0_analyseFrom 24 [some (aR (some 11)), some (aI x1)] [aI x102, aR (some 11)] M3 v M'
  have hS_3 : St M3 := St.sh (M := (wrI M2 11 3 ((mI M1 17 x1.toNatClampNeg) ||| x101))) c4.2.1 hS_2
  refine e_aload_n dX0_analyseFrom_24 rfl ?_
  refine e_get ff_0_3 hS_3.l11 w166 dX0_analyseFrom_25 (w := aI (mI M3 11 3)) rfl ?_
  refine e_iand dX0_analyseFrom_28 ?_
  refine e_putI ff_0_4 rfl hS_3.l11 w167 dX0_analyseFrom_29 ?_
  refine e_aload_n dX0_analyseFrom_32 rfl ?_
  refine e_aload_n dX0_analyseFrom_33 rfl ?_
  refine e_get ff_0_4 hS_3.l11 w167 dX0_analyseFrom_34 (w := aI (x102 &&& (mI M3 11 3))) rfl ?_
  refine e_if_ne (tgt := 52) dX0_analyseFrom_37 rfl (fun g3 => ?_) (fun g3 => ?_)
  ·
    refine e_iconst (u := 0) dX0_analyseFrom_52 (by decide) ?_
    refine e_putI ff_0_5 rfl hS_3.l11 w168 dX0_analyseFrom_53 ?_
    refine e_aload_n dX0_analyseFrom_56 rfl ?_
    refine e_aload_n dX0_analyseFrom_57 rfl ?_
    refine e_get ff_0_4 hS_3.l11 w167 dX0_analyseFrom_58 (w := aI (x102 &&& (mI M3 11 3))) rfl ?_
    refine e_if_ne (tgt := 75) dX0_analyseFrom_61 rfl (fun g4 => ?_) (fun g4 => ?_)
    ·
      refine e_iconst (u := 0) dX0_analyseFrom_75 (by decide) ?_
      refine e_putZ ff_0_6 rfl (Or.inl rfl) hS_3.l11 w169 dX0_analyseFrom_76 ?_
      refine e_aload_n dX0_analyseFrom_79 rfl ?_
      refine e_get ff_0_6 hS_3.l11 w169 dX0_analyseFrom_80 (w := aI 0) rfl ?_
      refine e_if_eq (tgt := 99) dX0_analyseFrom_83 rfl (fun z => ?_) (fun z => ?_)
      ·
        refine e_aload_n dX0_analyseFrom_99 rfl ?_
        refine e_get ff_0_4 hS_3.l11 w167 dX0_analyseFrom_100 (w := aI (x102 &&& (mI M3 11 3))) rfl ?_
        refine e_if_eq (tgt := 110) dX0_analyseFrom_103 rfl (fun g5 => ?_) (fun g5 => ?_)
        ·
          refine e_iconst (u := 2) dX0_analyseFrom_110 (by decide) ?_
          exact e_iret rfl dX0_analyseFrom_111 (k5 g3 g4 g5)
        ·
          refine e_iconst (u := 1) dX0_analyseFrom_106 (by decide) ?_
          refine e_goto (tgt := 111) dX0_analyseFrom_107 rfl ?_
          exact e_iret rfl dX0_analyseFrom_111 (k6 g3 g4 g5)
      · exact absurd z (by decide)
    ·
      refine e_aload_n dX0_analyseFrom_64 rfl ?_
      refine e_get ff_0_5 hS_3.l11 w168 dX0_analyseFrom_65 (w := aI 0) rfl ?_
      refine e_if_ne (tgt := 75) dX0_analyseFrom_68 rfl (fun z => ?_) (fun z => ?_)
      · exact absurd z (by decide)
      ·
        refine e_iconst (u := 1) dX0_analyseFrom_71 (by decide) ?_
        refine e_goto (tgt := 76) dX0_analyseFrom_72 rfl ?_
        refine e_putZ ff_0_6 rfl (Or.inr rfl) hS_3.l11 w169 dX0_analyseFrom_76 ?_
        refine e_aload_n dX0_analyseFrom_79 rfl ?_
        refine e_get ff_0_6 hS_3.l11 w169 dX0_analyseFrom_80 (w := aI 1) rfl ?_
        refine e_if_eq (tgt := 99) dX0_analyseFrom_83 rfl (fun z => ?_) (fun z => ?_)
        · exact absurd z (by decide)
        ·
          refine e_aload_n dX0_analyseFrom_86 rfl ?_
          refine e_callV (As := []) (rest := []) vk_X0_countBounds hS_3.l11 w621 ⟨by decide, by decide⟩ (Nat.le_of_ble_eq_true rfl) dX0_analyseFrom_87 (c7 g3 g4) ?_
          show E K_X0_analyseFrom 90 [some (aR (some 11)), some (aI x1)] [aI x106] M4 v M'
          have hS_4 : St M4 := St.sh (M := (wrI (wrI (wrI M3 11 4 (x102 &&& (mI M3 11 3))) 11 5 0) 11 6 1)) (c7 g3 g4).2.1 hS_3
          refine e_if_eq (tgt := 97) dX0_analyseFrom_90 rfl (fun g7 => ?_) (fun g7 => ?_)
          ·
            refine e_iconst (u := 3) dX0_analyseFrom_97 (by decide) ?_
            exact e_iret rfl dX0_analyseFrom_98 (k8 g3 g4 g7)
          ·
            refine e_iconst (u := 0) dX0_analyseFrom_93 (by decide) ?_
            refine e_goto (tgt := 98) dX0_analyseFrom_94 rfl ?_
            exact e_iret rfl dX0_analyseFrom_98 (k9 g3 g4 g7)
  ·
    refine e_aload_n dX0_analyseFrom_40 rfl ?_
    refine e_callV (As := []) (rest := [aR (some 11)]) vk_X0_circularOnes hS_3.l11 w617 ⟨by decide, by decide⟩ (Nat.le_of_ble_eq_true rfl) dX0_analyseFrom_41 (c10 g3) ?_
    show E K_X0_analyseFrom 44 [some (aR (some 11)), some (aI x1)] [aI x108, aR (some 11)] M5 v M'
    have hS_5 : St M5 := St.sh (M := (wrI M3 11 4 (x102 &&& (mI M3 11 3)))) (c10 g3).2.1 hS_3
    refine e_aload_n dX0_analyseFrom_44 rfl ?_
    refine e_get ff_0_3 hS_5.l11 w166 dX0_analyseFrom_45 (w := aI (mI M5 11 3)) rfl ?_
    refine e_iand dX0_analyseFrom_48 ?_
    refine e_goto (tgt := 53) dX0_analyseFrom_49 rfl ?_
    refine e_putI ff_0_5 rfl hS_5.l11 w168 dX0_analyseFrom_53 ?_
    refine e_aload_n dX0_analyseFrom_56 rfl ?_
    refine e_aload_n dX0_analyseFrom_57 rfl ?_
    refine e_get ff_0_4 hS_5.l11 w167 dX0_analyseFrom_58 (w := aI (mI M5 11 4)) rfl ?_
    refine e_if_ne (tgt := 75) dX0_analyseFrom_61 rfl (fun g9 => ?_) (fun g9 => ?_)
    ·
      refine e_iconst (u := 0) dX0_analyseFrom_75 (by decide) ?_
      refine e_putZ ff_0_6 rfl (Or.inl rfl) hS_5.l11 w169 dX0_analyseFrom_76 ?_
      refine e_aload_n dX0_analyseFrom_79 rfl ?_
      refine e_get ff_0_6 hS_5.l11 w169 dX0_analyseFrom_80 (w := aI 0) rfl ?_
      refine e_if_eq (tgt := 99) dX0_analyseFrom_83 rfl (fun z => ?_) (fun z => ?_)
      ·
        refine e_aload_n dX0_analyseFrom_99 rfl ?_
        refine e_get ff_0_4 hS_5.l11 w167 dX0_analyseFrom_100 (w := aI (mI M5 11 4)) rfl ?_
        refine e_if_eq (tgt := 110) dX0_analyseFrom_103 rfl (fun g10 => ?_) (fun g10 => ?_)
        ·
          refine e_iconst (u := 2) dX0_analyseFrom_110 (by decide) ?_
          exact e_iret rfl dX0_analyseFrom_111 (k11 g3 g9 g10)
        ·
          refine e_iconst (u := 1) dX0_analyseFrom_106 (by decide) ?_
          refine e_goto (tgt := 111) dX0_analyseFrom_107 rfl ?_
          exact e_iret rfl dX0_analyseFrom_111 (k12 g3 g9 g10)
      · exact absurd z (by decide)
    ·
      refine e_aload_n dX0_analyseFrom_64 rfl ?_
      refine e_get ff_0_5 hS_5.l11 w168 dX0_analyseFrom_65 (w := aI (x108 &&& (mI M5 11 3))) rfl ?_
      refine e_if_ne (tgt := 75) dX0_analyseFrom_68 rfl (fun g11 => ?_) (fun g11 => ?_)
      ·
        refine e_iconst (u := 0) dX0_analyseFrom_75 (by decide) ?_
        refine e_putZ ff_0_6 rfl (Or.inl rfl) hS_5.l11 w169 dX0_analyseFrom_76 ?_
        refine e_aload_n dX0_analyseFrom_79 rfl ?_
        refine e_get ff_0_6 hS_5.l11 w169 dX0_analyseFrom_80 (w := aI 0) rfl ?_
        refine e_if_eq (tgt := 99) dX0_analyseFrom_83 rfl (fun z => ?_) (fun z => ?_)
        ·
          refine e_aload_n dX0_analyseFrom_99 rfl ?_
          refine e_get ff_0_4 hS_5.l11 w167 dX0_analyseFrom_100 (w := aI (mI M5 11 4)) rfl ?_
          refine e_if_eq (tgt := 110) dX0_analyseFrom_103 rfl (fun g12 => ?_) (fun g12 => ?_)
          ·
            refine e_iconst (u := 2) dX0_analyseFrom_110 (by decide) ?_
            exact e_iret rfl dX0_analyseFrom_111 (k13 g3 g9 g11 g12)
          ·
            refine e_iconst (u := 1) dX0_analyseFrom_106 (by decide) ?_
            refine e_goto (tgt := 111) dX0_analyseFrom_107 rfl ?_
            exact e_iret rfl dX0_analyseFrom_111 (k14 g3 g9 g11 g12)
        · exact absurd z (by decide)
      ·
        refine e_iconst (u := 1) dX0_analyseFrom_71 (by decide) ?_
        refine e_goto (tgt := 76) dX0_analyseFrom_72 rfl ?_
        refine e_putZ ff_0_6 rfl (Or.inr rfl) hS_5.l11 w169 dX0_analyseFrom_76 ?_
        refine e_aload_n dX0_analyseFrom_79 rfl ?_
        refine e_get ff_0_6 hS_5.l11 w169 dX0_analyseFrom_80 (w := aI 1) rfl ?_
        refine e_if_eq (tgt := 99) dX0_analyseFrom_83 rfl (fun z => ?_) (fun z => ?_)
        · exact absurd z (by decide)
        ·
          refine e_aload_n dX0_analyseFrom_86 rfl ?_
          refine e_callV (As := []) (rest := []) vk_X0_countBounds hS_5.l11 w621 ⟨by decide, by decide⟩ (Nat.le_of_ble_eq_true rfl) dX0_analyseFrom_87 (c15 g3 g9 g11) ?_
          show E K_X0_analyseFrom 90 [some (aR (some 11)), some (aI x1)] [aI x113] M6 v M'
          have hS_6 : St M6 := St.sh (M := (wrI (wrI M5 11 5 (x108 &&& (mI M5 11 3))) 11 6 1)) (c15 g3 g9 g11).2.1 hS_5
          refine e_if_eq (tgt := 97) dX0_analyseFrom_90 rfl (fun g14 => ?_) (fun g14 => ?_)
          ·
            refine e_iconst (u := 3) dX0_analyseFrom_97 (by decide) ?_
            exact e_iret rfl dX0_analyseFrom_98 (k16 g3 g9 g11 g14)
          ·
            refine e_iconst (u := 0) dX0_analyseFrom_93 (by decide) ?_
            refine e_goto (tgt := 98) dX0_analyseFrom_94 rfl ?_
            exact e_iret rfl dX0_analyseFrom_98 (k17 g3 g9 g11 g14)

set_option maxRecDepth 20000 in
theorem s_X0_answer_0 {M M' : AM} {v : Option AV} {x1 : Int32} {x2 : Int32} (hS : St M)
    (k1 : ∀ (g1 : x2 = 0), some (aI ((((mI M 11 3).toUInt32 >>> ((x1 : Int32).toUInt32 &&& Int32.toUInt32 31)).toInt32) &&& 1)) = v ∧ M = M')
    (k2 : ∀ (g1 : ¬ (x2 = 0)) (g2 : x2 = 1), some (aI ((((mI M 11 4).toUInt32 >>> ((x1 : Int32).toUInt32 &&& Int32.toUInt32 31)).toInt32) &&& 1)) = v ∧ M = M')
    (k3 : ∀ (g1 : ¬ (x2 = 0)) (g2 : ¬ (x2 = 1)), some (aI ((((mI M 11 5).toUInt32 >>> ((x1 : Int32).toUInt32 &&& Int32.toUInt32 31)).toInt32) &&& 1)) = v ∧ M = M') :
    Ev K_X0_answer [aR (some 11), aI x1, aI x2] M v M' := by
  refine ⟨Nat.le_of_ble_eq_true rfl, ?_⟩
  show E K_X0_answer 0 [some (aR (some 11)), some (aI x1), some (aI x2)] [] M v M'
  refine e_iload_n dX0_answer_0 rfl ?_
  refine e_lsw (d := 46) (qs := [(0, 28), (1, 37)]) dX0_answer_1 rfl rfl rfl ?_
  by_cases g1 : x2 = 0
  · have e9 : lsw [(0, 28), (1, 37)] 46 x2 = 28 := by rw [g1]; rfl
    rw [e9]
    refine e_aload_n dX0_answer_28 rfl ?_
    refine e_get ff_0_3 hS.l11 w166 dX0_answer_29 (w := aI (mI M 11 3)) rfl ?_
    refine e_iload_n dX0_answer_32 rfl ?_
    refine e_iushr dX0_answer_33 ?_
    refine e_iconst (u := 1) dX0_answer_34 (by decide) ?_
    refine e_iand dX0_answer_35 ?_
    exact e_iret rfl dX0_answer_36 (k1 g1)
  by_cases g2 : x2 = 1
  · have e9 : lsw [(0, 28), (1, 37)] 46 x2 = 37 := by rw [g2]; rfl
    rw [e9]
    refine e_aload_n dX0_answer_37 rfl ?_
    refine e_get ff_0_4 hS.l11 w167 dX0_answer_38 (w := aI (mI M 11 4)) rfl ?_
    refine e_iload_n dX0_answer_41 rfl ?_
    refine e_iushr dX0_answer_42 ?_
    refine e_iconst (u := 1) dX0_answer_43 (by decide) ?_
    refine e_iand dX0_answer_44 ?_
    exact e_iret rfl dX0_answer_45 (k2 g1 g2)
  have e9 : lsw [(0, 28), (1, 37)] 46 x2 = 46 := lsw_out [0, 1] (by decide) (by
      simp only [List.mem_cons, List.not_mem_nil, or_false, forall_eq_or_imp, forall_eq]
      skip
      exact ⟨g1, g2⟩)
  rw [e9]
  refine e_aload_n dX0_answer_46 rfl ?_
  refine e_get ff_0_5 hS.l11 w168 dX0_answer_47 (w := aI (mI M 11 5)) rfl ?_
  refine e_iload_n dX0_answer_50 rfl ?_
  refine e_iushr dX0_answer_51 ?_
  refine e_iconst (u := 1) dX0_answer_52 (by decide) ?_
  refine e_iand dX0_answer_53 ?_
  exact e_iret rfl dX0_answer_54 (k3 g1 g2)

set_option maxRecDepth 20000 in
theorem s_X0_boundOf_0 {M M' : AM} {v : Option AV} {x1 : Int32} {x2 : Int32} {M1 : AM} {x102 : Int32} (hS : St M)
    (k1 : ∀ (g1 : (mI M 11 6) = 0), some (aJ (-1)) = v ∧ M = M')
    (c2 : ∀ (g1 : ¬ (mI M 11 6) = 0), Ev K_X0_isIn [aI x1, aI (mI M 11 3)] M (some (aI x102)) M1)
    (b3 : ∀ (g1 : ¬ (mI M 11 6) = 0) (g3 : ¬ x102 = 0) (g4 : ¬ x2 = 0), vp_in x1 32)
    (k4 : ∀ (g1 : ¬ (mI M 11 6) = 0) (g3 : ¬ x102 = 0) (g4 : ¬ x2 = 0) (g5 : ¬ ((mJ M1 14 x1.toNatClampNeg) = (-2))), some (aJ (mJ M1 14 x1.toNatClampNeg)) = v ∧ M1 = M')
    (k5 : ∀ (g1 : ¬ (mI M 11 6) = 0) (g3 : ¬ x102 = 0) (g4 : ¬ x2 = 0) (g5 : (mJ M1 14 x1.toNatClampNeg) = (-2)), some (aJ (-1)) = v ∧ M1 = M')
    (b6 : ∀ (g1 : ¬ (mI M 11 6) = 0) (g3 : ¬ x102 = 0) (g4 : x2 = 0), vp_in x1 32)
    (k7 : ∀ (g1 : ¬ (mI M 11 6) = 0) (g3 : ¬ x102 = 0) (g4 : x2 = 0) (g6 : ¬ ((mJ M1 13 x1.toNatClampNeg) = (-2))), some (aJ (mJ M1 13 x1.toNatClampNeg)) = v ∧ M1 = M')
    (k8 : ∀ (g1 : ¬ (mI M 11 6) = 0) (g3 : ¬ x102 = 0) (g4 : x2 = 0) (g6 : (mJ M1 13 x1.toNatClampNeg) = (-2)), some (aJ (-1)) = v ∧ M1 = M')
    (k9 : ∀ (g1 : ¬ (mI M 11 6) = 0) (g3 : x102 = 0), some (aJ (-1)) = v ∧ M1 = M') :
    Ev K_X0_boundOf [aR (some 11), aI x1, aI x2] M v M' := by
  refine ⟨Nat.le_of_ble_eq_true rfl, ?_⟩
  show E K_X0_boundOf 0 [some (aR (some 11)), some (aI x1), some (aI x2), none, none] [] M v M'
  refine e_aload_n dX0_boundOf_0 rfl ?_
  refine e_get ff_0_6 hS.l11 w169 dX0_boundOf_1 (w := aI (mI M 11 6)) rfl ?_
  refine e_if_eq (tgt := 18) dX0_boundOf_4 rfl (fun g1 => ?_) (fun g1 => ?_)
  ·
    refine e_ldc2 dX0_boundOf_18 w696 ?_
    exact e_lret rfl dX0_boundOf_21 (k1 g1)
  ·
    refine e_iload_n dX0_boundOf_7 rfl ?_
    refine e_aload_n dX0_boundOf_8 rfl ?_
    refine e_get ff_0_3 hS.l11 w166 dX0_boundOf_9 (w := aI (mI M 11 3)) rfl ?_
    refine e_callS (As := [aI x1, aI (mI M 11 3)]) (rest := []) sk_X0_isIn w610 ⟨by decide, by decide⟩ (Nat.le_of_ble_eq_true rfl) dX0_boundOf_12 (c2 g1) ?_
    show E K_X0_boundOf 15 [some (aR (some 11)), some (aI x1), some (aI x2), none, none] [aI x102] M1 v M'
    have hS_1 : St M1 := St.sh (M := M) (c2 g1).2.1 hS
    refine e_if_ne (tgt := 22) dX0_boundOf_15 rfl (fun g3 => ?_) (fun g3 => ?_)
    ·
      refine e_iload_n dX0_boundOf_22 rfl ?_
      refine e_if_ne (tgt := 38) dX0_boundOf_23 rfl (fun g4 => ?_) (fun g4 => ?_)
      ·
        refine e_aload_n dX0_boundOf_38 rfl ?_
        refine e_get ff_0_1 hS_1.l11 w164 dX0_boundOf_39 (w := aR (some 12)) hS_1.f11_1 ?_
        refine e_getN ff_1_2 hS_1.l12 w148 dX0_boundOf_42 (w := aR (some 14)) hS_1.f12_2 ?_
        refine e_iload_n dX0_boundOf_45 rfl ?_
        refine e_lald hS_1.l14 (hS_1.b14 (b3 g1 g3 g4)) dX0_boundOf_46 ?_
        refine e_lstore_n dX0_boundOf_47 (Nat.le_of_ble_eq_true rfl) ?_
        show E K_X0_boundOf 48 [some (aR (some 11)), some (aI x1), some (aI x2), some (aJ (mJ M1 14 x1.toNatClampNeg)), none] [] M1 v M'
        refine e_lload_n dX0_boundOf_48 rfl ?_
        refine e_ldc2 dX0_boundOf_49 w671 ?_
        refine e_lcmp_ne (tgt := 62) dX0_boundOf_52 dX0_boundOf_53 rfl (fun g5 => ?_) (fun g5 => ?_)
        ·
          refine e_lload_n dX0_boundOf_62 rfl ?_
          exact e_lret rfl dX0_boundOf_63 (k4 g1 g3 g4 g5)
        ·
          refine e_ldc2 dX0_boundOf_56 w696 ?_
          refine e_goto (tgt := 63) dX0_boundOf_59 rfl ?_
          exact e_lret rfl dX0_boundOf_63 (k5 g1 g3 g4 g5)
      ·
        refine e_aload_n dX0_boundOf_26 rfl ?_
        refine e_get ff_0_1 hS_1.l11 w164 dX0_boundOf_27 (w := aR (some 12)) hS_1.f11_1 ?_
        refine e_getN ff_1_1 hS_1.l12 w146 dX0_boundOf_30 (w := aR (some 13)) hS_1.f12_1 ?_
        refine e_iload_n dX0_boundOf_33 rfl ?_
        refine e_lald hS_1.l13 (hS_1.b13 (b6 g1 g3 g4)) dX0_boundOf_34 ?_
        refine e_goto (tgt := 47) dX0_boundOf_35 rfl ?_
        refine e_lstore_n dX0_boundOf_47 (Nat.le_of_ble_eq_true rfl) ?_
        show E K_X0_boundOf 48 [some (aR (some 11)), some (aI x1), some (aI x2), some (aJ (mJ M1 13 x1.toNatClampNeg)), none] [] M1 v M'
        refine e_lload_n dX0_boundOf_48 rfl ?_
        refine e_ldc2 dX0_boundOf_49 w671 ?_
        refine e_lcmp_ne (tgt := 62) dX0_boundOf_52 dX0_boundOf_53 rfl (fun g6 => ?_) (fun g6 => ?_)
        ·
          refine e_lload_n dX0_boundOf_62 rfl ?_
          exact e_lret rfl dX0_boundOf_63 (k7 g1 g3 g4 g6)
        ·
          refine e_ldc2 dX0_boundOf_56 w696 ?_
          refine e_goto (tgt := 63) dX0_boundOf_59 rfl ?_
          exact e_lret rfl dX0_boundOf_63 (k8 g1 g3 g4 g6)
    ·
      refine e_ldc2 dX0_boundOf_18 w696 ?_
      exact e_lret rfl dX0_boundOf_21 (k9 g1 g3)

set_option maxRecDepth 20000 in
theorem s_X0_followCalls_0 {M M' : AM} {v : Option AV} (hS : St M)
    (k1 : E K_X0_followCalls 2 [some (aR (some 11)), some (aI 0), none] [] M v M') :
    Ev K_X0_followCalls [aR (some 11)] M v M' := by
  refine ⟨Nat.le_of_ble_eq_true rfl, ?_⟩
  show E K_X0_followCalls 0 [some (aR (some 11)), none, none] [] M v M'
  refine e_iconst (u := 0) dX0_followCalls_0 (by decide) ?_
  refine e_istore_n dX0_followCalls_1 (Nat.le_of_ble_eq_true rfl) ?_
  show E K_X0_followCalls 2 [some (aR (some 11)), some (aI 0), none] [] M v M'
  exact k1

set_option maxRecDepth 20000 in
theorem s_X0_followCalls_2 {M M' : AM} {v : Option AV} {x1 : Int32} {M1 : AM} {o102 : Option Nat} {M2 : AM} {x103 : Int32} (hS : St M)
    (k1 : ∀ (g1 : (mI M 4 2) ≤ x1), E K_X0_followCalls 40 [some (aR (some 11)), some (aI 0), none] [] M v M')
    (c2 : ∀ (g1 : ¬ ((mI M 4 2) ≤ x1)), Ev K_X5_find [aR (some 4), aJ ((x1 : Int32).toInt64)] M (some (aR o102)) M1)
    (c3 : ∀ (g1 : ¬ ((mI M 4 2) ≤ x1)), Ev K_X0_callsOf [aR (some 11), aR o102] M1 (some (aI x103)) M2)
    (b4 : ∀ (g1 : ¬ ((mI M 4 2) ≤ x1)), vp_in x1 32)
    (k5 : ∀ (g1 : ¬ ((mI M 4 2) ≤ x1)), E K_X0_followCalls 2 [some (aR (some 11)), some (aI (x1 + 1)), none] [] (wrI M2 17 x1.toNatClampNeg x103) v M') :
    E K_X0_followCalls 2 [some (aR (some 11)), some (aI x1), none] [] M v M' := by
  refine e_iload_n dX0_followCalls_2 rfl ?_
  refine e_aload_n dX0_followCalls_3 rfl ?_
  refine e_get ff_0_0 hS.l11 w163 dX0_followCalls_4 (w := aR (some 4)) hS.f11_0 ?_
  refine e_getN ff_5_2 hS.l4 w104 dX0_followCalls_7 (w := aI (mI M 4 2)) rfl ?_
  refine e_icmp_ge (tgt := 38) dX0_followCalls_10 rfl (fun g1 => ?_) (fun g1 => ?_)
  ·
    refine e_iconst (u := 0) dX0_followCalls_38 (by decide) ?_
    refine e_istore_n dX0_followCalls_39 (Nat.le_of_ble_eq_true rfl) ?_
    show E K_X0_followCalls 40 [some (aR (some 11)), some (aI 0), none] [] M v M'
    exact (k1 g1)
  ·
    refine e_aload_n dX0_followCalls_13 rfl ?_
    refine e_get ff_0_2 hS.l11 w165 dX0_followCalls_14 (w := aR (some 17)) hS.f11_2 ?_
    refine e_iload_n dX0_followCalls_17 rfl ?_
    refine e_aload_n dX0_followCalls_18 rfl ?_
    refine e_aload_n dX0_followCalls_19 rfl ?_
    refine e_get ff_0_0 hS.l11 w163 dX0_followCalls_20 (w := aR (some 4)) hS.f11_0 ?_
    refine e_iload_n dX0_followCalls_23 rfl ?_
    refine e_i2l dX0_followCalls_24 ?_
    refine e_callV (As := [aJ ((x1 : Int32).toInt64)]) (rest := [aR (some 11), aI x1, aR (some 17)]) vk_X5_find hS.l4 w596 ⟨by decide, by decide⟩ (Nat.le_of_ble_eq_true rfl) dX0_followCalls_25 (c2 g1) ?_
    show E K_X0_followCalls 28 [some (aR (some 11)), some (aI x1), none] [aR o102, aR (some 11), aI x1, aR (some 17)] M1 v M'
    have hS_1 : St M1 := St.sh (M := M) (c2 g1).2.1 hS
    refine e_callV (As := [aR o102]) (rest := [aI x1, aR (some 17)]) vk_X0_callsOf hS_1.l11 w597 ⟨by decide, by decide⟩ (Nat.le_of_ble_eq_true rfl) dX0_followCalls_28 (c3 g1) ?_
    show E K_X0_followCalls 31 [some (aR (some 11)), some (aI x1), none] [aI x103, aI x1, aR (some 17)] M2 v M'
    have hS_2 : St M2 := St.sh (M := M1) (c3 g1).2.1 hS_1
    refine e_iast hS_2.l17 (hS_2.b17 (b4 g1)) dX0_followCalls_31 ?_
    refine e_iinc dX0_followCalls_32 rfl ?_
    show E K_X0_followCalls 35 [some (aR (some 11)), some (aI (x1 + 1)), none] [] (wrI M2 17 x1.toNatClampNeg x103) v M'
    refine e_goto (tgt := 2) dX0_followCalls_35 rfl ?_
    exact (k5 g1)

set_option maxRecDepth 20000 in
theorem s_X0_followCalls_40 {M M' : AM} {v : Option AV} {x1 : Int32} (hS : St M)
    (k1 : ∀ (g1 : (mI M 4 2) ≤ x1), none = v ∧ M = M')
    (k2 : ∀ (g1 : ¬ ((mI M 4 2) ≤ x1)), E K_X0_followCalls 53 [some (aR (some 11)), some (aI x1), some (aI 0)] [] M v M') :
    E K_X0_followCalls 40 [some (aR (some 11)), some (aI x1), none] [] M v M' := by
  refine e_iload_n dX0_followCalls_40 rfl ?_
  refine e_aload_n dX0_followCalls_41 rfl ?_
  refine e_get ff_0_0 hS.l11 w163 dX0_followCalls_42 (w := aR (some 4)) hS.f11_0 ?_
  refine e_getN ff_5_2 hS.l4 w104 dX0_followCalls_45 (w := aI (mI M 4 2)) rfl ?_
  refine e_icmp_ge (tgt := 104) dX0_followCalls_48 rfl (fun g1 => ?_) (fun g1 => ?_)
  ·
    exact e_vret rfl dX0_followCalls_104 (k1 g1)
  ·
    refine e_iconst (u := 0) dX0_followCalls_51 (by decide) ?_
    refine e_istore_n dX0_followCalls_52 (Nat.le_of_ble_eq_true rfl) ?_
    show E K_X0_followCalls 53 [some (aR (some 11)), some (aI x1), some (aI 0)] [] M v M'
    exact (k2 g1)

set_option maxRecDepth 20000 in
theorem s_X0_followCalls_53 {M M' : AM} {v : Option AV} {x1 : Int32} {x2 : Int32} {M1 : AM} {x102 : Int32} (hS : St M)
    (k1 : ∀ (g1 : (mI M 4 2) ≤ x2), E K_X0_followCalls 40 [some (aR (some 11)), some (aI (x1 + 1)), some (aI x2)] [] M v M')
    (b2 : ∀ (g1 : ¬ ((mI M 4 2) ≤ x2)), vp_in x2 32)
    (c3 : ∀ (g1 : ¬ ((mI M 4 2) ≤ x2)), Ev K_X0_isIn [aI x1, aI (mI M 17 x2.toNatClampNeg)] M (some (aI x102)) M1)
    (k4 : ∀ (g1 : ¬ ((mI M 4 2) ≤ x2)) (g3 : x102 = 0), E K_X0_followCalls 53 [some (aR (some 11)), some (aI x1), some (aI (x2 + 1))] [] M1 v M')
    (b5 : ∀ (g1 : ¬ ((mI M 4 2) ≤ x2)) (g3 : ¬ x102 = 0), vp_in x1 32)
    (k6 : ∀ (g1 : ¬ ((mI M 4 2) ≤ x2)) (g3 : ¬ x102 = 0), E K_X0_followCalls 53 [some (aR (some 11)), some (aI x1), some (aI (x2 + 1))] [] (wrI M1 17 x2.toNatClampNeg ((mI M1 17 x2.toNatClampNeg) ||| (mI M1 17 x1.toNatClampNeg))) v M') :
    E K_X0_followCalls 53 [some (aR (some 11)), some (aI x1), some (aI x2)] [] M v M' := by
  refine e_iload_n dX0_followCalls_53 rfl ?_
  refine e_aload_n dX0_followCalls_54 rfl ?_
  refine e_get ff_0_0 hS.l11 w163 dX0_followCalls_55 (w := aR (some 4)) hS.f11_0 ?_
  refine e_getN ff_5_2 hS.l4 w104 dX0_followCalls_58 (w := aI (mI M 4 2)) rfl ?_
  refine e_icmp_ge (tgt := 98) dX0_followCalls_61 rfl (fun g1 => ?_) (fun g1 => ?_)
  ·
    refine e_iinc dX0_followCalls_98 rfl ?_
    show E K_X0_followCalls 101 [some (aR (some 11)), some (aI (x1 + 1)), some (aI x2)] [] M v M'
    refine e_goto (tgt := 40) dX0_followCalls_101 rfl ?_
    exact (k1 g1)
  ·
    refine e_iload_n dX0_followCalls_64 rfl ?_
    refine e_aload_n dX0_followCalls_65 rfl ?_
    refine e_get ff_0_2 hS.l11 w165 dX0_followCalls_66 (w := aR (some 17)) hS.f11_2 ?_
    refine e_iload_n dX0_followCalls_69 rfl ?_
    refine e_iald hS.l17 (hS.b17 (b2 g1)) dX0_followCalls_70 ?_
    refine e_callS (As := [aI x1, aI (mI M 17 x2.toNatClampNeg)]) (rest := []) sk_X0_isIn w610 ⟨by decide, by decide⟩ (Nat.le_of_ble_eq_true rfl) dX0_followCalls_71 (c3 g1) ?_
    show E K_X0_followCalls 74 [some (aR (some 11)), some (aI x1), some (aI x2)] [aI x102] M1 v M'
    have hS_1 : St M1 := St.sh (M := M) (c3 g1).2.1 hS
    refine e_if_eq (tgt := 92) dX0_followCalls_74 rfl (fun g3 => ?_) (fun g3 => ?_)
    ·
      refine e_iinc dX0_followCalls_92 rfl ?_
      show E K_X0_followCalls 95 [some (aR (some 11)), some (aI x1), some (aI (x2 + 1))] [] M1 v M'
      refine e_goto (tgt := 53) dX0_followCalls_95 rfl ?_
      exact (k4 g1 g3)
    ·
      refine e_aload_n dX0_followCalls_77 rfl ?_
      refine e_get ff_0_2 hS_1.l11 w165 dX0_followCalls_78 (w := aR (some 17)) hS_1.f11_2 ?_
      refine e_iload_n dX0_followCalls_81 rfl ?_
      refine e_dup2RI dX0_followCalls_82 ?_
      refine e_iald hS_1.l17 (hS_1.b17 (b2 g1)) dX0_followCalls_83 ?_
      refine e_aload_n dX0_followCalls_84 rfl ?_
      refine e_get ff_0_2 hS_1.l11 w165 dX0_followCalls_85 (w := aR (some 17)) hS_1.f11_2 ?_
      refine e_iload_n dX0_followCalls_88 rfl ?_
      refine e_iald hS_1.l17 (hS_1.b17 (b5 g1 g3)) dX0_followCalls_89 ?_
      refine e_ior dX0_followCalls_90 ?_
      refine e_iast hS_1.l17 (hS_1.b17 (b2 g1)) dX0_followCalls_91 ?_
      refine e_iinc dX0_followCalls_92 rfl ?_
      show E K_X0_followCalls 95 [some (aR (some 11)), some (aI x1), some (aI (x2 + 1))] [] (wrI M1 17 x2.toNatClampNeg ((mI M1 17 x2.toNatClampNeg) ||| (mI M1 17 x1.toNatClampNeg))) v M'
      refine e_goto (tgt := 53) dX0_followCalls_95 rfl ?_
      exact (k6 g1 g3)

set_option maxRecDepth 20000 in
theorem s_X0_callsOf_0 {M M' : AM} {v : Option AV} {m1 : Nat} {M1 : AM} {x101 : Int32} (hS : St M) (h_m1 : Mt M m1)
    (c1 : Ev K_X4_isSound [aR (some m1)] M (some (aI x101)) M1)
    (k2 : ∀ (g2 : ¬ x101 = 0), E K_X0_callsOf 17 [some (aR (some 11)), some (aR (some m1)), some (aI 0), some (aI 0)] [] M1 v M')
    (k3 : ∀ (g2 : x101 = 0), some (aI 0) = v ∧ M1 = M') :
    Ev K_X0_callsOf [aR (some 11), aR (some m1)] M v M' := by
  refine ⟨Nat.le_of_ble_eq_true rfl, ?_⟩
  show E K_X0_callsOf 0 [some (aR (some 11)), some (aR (some m1)), none, none] [] M v M'
  refine e_aload_n dX0_callsOf_0 rfl ?_
  refine e_ifnull (tgt := 11) dX0_callsOf_1 rfl (fun z => ?_) (fun z => ?_)
  · cases z
  ·
    refine e_aload_n dX0_callsOf_4 rfl ?_
    refine e_callV (As := []) (rest := []) vk_X4_isSound h_m1.l0 w601 ⟨by decide, by decide⟩ (Nat.le_of_ble_eq_true rfl) dX0_callsOf_5 c1 ?_
    show E K_X0_callsOf 8 [some (aR (some 11)), some (aR (some m1)), none, none] [aI x101] M1 v M'
    have hS_1 : St M1 := St.sh (M := M) c1.2.1 hS
    have h_m1_1 : Mt M1 m1 := Mt.sh (M := M) c1.2.1 h_m1
    refine e_if_ne (tgt := 13) dX0_callsOf_8 rfl (fun g2 => ?_) (fun g2 => ?_)
    ·
      refine e_iconst (u := 0) dX0_callsOf_13 (by decide) ?_
      refine e_istore_n dX0_callsOf_14 (Nat.le_of_ble_eq_true rfl) ?_
      show E K_X0_callsOf 15 [some (aR (some 11)), some (aR (some m1)), some (aI 0), none] [] M1 v M'
      refine e_iconst (u := 0) dX0_callsOf_15 (by decide) ?_
      refine e_istore_n dX0_callsOf_16 (Nat.le_of_ble_eq_true rfl) ?_
      show E K_X0_callsOf 17 [some (aR (some 11)), some (aR (some m1)), some (aI 0), some (aI 0)] [] M1 v M'
      exact (k2 g2)
    ·
      refine e_iconst (u := 0) dX0_callsOf_11 (by decide) ?_
      exact e_iret rfl dX0_callsOf_12 (k3 g2)

set_option maxRecDepth 20000 in
theorem s_X0_callsOf_17 {M M' : AM} {v : Option AV} {m1 : Nat} {x2 : Int32} {x3 : Int32} {M1 : AM} {x103 : Int32} {M2 : AM} {x105 : Int32} (hS : St M) (h_m1 : Mt M m1)
    (k1 : ∀ (g1 : (mI M m1 7) ≤ x3), some (aI x2) = v ∧ M = M')
    (b2 : ∀ (g1 : ¬ ((mI M m1 7) ≤ x3)), vp_in x3 120)
    (k3 : ∀ (g1 : ¬ ((mI M m1 7) ≤ x3)) (g2 : ¬ (mI M (m1 + 1) x3.toNatClampNeg) = 16), E K_X0_callsOf 17 [some (aR (some 11)), some (aR (some m1)), some (aI x2), some (aI (x3 + 1))] [] M v M')
    (c4 : ∀ (g1 : ¬ ((mI M m1 7) ≤ x3)) (g2 : (mI M (m1 + 1) x3.toNatClampNeg) = 16), Ev K_X4_isMet [aR (some m1), aI x3] M (some (aI x103)) M1)
    (k5 : ∀ (g1 : ¬ ((mI M m1 7) ≤ x3)) (g2 : (mI M (m1 + 1) x3.toNatClampNeg) = 16) (g4 : x103 = 0), E K_X0_callsOf 17 [some (aR (some 11)), some (aR (some m1)), some (aI x2), some (aI (x3 + 1))] [] M1 v M')
    (c6 : ∀ (g1 : ¬ ((mI M m1 7) ≤ x3)) (g2 : (mI M (m1 + 1) x3.toNatClampNeg) = 16) (g4 : ¬ x103 = 0), Ev K_X0_bit [aI ((mJ M1 (m1 + 2) x3.toNatClampNeg : Int64).toInt32)] M1 (some (aI x105)) M2)
    (k7 : ∀ (g1 : ¬ ((mI M m1 7) ≤ x3)) (g2 : (mI M (m1 + 1) x3.toNatClampNeg) = 16) (g4 : ¬ x103 = 0), E K_X0_callsOf 17 [some (aR (some 11)), some (aR (some m1)), some (aI (x2 ||| x105)), some (aI (x3 + 1))] [] M2 v M') :
    E K_X0_callsOf 17 [some (aR (some 11)), some (aR (some m1)), some (aI x2), some (aI x3)] [] M v M' := by
  refine e_iload_n dX0_callsOf_17 rfl ?_
  refine e_aload_n dX0_callsOf_18 rfl ?_
  refine e_getN ff_4_7 h_m1.l0 w384 dX0_callsOf_19 (w := aI (mI M m1 7)) rfl ?_
  refine e_icmp_ge (tgt := 63) dX0_callsOf_22 rfl (fun g1 => ?_) (fun g1 => ?_)
  ·
    refine e_iload_n dX0_callsOf_63 rfl ?_
    exact e_iret rfl dX0_callsOf_64 (k1 g1)
  ·
    refine e_aload_n dX0_callsOf_25 rfl ?_
    refine e_getN ff_4_3 h_m1.l0 w368 dX0_callsOf_26 (w := aR (some (m1 + 1))) h_m1.f3 ?_
    refine e_iload_n dX0_callsOf_29 rfl ?_
    refine e_iald h_m1.l1 (h_m1.b1 (b2 g1)) dX0_callsOf_30 ?_
    refine e_bipush (u := 16) dX0_callsOf_31 (by decide) ?_
    refine e_icmp_ne (tgt := 57) dX0_callsOf_33 rfl (fun g2 => ?_) (fun g2 => ?_)
    ·
      refine e_iinc dX0_callsOf_57 rfl ?_
      show E K_X0_callsOf 60 [some (aR (some 11)), some (aR (some m1)), some (aI x2), some (aI (x3 + 1))] [] M v M'
      refine e_goto (tgt := 17) dX0_callsOf_60 rfl ?_
      exact (k3 g1 g2)
    ·
      refine e_aload_n dX0_callsOf_36 rfl ?_
      refine e_iload_n dX0_callsOf_37 rfl ?_
      refine e_callV (As := [aI x3]) (rest := []) vk_X4_isMet h_m1.l0 w602 ⟨by decide, by decide⟩ (Nat.le_of_ble_eq_true rfl) dX0_callsOf_38 (c4 g1 g2) ?_
      show E K_X0_callsOf 41 [some (aR (some 11)), some (aR (some m1)), some (aI x2), some (aI x3)] [aI x103] M1 v M'
      have hS_1 : St M1 := St.sh (M := M) (c4 g1 g2).2.1 hS
      have h_m1_1 : Mt M1 m1 := Mt.sh (M := M) (c4 g1 g2).2.1 h_m1
      refine e_if_eq (tgt := 57) dX0_callsOf_41 rfl (fun g4 => ?_) (fun g4 => ?_)
      ·
        refine e_iinc dX0_callsOf_57 rfl ?_
        show E K_X0_callsOf 60 [some (aR (some 11)), some (aR (some m1)), some (aI x2), some (aI (x3 + 1))] [] M1 v M'
        refine e_goto (tgt := 17) dX0_callsOf_60 rfl ?_
        exact (k5 g1 g2 g4)
      ·
        refine e_iload_n dX0_callsOf_44 rfl ?_
        refine e_aload_n dX0_callsOf_45 rfl ?_
        refine e_getN ff_4_4 h_m1_1.l0 w373 dX0_callsOf_46 (w := aR (some (m1 + 2))) h_m1_1.f4 ?_
        refine e_iload_n dX0_callsOf_49 rfl ?_
        refine e_lald h_m1_1.l2 (h_m1_1.b2 (b2 g1)) dX0_callsOf_50 ?_
        refine e_l2i dX0_callsOf_51 ?_
        refine e_callS (As := [aI ((mJ M1 (m1 + 2) x3.toNatClampNeg : Int64).toInt32)]) (rest := [aI x2]) sk_X0_bit w607 ⟨by decide, by decide⟩ (Nat.le_of_ble_eq_true rfl) dX0_callsOf_52 (c6 g1 g2 g4) ?_
        show E K_X0_callsOf 55 [some (aR (some 11)), some (aR (some m1)), some (aI x2), some (aI x3)] [aI x105, aI x2] M2 v M'
        have hS_2 : St M2 := St.sh (M := M1) (c6 g1 g2 g4).2.1 hS_1
        have h_m1_1_2 : Mt M2 m1 := Mt.sh (M := M1) (c6 g1 g2 g4).2.1 h_m1_1
        refine e_ior dX0_callsOf_55 ?_
        refine e_istore_n dX0_callsOf_56 (Nat.le_of_ble_eq_true rfl) ?_
        show E K_X0_callsOf 57 [some (aR (some 11)), some (aR (some m1)), some (aI (x2 ||| x105)), some (aI x3)] [] M2 v M'
        refine e_iinc dX0_callsOf_57 rfl ?_
        show E K_X0_callsOf 60 [some (aR (some 11)), some (aR (some m1)), some (aI (x2 ||| x105)), some (aI (x3 + 1))] [] M2 v M'
        refine e_goto (tgt := 17) dX0_callsOf_60 rfl ?_
        exact (k7 g1 g2 g4)

set_option maxRecDepth 20000 in
theorem s_X0_faultyOnes_0 {M M' : AM} {v : Option AV} (hS : St M)
    (k1 : E K_X0_faultyOnes 4 [some (aR (some 11)), some (aI 0), some (aI 0), none] [] M v M') :
    Ev K_X0_faultyOnes [aR (some 11)] M v M' := by
  refine ⟨Nat.le_of_ble_eq_true rfl, ?_⟩
  show E K_X0_faultyOnes 0 [some (aR (some 11)), none, none, none] [] M v M'
  refine e_iconst (u := 0) dX0_faultyOnes_0 (by decide) ?_
  refine e_istore_n dX0_faultyOnes_1 (Nat.le_of_ble_eq_true rfl) ?_
  show E K_X0_faultyOnes 2 [some (aR (some 11)), some (aI 0), none, none] [] M v M'
  refine e_iconst (u := 0) dX0_faultyOnes_2 (by decide) ?_
  refine e_istore_n dX0_faultyOnes_3 (Nat.le_of_ble_eq_true rfl) ?_
  show E K_X0_faultyOnes 4 [some (aR (some 11)), some (aI 0), some (aI 0), none] [] M v M'
  exact k1

set_option maxRecDepth 20000 in
theorem s_X0_faultyOnes_4 {M M' : AM} {v : Option AV} {x1 : Int32} {x2 : Int32} {M1 : AM} {o102 : Option Nat} {M2 : AM} {x103 : Int32} {M3 : AM} {x105 : Int32} (hS : St M)
    (k1 : ∀ (g1 : (mI M 4 2) ≤ x2), some (aI x1) = v ∧ M = M')
    (c2 : ∀ (g1 : ¬ ((mI M 4 2) ≤ x2)), Ev K_X5_find [aR (some 4), aJ ((x2 : Int32).toInt64)] M (some (aR o102)) M1)
    (k3 : ∀ (g1 : ¬ ((mI M 4 2) ≤ x2)) (q102 : o102 = none), E K_X0_faultyOnes 4 [some (aR (some 11)), some (aI x1), some (aI (x2 + 1)), some (aR o102)] [] M1 v M')
    (h4 : ∀ (g1 : ¬ ((mI M 4 2) ≤ x2)) (r102 : Nat) (q102 : o102 = some r102), Mt M1 r102)
    (c5 : ∀ (g1 : ¬ ((mI M 4 2) ≤ x2)) (r102 : Nat) (q102 : o102 = some r102), Ev K_X4_isSound [aR (some r102)] M1 (some (aI x103)) M2)
    (k6 : ∀ (g1 : ¬ ((mI M 4 2) ≤ x2)) (r102 : Nat) (q102 : o102 = some r102) (g4 : ¬ x103 = 0), E K_X0_faultyOnes 4 [some (aR (some 11)), some (aI x1), some (aI (x2 + 1)), some (aR (some r102))] [] M2 v M')
    (c7 : ∀ (g1 : ¬ ((mI M 4 2) ≤ x2)) (r102 : Nat) (q102 : o102 = some r102) (g4 : x103 = 0), Ev K_X0_bit [aI x2] M2 (some (aI x105)) M3)
    (k8 : ∀ (g1 : ¬ ((mI M 4 2) ≤ x2)) (r102 : Nat) (q102 : o102 = some r102) (g4 : x103 = 0), E K_X0_faultyOnes 4 [some (aR (some 11)), some (aI (x1 ||| x105)), some (aI (x2 + 1)), some (aR (some r102))] [] M3 v M') :
    E K_X0_faultyOnes 4 [some (aR (some 11)), some (aI x1), some (aI x2), none] [] M v M' := by
  refine e_iload_n dX0_faultyOnes_4 rfl ?_
  refine e_aload_n dX0_faultyOnes_5 rfl ?_
  refine e_get ff_0_0 hS.l11 w163 dX0_faultyOnes_6 (w := aR (some 4)) hS.f11_0 ?_
  refine e_getN ff_5_2 hS.l4 w104 dX0_faultyOnes_9 (w := aI (mI M 4 2)) rfl ?_
  refine e_icmp_ge (tgt := 49) dX0_faultyOnes_12 rfl (fun g1 => ?_) (fun g1 => ?_)
  ·
    refine e_iload_n dX0_faultyOnes_49 rfl ?_
    exact e_iret rfl dX0_faultyOnes_50 (k1 g1)
  ·
    refine e_aload_n dX0_faultyOnes_15 rfl ?_
    refine e_get ff_0_0 hS.l11 w163 dX0_faultyOnes_16 (w := aR (some 4)) hS.f11_0 ?_
    refine e_iload_n dX0_faultyOnes_19 rfl ?_
    refine e_i2l dX0_faultyOnes_20 ?_
    refine e_callV (As := [aJ ((x2 : Int32).toInt64)]) (rest := []) vk_X5_find hS.l4 w596 ⟨by decide, by decide⟩ (Nat.le_of_ble_eq_true rfl) dX0_faultyOnes_21 (c2 g1) ?_
    show E K_X0_faultyOnes 24 [some (aR (some 11)), some (aI x1), some (aI x2), none] [aR o102] M1 v M'
    have hS_1 : St M1 := St.sh (M := M) (c2 g1).2.1 hS
    refine e_astore_n dX0_faultyOnes_24 (Nat.le_of_ble_eq_true rfl) ?_
    show E K_X0_faultyOnes 25 [some (aR (some 11)), some (aI x1), some (aI x2), some (aR o102)] [] M1 v M'
    refine e_aload_n dX0_faultyOnes_25 rfl ?_
    refine e_ifnull (tgt := 43) dX0_faultyOnes_26 rfl (fun z => ?_) (fun z => ?_)
    ·
      have q102 : o102 = none := z
      refine e_iinc dX0_faultyOnes_43 rfl ?_
      show E K_X0_faultyOnes 46 [some (aR (some 11)), some (aI x1), some (aI (x2 + 1)), some (aR o102)] [] M1 v M'
      refine e_goto (tgt := 4) dX0_faultyOnes_46 rfl ?_
      exact (k3 g1 q102)
    ·
      obtain ⟨r102, q102⟩ : ∃ r, o102 = some r := by cases o102 with | none => exact absurd rfl z | some r => exact ⟨r, rfl⟩
      have h_r102 : Mt M1 r102 := (h4 g1 r102 q102)
      rw [q102]
      refine e_aload_n dX0_faultyOnes_29 rfl ?_
      refine e_callV (As := []) (rest := []) vk_X4_isSound h_r102.l0 w601 ⟨by decide, by decide⟩ (Nat.le_of_ble_eq_true rfl) dX0_faultyOnes_30 (c5 g1 r102 q102) ?_
      show E K_X0_faultyOnes 33 [some (aR (some 11)), some (aI x1), some (aI x2), some (aR (some r102))] [aI x103] M2 v M'
      have hS_2 : St M2 := St.sh (M := M1) (c5 g1 r102 q102).2.1 hS_1
      have h_r102_2 : Mt M2 r102 := Mt.sh (M := M1) (c5 g1 r102 q102).2.1 h_r102
      refine e_if_ne (tgt := 43) dX0_faultyOnes_33 rfl (fun g4 => ?_) (fun g4 => ?_)
      ·
        refine e_iinc dX0_faultyOnes_43 rfl ?_
        show E K_X0_faultyOnes 46 [some (aR (some 11)), some (aI x1), some (aI (x2 + 1)), some (aR (some r102))] [] M2 v M'
        refine e_goto (tgt := 4) dX0_faultyOnes_46 rfl ?_
        exact (k6 g1 r102 q102 g4)
      ·
        refine e_iload_n dX0_faultyOnes_36 rfl ?_
        refine e_iload_n dX0_faultyOnes_37 rfl ?_
        refine e_callS (As := [aI x2]) (rest := [aI x1]) sk_X0_bit w607 ⟨by decide, by decide⟩ (Nat.le_of_ble_eq_true rfl) dX0_faultyOnes_38 (c7 g1 r102 q102 g4) ?_
        show E K_X0_faultyOnes 41 [some (aR (some 11)), some (aI x1), some (aI x2), some (aR (some r102))] [aI x105, aI x1] M3 v M'
        have hS_3 : St M3 := St.sh (M := M2) (c7 g1 r102 q102 g4).2.1 hS_2
        have h_r102_2_3 : Mt M3 r102 := Mt.sh (M := M2) (c7 g1 r102 q102 g4).2.1 h_r102_2
        refine e_ior dX0_faultyOnes_41 ?_
        refine e_istore_n dX0_faultyOnes_42 (Nat.le_of_ble_eq_true rfl) ?_
        show E K_X0_faultyOnes 43 [some (aR (some 11)), some (aI (x1 ||| x105)), some (aI x2), some (aR (some r102))] [] M3 v M'
        refine e_iinc dX0_faultyOnes_43 rfl ?_
        show E K_X0_faultyOnes 46 [some (aR (some 11)), some (aI (x1 ||| x105)), some (aI (x2 + 1)), some (aR (some r102))] [] M3 v M'
        refine e_goto (tgt := 4) dX0_faultyOnes_46 rfl ?_
        exact (k8 g1 r102 q102 g4)

set_option maxRecDepth 20000 in
theorem s_X0_circularOnes_0 {M M' : AM} {v : Option AV} (hS : St M)
    (k1 : E K_X0_circularOnes 4 [some (aR (some 11)), some (aI 0), some (aI 0)] [] M v M') :
    Ev K_X0_circularOnes [aR (some 11)] M v M' := by
  refine ⟨Nat.le_of_ble_eq_true rfl, ?_⟩
  show E K_X0_circularOnes 0 [some (aR (some 11)), none, none] [] M v M'
  refine e_iconst (u := 0) dX0_circularOnes_0 (by decide) ?_
  refine e_istore_n dX0_circularOnes_1 (Nat.le_of_ble_eq_true rfl) ?_
  show E K_X0_circularOnes 2 [some (aR (some 11)), some (aI 0), none] [] M v M'
  refine e_iconst (u := 0) dX0_circularOnes_2 (by decide) ?_
  refine e_istore_n dX0_circularOnes_3 (Nat.le_of_ble_eq_true rfl) ?_
  show E K_X0_circularOnes 4 [some (aR (some 11)), some (aI 0), some (aI 0)] [] M v M'
  exact k1

set_option maxRecDepth 20000 in
theorem s_X0_circularOnes_4 {M M' : AM} {v : Option AV} {x1 : Int32} {x2 : Int32} {M1 : AM} {x102 : Int32} (hS : St M)
    (k1 : ∀ (g1 : (mI M 4 2) ≤ x2), some (aI x1) = v ∧ M = M')
    (b2 : ∀ (g1 : ¬ ((mI M 4 2) ≤ x2)), vp_in x2 32)
    (c3 : ∀ (g1 : ¬ ((mI M 4 2) ≤ x2)), Ev K_X0_bit [aI x2] M (some (aI x102)) M1)
    (k4 : ∀ (g1 : ¬ ((mI M 4 2) ≤ x2)), E K_X0_circularOnes 4 [some (aR (some 11)), some (aI (x1 ||| ((mI M 17 x2.toNatClampNeg) &&& x102))), some (aI (x2 + 1))] [] M1 v M') :
    E K_X0_circularOnes 4 [some (aR (some 11)), some (aI x1), some (aI x2)] [] M v M' := by
  refine e_iload_n dX0_circularOnes_4 rfl ?_
  refine e_aload_n dX0_circularOnes_5 rfl ?_
  refine e_get ff_0_0 hS.l11 w163 dX0_circularOnes_6 (w := aR (some 4)) hS.f11_0 ?_
  refine e_getN ff_5_2 hS.l4 w104 dX0_circularOnes_9 (w := aI (mI M 4 2)) rfl ?_
  refine e_icmp_ge (tgt := 35) dX0_circularOnes_12 rfl (fun g1 => ?_) (fun g1 => ?_)
  ·
    refine e_iload_n dX0_circularOnes_35 rfl ?_
    exact e_iret rfl dX0_circularOnes_36 (k1 g1)
  ·
    refine e_iload_n dX0_circularOnes_15 rfl ?_
    refine e_aload_n dX0_circularOnes_16 rfl ?_
    refine e_get ff_0_2 hS.l11 w165 dX0_circularOnes_17 (w := aR (some 17)) hS.f11_2 ?_
    refine e_iload_n dX0_circularOnes_20 rfl ?_
    refine e_iald hS.l17 (hS.b17 (b2 g1)) dX0_circularOnes_21 ?_
    refine e_iload_n dX0_circularOnes_22 rfl ?_
    refine e_callS (As := [aI x2]) (rest := [aI (mI M 17 x2.toNatClampNeg), aI x1]) sk_X0_bit w607 ⟨by decide, by decide⟩ (Nat.le_of_ble_eq_true rfl) dX0_circularOnes_23 (c3 g1) ?_
    show E K_X0_circularOnes 26 [some (aR (some 11)), some (aI x1), some (aI x2)] [aI x102, aI (mI M 17 x2.toNatClampNeg), aI x1] M1 v M'
    have hS_1 : St M1 := St.sh (M := M) (c3 g1).2.1 hS
    refine e_iand dX0_circularOnes_26 ?_
    refine e_ior dX0_circularOnes_27 ?_
    refine e_istore_n dX0_circularOnes_28 (Nat.le_of_ble_eq_true rfl) ?_
    show E K_X0_circularOnes 29 [some (aR (some 11)), some (aI (x1 ||| ((mI M 17 x2.toNatClampNeg) &&& x102))), some (aI x2)] [] M1 v M'
    refine e_iinc dX0_circularOnes_29 rfl ?_
    show E K_X0_circularOnes 32 [some (aR (some 11)), some (aI (x1 ||| ((mI M 17 x2.toNatClampNeg) &&& x102))), some (aI (x2 + 1))] [] M1 v M'
    refine e_goto (tgt := 4) dX0_circularOnes_32 rfl ?_
    exact (k4 g1)

set_option maxRecDepth 20000 in
theorem s_X0_countBounds_0 {M M' : AM} {v : Option AV} (hS : St M)
    (k1 : E K_X0_countBounds 9 [some (aR (some 11)), some (aI 1), some (aI (mI M 11 3)), some (aI 0), none, none] [] M v M') :
    Ev K_X0_countBounds [aR (some 11)] M v M' := by
  refine ⟨Nat.le_of_ble_eq_true rfl, ?_⟩
  show E K_X0_countBounds 0 [some (aR (some 11)), none, none, none, none, none] [] M v M'
  refine e_iconst (u := 1) dX0_countBounds_0 (by decide) ?_
  refine e_istore_n dX0_countBounds_1 (Nat.le_of_ble_eq_true rfl) ?_
  show E K_X0_countBounds 2 [some (aR (some 11)), some (aI 1), none, none, none, none] [] M v M'
  refine e_aload_n dX0_countBounds_2 rfl ?_
  refine e_get ff_0_3 hS.l11 w166 dX0_countBounds_3 (w := aI (mI M 11 3)) rfl ?_
  refine e_istore_n dX0_countBounds_6 (Nat.le_of_ble_eq_true rfl) ?_
  show E K_X0_countBounds 7 [some (aR (some 11)), some (aI 1), some (aI (mI M 11 3)), none, none, none] [] M v M'
  refine e_iconst (u := 0) dX0_countBounds_7 (by decide) ?_
  refine e_istore_n dX0_countBounds_8 (Nat.le_of_ble_eq_true rfl) ?_
  show E K_X0_countBounds 9 [some (aR (some 11)), some (aI 1), some (aI (mI M 11 3)), some (aI 0), none, none] [] M v M'
  exact k1

set_option maxRecDepth 20000 in
theorem s_X0_countBounds_9 {M M' : AM} {v : Option AV} {x1 : Int32} {x2 : Int32} {x3 : Int32} (hS : St M)
    (k1 : ∀ (g1 : (mI M 4 2) ≤ x3), some (aI x1) = v ∧ M = M')
    (z2 : ∀ (g1 : (mI M 4 2) ≤ x3), x1 = 0 ∨ x1 = 1)
    (k3 : ∀ (g1 : ¬ ((mI M 4 2) ≤ x3)) (g2 : x2 = 0), some (aI x1) = v ∧ M = M')
    (z4 : ∀ (g1 : ¬ ((mI M 4 2) ≤ x3)) (g2 : x2 = 0), x1 = 0 ∨ x1 = 1)
    (k5 : ∀ (g1 : ¬ ((mI M 4 2) ≤ x3)) (g2 : ¬ x2 = 0), E K_X0_countBounds 27 [some (aR (some 11)), some (aI x1), some (aI x2), some (aI x3), some (aI 0), none] [] M v M') :
    E K_X0_countBounds 9 [some (aR (some 11)), some (aI x1), some (aI x2), some (aI x3), none, none] [] M v M' := by
  refine e_iload_n dX0_countBounds_9 rfl ?_
  refine e_aload_n dX0_countBounds_10 rfl ?_
  refine e_get ff_0_0 hS.l11 w163 dX0_countBounds_11 (w := aR (some 4)) hS.f11_0 ?_
  refine e_getN ff_5_2 hS.l4 w104 dX0_countBounds_14 (w := aI (mI M 4 2)) rfl ?_
  refine e_icmp_ge (tgt := 164) dX0_countBounds_17 rfl (fun g1 => ?_) (fun g1 => ?_)
  ·
    refine e_iload_n dX0_countBounds_164 rfl ?_
    exact e_zret rfl (z2 g1) dX0_countBounds_165 (k1 g1)
  ·
    refine e_iload_n dX0_countBounds_20 rfl ?_
    refine e_if_eq (tgt := 164) dX0_countBounds_21 rfl (fun g2 => ?_) (fun g2 => ?_)
    ·
      refine e_iload_n dX0_countBounds_164 rfl ?_
      exact e_zret rfl (z4 g1 g2) dX0_countBounds_165 (k3 g1 g2)
    ·
      refine e_iconst (u := 0) dX0_countBounds_24 (by decide) ?_
      refine e_istore dX0_countBounds_25 (Nat.le_of_ble_eq_true rfl) ?_
      show E K_X0_countBounds 27 [some (aR (some 11)), some (aI x1), some (aI x2), some (aI x3), some (aI 0), none] [] M v M'
      exact (k5 g1 g2)

set_option maxRecDepth 20000 in
theorem s_X0_countBounds_27 {M M' : AM} {v : Option AV} {x1 : Int32} {x2 : Int32} {x3 : Int32} {x4 : Int32} {M1 : AM} {o102 : Option Nat} {M2 : AM} {x103 : Int32} {M3 : AM} {x106 : Int64} {M4 : AM} {x107 : Int64} {M5 : AM} {x108 : Int32} (hS : St M)
    (k1 : ∀ (g1 : (mI M 4 2) ≤ x4), E K_X0_countBounds 9 [some (aR (some 11)), some (aI x1), some (aI x2), some (aI (x3 + 1)), some (aI x4), none] [] M v M')
    (c2 : ∀ (g1 : ¬ ((mI M 4 2) ≤ x4)), Ev K_X5_find [aR (some 4), aJ ((x4 : Int32).toInt64)] M (some (aR o102)) M1)
    (k3 : ∀ (g1 : ¬ ((mI M 4 2) ≤ x4)) (q102 : o102 = none), E K_X0_countBounds 27 [some (aR (some 11)), some (aI x1), some (aI x2), some (aI x3), some (aI (x4 + 1)), some (aR o102)] [] M1 v M')
    (h4 : ∀ (g1 : ¬ ((mI M 4 2) ≤ x4)) (r102 : Nat) (q102 : o102 = some r102), Mt M1 r102)
    (c5 : ∀ (g1 : ¬ ((mI M 4 2) ≤ x4)) (r102 : Nat) (q102 : o102 = some r102), Ev K_X0_isIn [aI x4, aI x2] M1 (some (aI x103)) M2)
    (k6 : ∀ (g1 : ¬ ((mI M 4 2) ≤ x4)) (r102 : Nat) (q102 : o102 = some r102) (g4 : x103 = 0), E K_X0_countBounds 27 [some (aR (some 11)), some (aI x1), some (aI x2), some (aI x3), some (aI (x4 + 1)), some (aR (some r102))] [] M2 v M')
    (b7 : ∀ (g1 : ¬ ((mI M 4 2) ≤ x4)) (r102 : Nat) (q102 : o102 = some r102) (g4 : ¬ x103 = 0), vp_in x4 32)
    (k8 : ∀ (g1 : ¬ ((mI M 4 2) ≤ x4)) (r102 : Nat) (q102 : o102 = some r102) (g4 : ¬ x103 = 0) (g5 : ¬ ((mI M2 17 x4.toNatClampNeg) &&& x2) = 0), E K_X0_countBounds 27 [some (aR (some 11)), some (aI x1), some (aI x2), some (aI x3), some (aI (x4 + 1)), some (aR (some r102))] [] M2 v M')
    (c9 : ∀ (g1 : ¬ ((mI M 4 2) ≤ x4)) (r102 : Nat) (q102 : o102 = some r102) (g4 : ¬ x103 = 0) (g5 : ((mI M2 17 x4.toNatClampNeg) &&& x2) = 0), Ev K_X1_stackOf [aR (some 12), aR (some r102)] M2 (some (aJ x106)) M3)
    (c10 : ∀ (g1 : ¬ ((mI M 4 2) ≤ x4)) (r102 : Nat) (q102 : o102 = some r102) (g4 : ¬ x103 = 0) (g5 : ((mI M2 17 x4.toNatClampNeg) &&& x2) = 0), Ev K_X1_timeOf [aR (some 12), aR (some r102)] (wrJ M3 13 x4.toNatClampNeg x106) (some (aJ x107)) M4)
    (c11 : ∀ (g1 : ¬ ((mI M 4 2) ≤ x4)) (r102 : Nat) (q102 : o102 = some r102) (g4 : ¬ x103 = 0) (g5 : ((mI M2 17 x4.toNatClampNeg) &&& x2) = 0), Ev K_X0_bit [aI x4] (wrJ M4 14 x4.toNatClampNeg x107) (some (aI x108)) M5)
    (k12 : ∀ (g1 : ¬ ((mI M 4 2) ≤ x4)) (r102 : Nat) (q102 : o102 = some r102) (g4 : ¬ x103 = 0) (g5 : ((mI M2 17 x4.toNatClampNeg) &&& x2) = 0) (g9 : x1 = 0), E K_X0_countBounds 27 [some (aR (some 11)), some (aI 0), some (aI (x2 &&& (x108 ^^^ (-1)))), some (aI x3), some (aI (x4 + 1)), some (aR (some r102))] [] M5 v M')
    (k13 : ∀ (g1 : ¬ ((mI M 4 2) ≤ x4)) (r102 : Nat) (q102 : o102 = some r102) (g4 : ¬ x103 = 0) (g5 : ((mI M2 17 x4.toNatClampNeg) &&& x2) = 0) (g9 : ¬ x1 = 0) (g10 : (mJ M5 14 x4.toNatClampNeg) = (-2)), E K_X0_countBounds 27 [some (aR (some 11)), some (aI 0), some (aI (x2 &&& (x108 ^^^ (-1)))), some (aI x3), some (aI (x4 + 1)), some (aR (some r102))] [] M5 v M')
    (k14 : ∀ (g1 : ¬ ((mI M 4 2) ≤ x4)) (r102 : Nat) (q102 : o102 = some r102) (g4 : ¬ x103 = 0) (g5 : ((mI M2 17 x4.toNatClampNeg) &&& x2) = 0) (g9 : ¬ x1 = 0) (g10 : ¬ ((mJ M5 14 x4.toNatClampNeg) = (-2))), E K_X0_countBounds 27 [some (aR (some 11)), some (aI 1), some (aI (x2 &&& (x108 ^^^ (-1)))), some (aI x3), some (aI (x4 + 1)), some (aR (some r102))] [] M5 v M') :
    E K_X0_countBounds 27 [some (aR (some 11)), some (aI x1), some (aI x2), some (aI x3), some (aI x4), none] [] M v M' := by
  refine e_iload dX0_countBounds_27 rfl ?_
  refine e_aload_n dX0_countBounds_29 rfl ?_
  refine e_get ff_0_0 hS.l11 w163 dX0_countBounds_30 (w := aR (some 4)) hS.f11_0 ?_
  refine e_getN ff_5_2 hS.l4 w104 dX0_countBounds_33 (w := aI (mI M 4 2)) rfl ?_
  refine e_icmp_ge (tgt := 158) dX0_countBounds_36 rfl (fun g1 => ?_) (fun g1 => ?_)
  ·
    refine e_iinc dX0_countBounds_158 rfl ?_
    show E K_X0_countBounds 161 [some (aR (some 11)), some (aI x1), some (aI x2), some (aI (x3 + 1)), some (aI x4), none] [] M v M'
    refine e_goto (tgt := 9) dX0_countBounds_161 rfl ?_
    exact (k1 g1)
  ·
    refine e_aload_n dX0_countBounds_39 rfl ?_
    refine e_get ff_0_0 hS.l11 w163 dX0_countBounds_40 (w := aR (some 4)) hS.f11_0 ?_
    refine e_iload dX0_countBounds_43 rfl ?_
    refine e_i2l dX0_countBounds_45 ?_
    refine e_callV (As := [aJ ((x4 : Int32).toInt64)]) (rest := []) vk_X5_find hS.l4 w596 ⟨by decide, by decide⟩ (Nat.le_of_ble_eq_true rfl) dX0_countBounds_46 (c2 g1) ?_
    show E K_X0_countBounds 49 [some (aR (some 11)), some (aI x1), some (aI x2), some (aI x3), some (aI x4), none] [aR o102] M1 v M'
    have hS_1 : St M1 := St.sh (M := M) (c2 g1).2.1 hS
    refine e_astore dX0_countBounds_49 (Nat.le_of_ble_eq_true rfl) ?_
    show E K_X0_countBounds 51 [some (aR (some 11)), some (aI x1), some (aI x2), some (aI x3), some (aI x4), some (aR o102)] [] M1 v M'
    refine e_aload dX0_countBounds_51 rfl ?_
    refine e_ifnull (tgt := 152) dX0_countBounds_53 rfl (fun z => ?_) (fun z => ?_)
    ·
      have q102 : o102 = none := z
      refine e_iinc dX0_countBounds_152 rfl ?_
      show E K_X0_countBounds 155 [some (aR (some 11)), some (aI x1), some (aI x2), some (aI x3), some (aI (x4 + 1)), some (aR o102)] [] M1 v M'
      refine e_goto (tgt := 27) dX0_countBounds_155 rfl ?_
      exact (k3 g1 q102)
    ·
      obtain ⟨r102, q102⟩ : ∃ r, o102 = some r := by cases o102 with | none => exact absurd rfl z | some r => exact ⟨r, rfl⟩
      have h_r102 : Mt M1 r102 := (h4 g1 r102 q102)
      rw [q102]
      refine e_iload dX0_countBounds_56 rfl ?_
      refine e_iload_n dX0_countBounds_58 rfl ?_
      refine e_callS (As := [aI x4, aI x2]) (rest := []) sk_X0_isIn w610 ⟨by decide, by decide⟩ (Nat.le_of_ble_eq_true rfl) dX0_countBounds_59 (c5 g1 r102 q102) ?_
      show E K_X0_countBounds 62 [some (aR (some 11)), some (aI x1), some (aI x2), some (aI x3), some (aI x4), some (aR (some r102))] [aI x103] M2 v M'
      have hS_2 : St M2 := St.sh (M := M1) (c5 g1 r102 q102).2.1 hS_1
      have h_r102_2 : Mt M2 r102 := Mt.sh (M := M1) (c5 g1 r102 q102).2.1 h_r102
      refine e_if_eq (tgt := 152) dX0_countBounds_62 rfl (fun g4 => ?_) (fun g4 => ?_)
      ·
        refine e_iinc dX0_countBounds_152 rfl ?_
        show E K_X0_countBounds 155 [some (aR (some 11)), some (aI x1), some (aI x2), some (aI x3), some (aI (x4 + 1)), some (aR (some r102))] [] M2 v M'
        refine e_goto (tgt := 27) dX0_countBounds_155 rfl ?_
        exact (k6 g1 r102 q102 g4)
      ·
        refine e_aload_n dX0_countBounds_65 rfl ?_
        refine e_get ff_0_2 hS_2.l11 w165 dX0_countBounds_66 (w := aR (some 17)) hS_2.f11_2 ?_
        refine e_iload dX0_countBounds_69 rfl ?_
        refine e_iald hS_2.l17 (hS_2.b17 (b7 g1 r102 q102 g4)) dX0_countBounds_71 ?_
        refine e_iload_n dX0_countBounds_72 rfl ?_
        refine e_iand dX0_countBounds_73 ?_
        refine e_if_ne (tgt := 152) dX0_countBounds_74 rfl (fun g5 => ?_) (fun g5 => ?_)
        ·
          refine e_iinc dX0_countBounds_152 rfl ?_
          show E K_X0_countBounds 155 [some (aR (some 11)), some (aI x1), some (aI x2), some (aI x3), some (aI (x4 + 1)), some (aR (some r102))] [] M2 v M'
          refine e_goto (tgt := 27) dX0_countBounds_155 rfl ?_
          exact (k8 g1 r102 q102 g4 g5)
        ·
          refine e_aload_n dX0_countBounds_77 rfl ?_
          refine e_get ff_0_1 hS_2.l11 w164 dX0_countBounds_78 (w := aR (some 12)) hS_2.f11_1 ?_
          refine e_getN ff_1_1 hS_2.l12 w146 dX0_countBounds_81 (w := aR (some 13)) hS_2.f12_1 ?_
          refine e_iload dX0_countBounds_84 rfl ?_
          refine e_aload_n dX0_countBounds_86 rfl ?_
          refine e_get ff_0_1 hS_2.l11 w164 dX0_countBounds_87 (w := aR (some 12)) hS_2.f11_1 ?_
          refine e_aload dX0_countBounds_90 rfl ?_
          refine e_callV (As := [aR (some r102)]) (rest := [aI x4, aR (some 13)]) vk_X1_stackOf hS_2.l12 w625 ⟨by decide, by decide⟩ (Nat.le_of_ble_eq_true rfl) dX0_countBounds_92 (c9 g1 r102 q102 g4 g5) ?_
          show E K_X0_countBounds 95 [some (aR (some 11)), some (aI x1), some (aI x2), some (aI x3), some (aI x4), some (aR (some r102))] [aJ x106, aI x4, aR (some 13)] M3 v M'
          have hS_3 : St M3 := St.sh (M := M2) (c9 g1 r102 q102 g4 g5).2.1 hS_2
          have h_r102_2_3 : Mt M3 r102 := Mt.sh (M := M2) (c9 g1 r102 q102 g4 g5).2.1 h_r102_2
          refine e_last hS_3.l13 (hS_3.b13 (b7 g1 r102 q102 g4)) dX0_countBounds_95 ?_
          refine e_aload_n dX0_countBounds_96 rfl ?_
          refine e_get ff_0_1 hS_3.l11 w164 dX0_countBounds_97 (w := aR (some 12)) hS_3.f11_1 ?_
          refine e_getN ff_1_2 hS_3.l12 w148 dX0_countBounds_100 (w := aR (some 14)) hS_3.f12_2 ?_
          refine e_iload dX0_countBounds_103 rfl ?_
          refine e_aload_n dX0_countBounds_105 rfl ?_
          refine e_get ff_0_1 hS_3.l11 w164 dX0_countBounds_106 (w := aR (some 12)) hS_3.f11_1 ?_
          refine e_aload dX0_countBounds_109 rfl ?_
          refine e_callV (As := [aR (some r102)]) (rest := [aI x4, aR (some 14)]) vk_X1_timeOf hS_3.l12 w638 ⟨by decide, by decide⟩ (Nat.le_of_ble_eq_true rfl) dX0_countBounds_111 (c10 g1 r102 q102 g4 g5) ?_
          show E K_X0_countBounds 114 [some (aR (some 11)), some (aI x1), some (aI x2), some (aI x3), some (aI x4), some (aR (some r102))] [aJ x107, aI x4, aR (some 14)] M4 v M'
          have hS_4 : St M4 := St.sh (M := (wrJ M3 13 x4.toNatClampNeg x106)) (c10 g1 r102 q102 g4 g5).2.1 hS_3
          have h_r102_2_3_4 : Mt M4 r102 := Mt.sh (M := (wrJ M3 13 x4.toNatClampNeg x106)) (c10 g1 r102 q102 g4 g5).2.1 h_r102_2_3
          refine e_last hS_4.l14 (hS_4.b14 (b7 g1 r102 q102 g4)) dX0_countBounds_114 ?_
          refine e_iload_n dX0_countBounds_115 rfl ?_
          refine e_iload dX0_countBounds_116 rfl ?_
          refine e_callS (As := [aI x4]) (rest := [aI x2]) sk_X0_bit w607 ⟨by decide, by decide⟩ (Nat.le_of_ble_eq_true rfl) dX0_countBounds_118 (c11 g1 r102 q102 g4 g5) ?_
          show E K_X0_countBounds 121 [some (aR (some 11)), some (aI x1), some (aI x2), some (aI x3), some (aI x4), some (aR (some r102))] [aI x108, aI x2] M5 v M'
          have hS_5 : St M5 := St.sh (M := (wrJ M4 14 x4.toNatClampNeg x107)) (c11 g1 r102 q102 g4 g5).2.1 hS_4
          have h_r102_2_3_4_5 : Mt M5 r102 := Mt.sh (M := (wrJ M4 14 x4.toNatClampNeg x107)) (c11 g1 r102 q102 g4 g5).2.1 h_r102_2_3_4
          refine e_iconst (u := (-1)) dX0_countBounds_121 (by decide) ?_
          refine e_ixor dX0_countBounds_122 ?_
          refine e_iand dX0_countBounds_123 ?_
          refine e_istore_n dX0_countBounds_124 (Nat.le_of_ble_eq_true rfl) ?_
          show E K_X0_countBounds 125 [some (aR (some 11)), some (aI x1), some (aI (x2 &&& (x108 ^^^ (-1)))), some (aI x3), some (aI x4), some (aR (some r102))] [] M5 v M'
          refine e_iload_n dX0_countBounds_125 rfl ?_
          refine e_if_eq (tgt := 150) dX0_countBounds_126 rfl (fun g9 => ?_) (fun g9 => ?_)
          ·
            refine e_iconst (u := 0) dX0_countBounds_150 (by decide) ?_
            refine e_istore_n dX0_countBounds_151 (Nat.le_of_ble_eq_true rfl) ?_
            show E K_X0_countBounds 152 [some (aR (some 11)), some (aI 0), some (aI (x2 &&& (x108 ^^^ (-1)))), some (aI x3), some (aI x4), some (aR (some r102))] [] M5 v M'
            refine e_iinc dX0_countBounds_152 rfl ?_
            show E K_X0_countBounds 155 [some (aR (some 11)), some (aI 0), some (aI (x2 &&& (x108 ^^^ (-1)))), some (aI x3), some (aI (x4 + 1)), some (aR (some r102))] [] M5 v M'
            refine e_goto (tgt := 27) dX0_countBounds_155 rfl ?_
            exact (k12 g1 r102 q102 g4 g5 g9)
          ·
            refine e_aload_n dX0_countBounds_129 rfl ?_
            refine e_get ff_0_1 hS_5.l11 w164 dX0_countBounds_130 (w := aR (some 12)) hS_5.f11_1 ?_
            refine e_getN ff_1_2 hS_5.l12 w148 dX0_countBounds_133 (w := aR (some 14)) hS_5.f12_2 ?_
            refine e_iload dX0_countBounds_136 rfl ?_
            refine e_lald hS_5.l14 (hS_5.b14 (b7 g1 r102 q102 g4)) dX0_countBounds_138 ?_
            refine e_ldc2 dX0_countBounds_139 w671 ?_
            refine e_lcmp_eq (tgt := 150) dX0_countBounds_142 dX0_countBounds_143 rfl (fun g10 => ?_) (fun g10 => ?_)
            ·
              refine e_iconst (u := 0) dX0_countBounds_150 (by decide) ?_
              refine e_istore_n dX0_countBounds_151 (Nat.le_of_ble_eq_true rfl) ?_
              show E K_X0_countBounds 152 [some (aR (some 11)), some (aI 0), some (aI (x2 &&& (x108 ^^^ (-1)))), some (aI x3), some (aI x4), some (aR (some r102))] [] M5 v M'
              refine e_iinc dX0_countBounds_152 rfl ?_
              show E K_X0_countBounds 155 [some (aR (some 11)), some (aI 0), some (aI (x2 &&& (x108 ^^^ (-1)))), some (aI x3), some (aI (x4 + 1)), some (aR (some r102))] [] M5 v M'
              refine e_goto (tgt := 27) dX0_countBounds_155 rfl ?_
              exact (k13 g1 r102 q102 g4 g5 g9 g10)
            ·
              refine e_iconst (u := 1) dX0_countBounds_146 (by decide) ?_
              refine e_goto (tgt := 151) dX0_countBounds_147 rfl ?_
              refine e_istore_n dX0_countBounds_151 (Nat.le_of_ble_eq_true rfl) ?_
              show E K_X0_countBounds 152 [some (aR (some 11)), some (aI 1), some (aI (x2 &&& (x108 ^^^ (-1)))), some (aI x3), some (aI x4), some (aR (some r102))] [] M5 v M'
              refine e_iinc dX0_countBounds_152 rfl ?_
              show E K_X0_countBounds 155 [some (aR (some 11)), some (aI 1), some (aI (x2 &&& (x108 ^^^ (-1)))), some (aI x3), some (aI (x4 + 1)), some (aR (some r102))] [] M5 v M'
              refine e_goto (tgt := 27) dX0_countBounds_155 rfl ?_
              exact (k14 g1 r102 q102 g4 g5 g9 g10)

set_option maxRecDepth 20000 in
theorem s_X0_bit_0 {M M' : AM} {v : Option AV} {x0 : Int32} (hS : St M)
    (k1 : some (aI (1 <<< (x0 &&& 31))) = v ∧ M = M') :
    Ev K_X0_bit [aI x0] M v M' := by
  refine ⟨Nat.le_of_ble_eq_true rfl, ?_⟩
  show E K_X0_bit 0 [some (aI x0)] [] M v M'
  refine e_iconst (u := 1) dX0_bit_0 (by decide) ?_
  refine e_iload_n dX0_bit_1 rfl ?_
  refine e_ishl dX0_bit_2 ?_
  exact e_iret rfl dX0_bit_3 k1

set_option maxRecDepth 20000 in
theorem s_X0_isIn_0 {M M' : AM} {v : Option AV} {x0 : Int32} {x1 : Int32} {M1 : AM} {x101 : Int32} (hS : St M)
    (c1 : Ev K_X0_bit [aI x0] M (some (aI x101)) M1)
    (k2 : ∀ (g2 : (x1 &&& x101) = 0), some (aI 0) = v ∧ M1 = M')
    (k3 : ∀ (g2 : ¬ (x1 &&& x101) = 0), some (aI 1) = v ∧ M1 = M') :
    Ev K_X0_isIn [aI x0, aI x1] M v M' := by
  refine ⟨Nat.le_of_ble_eq_true rfl, ?_⟩
  show E K_X0_isIn 0 [some (aI x0), some (aI x1)] [] M v M'
  refine e_iload_n dX0_isIn_0 rfl ?_
  refine e_iload_n dX0_isIn_1 rfl ?_
  refine e_callS (As := [aI x0]) (rest := [aI x1]) sk_X0_bit w607 ⟨by decide, by decide⟩ (Nat.le_of_ble_eq_true rfl) dX0_isIn_2 c1 ?_
  show E K_X0_isIn 5 [some (aI x0), some (aI x1)] [aI x101, aI x1] M1 v M'
  have hS_1 : St M1 := St.sh (M := M) c1.2.1 hS
  refine e_iand dX0_isIn_5 ?_
  refine e_if_eq (tgt := 13) dX0_isIn_6 rfl (fun g2 => ?_) (fun g2 => ?_)
  ·
    refine e_iconst (u := 0) dX0_isIn_13 (by decide) ?_
    exact e_zret rfl (Or.inl rfl) dX0_isIn_14 (k2 g2)
  ·
    refine e_iconst (u := 1) dX0_isIn_9 (by decide) ?_
    refine e_goto (tgt := 14) dX0_isIn_10 rfl ?_
    exact e_zret rfl (Or.inr rfl) dX0_isIn_14 (k3 g2)

set_option maxRecDepth 20000 in
theorem s_X1_stackOf_0 {M M' : AM} {v : Option AV} {m1 : Nat} (hS : St M) (h_m1 : Mt M m1)
    (k1 : E K_X1_stackOf 5 [some (aR (some 12)), some (aR (some m1)), some (aJ 0), none, some (aI 0)] [] M v M') :
    Ev K_X1_stackOf [aR (some 12), aR (some m1)] M v M' := by
  refine ⟨Nat.le_of_ble_eq_true rfl, ?_⟩
  show E K_X1_stackOf 0 [some (aR (some 12)), some (aR (some m1)), none, none, none] [] M v M'
  refine e_lconst (u := 0) dX1_stackOf_0 (by decide) ?_
  refine e_lstore_n dX1_stackOf_1 (Nat.le_of_ble_eq_true rfl) ?_
  show E K_X1_stackOf 2 [some (aR (some 12)), some (aR (some m1)), some (aJ 0), none, none] [] M v M'
  refine e_iconst (u := 0) dX1_stackOf_2 (by decide) ?_
  refine e_istore dX1_stackOf_3 (Nat.le_of_ble_eq_true rfl) ?_
  show E K_X1_stackOf 5 [some (aR (some 12)), some (aR (some m1)), some (aJ 0), none, some (aI 0)] [] M v M'
  exact k1

set_option maxRecDepth 20000 in
theorem s_X1_stackOf_5 {M M' : AM} {v : Option AV} {m1 : Nat} {x2 : Int64} {x4 : Int32} {M1 : AM} {x102 : Int32} {M2 : AM} {x104 : Int64} (hS : St M) (h_m1 : Mt M m1)
    (k1 : ∀ (g1 : (mI M m1 7) ≤ x4), some (aJ x2) = v ∧ M = M')
    (c2 : ∀ (g1 : ¬ ((mI M m1 7) ≤ x4)), Ev K_X4_isMet [aR (some m1), aI x4] M (some (aI x102)) M1)
    (k3 : ∀ (g1 : ¬ ((mI M m1 7) ≤ x4)) (g3 : x102 = 0), E K_X1_stackOf 5 [some (aR (some 12)), some (aR (some m1)), some (aJ x2), none, some (aI (x4 + 1))] [] M1 v M')
    (b4 : ∀ (g1 : ¬ ((mI M m1 7) ≤ x4)) (g3 : ¬ x102 = 0), vp_in x4 120)
    (c5 : ∀ (g1 : ¬ ((mI M m1 7) ≤ x4)) (g3 : ¬ x102 = 0), Ev K_X1_stackOfCall [aR (some 12), aR (some m1), aI x4] M1 (some (aJ x104)) M2)
    (k6 : ∀ (g1 : ¬ ((mI M m1 7) ≤ x4)) (g3 : ¬ x102 = 0), E K_X1_stackOf 5 [some (aR (some 12)), some (aR (some m1)), some (aJ (if x104 < if ((mI M1 m1 2) + (mI M1 (m1 + 4) x4.toNatClampNeg) : Int32).toInt64 < x2 then x2 else ((mI M1 m1 2) + (mI M1 (m1 + 4) x4.toNatClampNeg) : Int32).toInt64 then if ((mI M1 m1 2) + (mI M1 (m1 + 4) x4.toNatClampNeg) : Int32).toInt64 < x2 then x2 else ((mI M1 m1 2) + (mI M1 (m1 + 4) x4.toNatClampNeg) : Int32).toInt64 else x104)), none, some (aI (x4 + 1))] [] M2 v M') :
    E K_X1_stackOf 5 [some (aR (some 12)), some (aR (some m1)), some (aJ x2), none, some (aI x4)] [] M v M' := by
  refine e_iload dX1_stackOf_5 rfl ?_
  refine e_aload_n dX1_stackOf_7 rfl ?_
  refine e_getN ff_4_7 h_m1.l0 w382 dX1_stackOf_8 (w := aI (mI M m1 7)) rfl ?_
  refine e_icmp_ge (tgt := 59) dX1_stackOf_11 rfl (fun g1 => ?_) (fun g1 => ?_)
  ·
    refine e_lload_n dX1_stackOf_59 rfl ?_
    exact e_lret rfl dX1_stackOf_60 (k1 g1)
  ·
    refine e_aload_n dX1_stackOf_14 rfl ?_
    refine e_iload dX1_stackOf_15 rfl ?_
    refine e_callV (As := [aI x4]) (rest := []) vk_X4_isMet h_m1.l0 w629 ⟨by decide, by decide⟩ (Nat.le_of_ble_eq_true rfl) dX1_stackOf_17 (c2 g1) ?_
    show E K_X1_stackOf 20 [some (aR (some 12)), some (aR (some m1)), some (aJ x2), none, some (aI x4)] [aI x102] M1 v M'
    have hS_1 : St M1 := St.sh (M := M) (c2 g1).2.1 hS
    have h_m1_1 : Mt M1 m1 := Mt.sh (M := M) (c2 g1).2.1 h_m1
    refine e_if_eq (tgt := 53) dX1_stackOf_20 rfl (fun g3 => ?_) (fun g3 => ?_)
    ·
      refine e_iinc dX1_stackOf_53 rfl ?_
      show E K_X1_stackOf 56 [some (aR (some 12)), some (aR (some m1)), some (aJ x2), none, some (aI (x4 + 1))] [] M1 v M'
      refine e_goto (tgt := 5) dX1_stackOf_56 rfl ?_
      exact (k3 g1 g3)
    ·
      refine e_lload_n dX1_stackOf_23 rfl ?_
      refine e_aload_n dX1_stackOf_24 rfl ?_
      refine e_getN ff_4_2 h_m1_1.l0 w361 dX1_stackOf_25 (w := aI (mI M1 m1 2)) rfl ?_
      refine e_aload_n dX1_stackOf_28 rfl ?_
      refine e_getN ff_4_6 h_m1_1.l0 w379 dX1_stackOf_29 (w := aR (some (m1 + 4))) h_m1_1.f6 ?_
      refine e_iload dX1_stackOf_32 rfl ?_
      refine e_iald h_m1_1.l4 (h_m1_1.b4 (b4 g1 g3)) dX1_stackOf_34 ?_
      refine e_iadd dX1_stackOf_35 ?_
      refine e_i2l dX1_stackOf_36 ?_
      refine e_maxJ w630 (by decide) (Nat.le_of_ble_eq_true rfl) dX1_stackOf_37 ?_
      refine e_lstore_n dX1_stackOf_40 (Nat.le_of_ble_eq_true rfl) ?_
      show E K_X1_stackOf 41 [some (aR (some 12)), some (aR (some m1)), some (aJ (if ((mI M1 m1 2) + (mI M1 (m1 + 4) x4.toNatClampNeg) : Int32).toInt64 < x2 then x2 else ((mI M1 m1 2) + (mI M1 (m1 + 4) x4.toNatClampNeg) : Int32).toInt64)), none, some (aI x4)] [] M1 v M'
      refine e_lload_n dX1_stackOf_41 rfl ?_
      refine e_aload_n dX1_stackOf_42 rfl ?_
      refine e_aload_n dX1_stackOf_43 rfl ?_
      refine e_iload dX1_stackOf_44 rfl ?_
      refine e_callV (As := [aR (some m1), aI x4]) (rest := [aJ (if ((mI M1 m1 2) + (mI M1 (m1 + 4) x4.toNatClampNeg) : Int32).toInt64 < x2 then x2 else ((mI M1 m1 2) + (mI M1 (m1 + 4) x4.toNatClampNeg) : Int32).toInt64)]) vk_X1_stackOfCall hS_1.l12 w633 ⟨by decide, by decide⟩ (Nat.le_of_ble_eq_true rfl) dX1_stackOf_46 (c5 g1 g3) ?_
      show E K_X1_stackOf 49 [some (aR (some 12)), some (aR (some m1)), some (aJ (if ((mI M1 m1 2) + (mI M1 (m1 + 4) x4.toNatClampNeg) : Int32).toInt64 < x2 then x2 else ((mI M1 m1 2) + (mI M1 (m1 + 4) x4.toNatClampNeg) : Int32).toInt64)), none, some (aI x4)] [aJ x104, aJ (if ((mI M1 m1 2) + (mI M1 (m1 + 4) x4.toNatClampNeg) : Int32).toInt64 < x2 then x2 else ((mI M1 m1 2) + (mI M1 (m1 + 4) x4.toNatClampNeg) : Int32).toInt64)] M2 v M'
      have hS_2 : St M2 := St.sh (M := M1) (c5 g1 g3).2.1 hS_1
      have h_m1_1_2 : Mt M2 m1 := Mt.sh (M := M1) (c5 g1 g3).2.1 h_m1_1
      refine e_maxJ w630 (by decide) (Nat.le_of_ble_eq_true rfl) dX1_stackOf_49 ?_
      refine e_lstore_n dX1_stackOf_52 (Nat.le_of_ble_eq_true rfl) ?_
      show E K_X1_stackOf 53 [some (aR (some 12)), some (aR (some m1)), some (aJ (if x104 < if ((mI M1 m1 2) + (mI M1 (m1 + 4) x4.toNatClampNeg) : Int32).toInt64 < x2 then x2 else ((mI M1 m1 2) + (mI M1 (m1 + 4) x4.toNatClampNeg) : Int32).toInt64 then if ((mI M1 m1 2) + (mI M1 (m1 + 4) x4.toNatClampNeg) : Int32).toInt64 < x2 then x2 else ((mI M1 m1 2) + (mI M1 (m1 + 4) x4.toNatClampNeg) : Int32).toInt64 else x104)), none, some (aI x4)] [] M2 v M'
      refine e_iinc dX1_stackOf_53 rfl ?_
      show E K_X1_stackOf 56 [some (aR (some 12)), some (aR (some m1)), some (aJ (if x104 < if ((mI M1 m1 2) + (mI M1 (m1 + 4) x4.toNatClampNeg) : Int32).toInt64 < x2 then x2 else ((mI M1 m1 2) + (mI M1 (m1 + 4) x4.toNatClampNeg) : Int32).toInt64 then if ((mI M1 m1 2) + (mI M1 (m1 + 4) x4.toNatClampNeg) : Int32).toInt64 < x2 then x2 else ((mI M1 m1 2) + (mI M1 (m1 + 4) x4.toNatClampNeg) : Int32).toInt64 else x104)), none, some (aI (x4 + 1))] [] M2 v M'
      refine e_goto (tgt := 5) dX1_stackOf_56 rfl ?_
      exact (k6 g1 g3)

set_option maxRecDepth 20000 in
theorem s_X1_stackOfCall_0 {M M' : AM} {v : Option AV} {m1 : Nat} {x2 : Int32} {M1 : AM} {o102 : Option Nat} (hS : St M) (h_m1 : Mt M m1)
    (b1 : vp_in x2 120)
    (k2 : ∀ (g1 : ¬ (mI M (m1 + 1) x2.toNatClampNeg) = 16), some (aJ 0) = v ∧ M = M')
    (c3 : ∀ (g1 : (mI M (m1 + 1) x2.toNatClampNeg) = 16), Ev K_X5_find [aR (some 4), aJ (mJ M (m1 + 2) x2.toNatClampNeg)] M (some (aR o102)) M1)
    (h4 : ∀ (g1 : (mI M (m1 + 1) x2.toNatClampNeg) = 16) (r102 : Nat) (q102 : o102 = some r102), Mt M1 r102)
    (b5 : ∀ (g1 : (mI M (m1 + 1) x2.toNatClampNeg) = 16) (r102 : Nat) (q102 : o102 = some r102), vp_in ((mJ M1 (m1 + 2) x2.toNatClampNeg : Int64).toInt32) 32)
    (k6 : ∀ (g1 : (mI M (m1 + 1) x2.toNatClampNeg) = 16) (r102 : Nat) (q102 : o102 = some r102), some (aJ ((((((mI M1 m1 2) + (mI M1 (m1 + 4) x2.toNatClampNeg)) - (mI M1 r102 0)) + 2 : Int32).toInt64) + (mJ M1 13 ((mJ M1 (m1 + 2) x2.toNatClampNeg : Int64).toInt32).toNatClampNeg))) = v ∧ M1 = M')
    (k7 : ∀ (g1 : (mI M (m1 + 1) x2.toNatClampNeg) = 16) (q102 : o102 = none), some (aJ 0) = v ∧ M1 = M') :
    Ev K_X1_stackOfCall [aR (some 12), aR (some m1), aI x2] M v M' := by
  refine ⟨Nat.le_of_ble_eq_true rfl, ?_⟩
  show E K_X1_stackOfCall 0 [some (aR (some 12)), some (aR (some m1)), some (aI x2), none] [] M v M'
  refine e_aload_n dX1_stackOfCall_0 rfl ?_
  refine e_getN ff_4_3 h_m1.l0 w365 dX1_stackOfCall_1 (w := aR (some (m1 + 1))) h_m1.f3 ?_
  refine e_iload_n dX1_stackOfCall_4 rfl ?_
  refine e_iald h_m1.l1 (h_m1.b1 b1) dX1_stackOfCall_5 ?_
  refine e_bipush (u := 16) dX1_stackOfCall_6 (by decide) ?_
  refine e_icmp_ne (tgt := 27) dX1_stackOfCall_8 rfl (fun g1 => ?_) (fun g1 => ?_)
  ·
    refine e_null dX1_stackOfCall_27 ?_
    refine e_astore_n dX1_stackOfCall_28 (Nat.le_of_ble_eq_true rfl) ?_
    show E K_X1_stackOfCall 29 [some (aR (some 12)), some (aR (some m1)), some (aI x2), some (aR none)] [] M v M'
    refine e_aload_n dX1_stackOfCall_29 rfl ?_
    refine e_ifnonnull (tgt := 35) dX1_stackOfCall_30 rfl (fun z => ?_) (fun z => ?_)
    · exact absurd rfl z
    ·
      refine e_lconst (u := 0) dX1_stackOfCall_33 (by decide) ?_
      exact e_lret rfl dX1_stackOfCall_34 (k2 g1)
  ·
    refine e_aload_n dX1_stackOfCall_11 rfl ?_
    refine e_get ff_1_0 hS.l12 w144 dX1_stackOfCall_12 (w := aR (some 4)) hS.f12_0 ?_
    refine e_aload_n dX1_stackOfCall_15 rfl ?_
    refine e_getN ff_4_4 h_m1.l0 w370 dX1_stackOfCall_16 (w := aR (some (m1 + 2))) h_m1.f4 ?_
    refine e_iload_n dX1_stackOfCall_19 rfl ?_
    refine e_lald h_m1.l2 (h_m1.b2 b1) dX1_stackOfCall_20 ?_
    refine e_callV (As := [aJ (mJ M (m1 + 2) x2.toNatClampNeg)]) (rest := []) vk_X5_find hS.l4 w637 ⟨by decide, by decide⟩ (Nat.le_of_ble_eq_true rfl) dX1_stackOfCall_21 (c3 g1) ?_
    show E K_X1_stackOfCall 24 [some (aR (some 12)), some (aR (some m1)), some (aI x2), none] [aR o102] M1 v M'
    have hS_1 : St M1 := St.sh (M := M) (c3 g1).2.1 hS
    have h_m1_1 : Mt M1 m1 := Mt.sh (M := M) (c3 g1).2.1 h_m1
    refine e_goto (tgt := 28) dX1_stackOfCall_24 rfl ?_
    refine e_astore_n dX1_stackOfCall_28 (Nat.le_of_ble_eq_true rfl) ?_
    show E K_X1_stackOfCall 29 [some (aR (some 12)), some (aR (some m1)), some (aI x2), some (aR o102)] [] M1 v M'
    refine e_aload_n dX1_stackOfCall_29 rfl ?_
    refine e_ifnonnull (tgt := 35) dX1_stackOfCall_30 rfl (fun z => ?_) (fun z => ?_)
    ·
      obtain ⟨r102, q102⟩ : ∃ r, o102 = some r := by cases o102 with | none => exact absurd rfl z | some r => exact ⟨r, rfl⟩
      have h_r102 : Mt M1 r102 := (h4 g1 r102 q102)
      rw [q102]
      refine e_aload_n dX1_stackOfCall_35 rfl ?_
      refine e_getN ff_4_2 h_m1_1.l0 w361 dX1_stackOfCall_36 (w := aI (mI M1 m1 2)) rfl ?_
      refine e_aload_n dX1_stackOfCall_39 rfl ?_
      refine e_getN ff_4_6 h_m1_1.l0 w379 dX1_stackOfCall_40 (w := aR (some (m1 + 4))) h_m1_1.f6 ?_
      refine e_iload_n dX1_stackOfCall_43 rfl ?_
      refine e_iald h_m1_1.l4 (h_m1_1.b4 b1) dX1_stackOfCall_44 ?_
      refine e_iadd dX1_stackOfCall_45 ?_
      refine e_aload_n dX1_stackOfCall_46 rfl ?_
      refine e_getN ff_4_0 h_r102.l0 w354 dX1_stackOfCall_47 (w := aI (mI M1 r102 0)) rfl ?_
      refine e_isub dX1_stackOfCall_50 ?_
      refine e_iconst (u := 2) dX1_stackOfCall_51 (by decide) ?_
      refine e_iadd dX1_stackOfCall_52 ?_
      refine e_i2l dX1_stackOfCall_53 ?_
      refine e_aload_n dX1_stackOfCall_54 rfl ?_
      refine e_get ff_1_1 hS_1.l12 w145 dX1_stackOfCall_55 (w := aR (some 13)) hS_1.f12_1 ?_
      refine e_aload_n dX1_stackOfCall_58 rfl ?_
      refine e_getN ff_4_4 h_m1_1.l0 w370 dX1_stackOfCall_59 (w := aR (some (m1 + 2))) h_m1_1.f4 ?_
      refine e_iload_n dX1_stackOfCall_62 rfl ?_
      refine e_lald h_m1_1.l2 (h_m1_1.b2 b1) dX1_stackOfCall_63 ?_
      refine e_l2i dX1_stackOfCall_64 ?_
      refine e_lald hS_1.l13 (hS_1.b13 (b5 g1 r102 q102)) dX1_stackOfCall_65 ?_
      refine e_ladd dX1_stackOfCall_66 ?_
      exact e_lret rfl dX1_stackOfCall_67 (k6 g1 r102 q102)
    ·
      have q102 : o102 = none := z
      refine e_lconst (u := 0) dX1_stackOfCall_33 (by decide) ?_
      exact e_lret rfl dX1_stackOfCall_34 (k7 g1 q102)

set_option maxRecDepth 20000 in
theorem s_X1_timeOf_0 {M M' : AM} {v : Option AV} {m1 : Nat} (hS : St M) (h_m1 : Mt M m1)
    (b1 : vp_in (mI M m1 7) 121)
    (k2 : E K_X1_timeOf 31 [some (aR (some 12)), some (aR (some m1)), some (aI ((mI M m1 7) - 1))] [] (wrJ (wrJ M 15 (mI M m1 7).toNatClampNeg (-1)) 16 (mI M m1 7).toNatClampNeg (-1)) v M') :
    Ev K_X1_timeOf [aR (some 12), aR (some m1)] M v M' := by
  refine ⟨Nat.le_of_ble_eq_true rfl, ?_⟩
  show E K_X1_timeOf 0 [some (aR (some 12)), some (aR (some m1)), none] [] M v M'
  refine e_aload_n dX1_timeOf_0 rfl ?_
  refine e_get ff_1_3 hS.l12 w149 dX1_timeOf_1 (w := aR (some 15)) hS.f12_3 ?_
  refine e_aload_n dX1_timeOf_4 rfl ?_
  refine e_getN ff_4_7 h_m1.l0 w382 dX1_timeOf_5 (w := aI (mI M m1 7)) rfl ?_
  refine e_ldc2 dX1_timeOf_8 w642 ?_
  refine e_last hS.l15 (hS.b15 b1) dX1_timeOf_11 ?_
  refine e_aload_n dX1_timeOf_12 rfl ?_
  refine e_get ff_1_4 hS.l12 w150 dX1_timeOf_13 (w := aR (some 16)) hS.f12_4 ?_
  refine e_aload_n dX1_timeOf_16 rfl ?_
  refine e_getN ff_4_7 h_m1.l0 w382 dX1_timeOf_17 (w := aI (mI M m1 7)) rfl ?_
  refine e_ldc2 dX1_timeOf_20 w642 ?_
  refine e_last hS.l16 (hS.b16 b1) dX1_timeOf_23 ?_
  refine e_aload_n dX1_timeOf_24 rfl ?_
  refine e_getN ff_4_7 h_m1.l0 w382 dX1_timeOf_25 (w := aI (mI M m1 7)) rfl ?_
  refine e_iconst (u := 1) dX1_timeOf_28 (by decide) ?_
  refine e_isub dX1_timeOf_29 ?_
  refine e_istore_n dX1_timeOf_30 (Nat.le_of_ble_eq_true rfl) ?_
  show E K_X1_timeOf 31 [some (aR (some 12)), some (aR (some m1)), some (aI ((mI M m1 7) - 1))] [] (wrJ (wrJ M 15 (mI M m1 7).toNatClampNeg (-1)) 16 (mI M m1 7).toNatClampNeg (-1)) v M'
  exact k2

set_option maxRecDepth 20000 in
theorem s_X1_timeOf_31 {M M' : AM} {v : Option AV} {m1 : Nat} {x2 : Int32} {M1 : AM} {x102 : Int32} {M2 : AM} (hS : St M) (h_m1 : Mt M m1)
    (b1 : ∀ (g1 : x2 < 0), vp_in 0 121)
    (k2 : ∀ (g1 : x2 < 0), some (aJ (mJ M 16 (0 : Int32).toNatClampNeg)) = v ∧ M = M')
    (b3 : ∀ (g1 : ¬ (x2 < 0)), vp_in x2 121)
    (c4 : ∀ (g1 : ¬ (x2 < 0)), Ev K_X4_isMet [aR (some m1), aI x2] (wrJ (wrJ M 15 x2.toNatClampNeg (-1)) 16 x2.toNatClampNeg (-1)) (some (aI x102)) M1)
    (k5 : ∀ (g1 : ¬ (x2 < 0)) (g3 : x102 = 0), E K_X1_timeOf 31 [some (aR (some 12)), some (aR (some m1)), some (aI (x2 + (-1)))] [] M1 v M')
    (c6 : ∀ (g1 : ¬ (x2 < 0)) (g3 : ¬ x102 = 0), Ev K_X1_lengthen [aR (some 12), aR (some m1), aI x2] M1 (none) M2)
    (k7 : ∀ (g1 : ¬ (x2 < 0)) (g3 : ¬ x102 = 0), E K_X1_timeOf 31 [some (aR (some 12)), some (aR (some m1)), some (aI (x2 + (-1)))] [] M2 v M') :
    E K_X1_timeOf 31 [some (aR (some 12)), some (aR (some m1)), some (aI x2)] [] M v M' := by
  refine e_iload_n dX1_timeOf_31 rfl ?_
  refine e_if_lt (tgt := 73) dX1_timeOf_32 rfl (fun g1 => ?_) (fun g1 => ?_)
  ·
    refine e_aload_n dX1_timeOf_73 rfl ?_
    refine e_get ff_1_4 hS.l12 w150 dX1_timeOf_74 (w := aR (some 16)) hS.f12_4 ?_
    refine e_iconst (u := 0) dX1_timeOf_77 (by decide) ?_
    refine e_lald hS.l16 (hS.b16 (b1 g1)) dX1_timeOf_78 ?_
    exact e_lret rfl dX1_timeOf_79 (k2 g1)
  ·
    refine e_aload_n dX1_timeOf_35 rfl ?_
    refine e_get ff_1_3 hS.l12 w149 dX1_timeOf_36 (w := aR (some 15)) hS.f12_3 ?_
    refine e_iload_n dX1_timeOf_39 rfl ?_
    refine e_ldc2 dX1_timeOf_40 w642 ?_
    refine e_last hS.l15 (hS.b15 (b3 g1)) dX1_timeOf_43 ?_
    refine e_aload_n dX1_timeOf_44 rfl ?_
    refine e_get ff_1_4 hS.l12 w150 dX1_timeOf_45 (w := aR (some 16)) hS.f12_4 ?_
    refine e_iload_n dX1_timeOf_48 rfl ?_
    refine e_ldc2 dX1_timeOf_49 w642 ?_
    refine e_last hS.l16 (hS.b16 (b3 g1)) dX1_timeOf_52 ?_
    refine e_aload_n dX1_timeOf_53 rfl ?_
    refine e_iload_n dX1_timeOf_54 rfl ?_
    refine e_callV (As := [aI x2]) (rest := []) vk_X4_isMet h_m1.l0 w629 ⟨by decide, by decide⟩ (Nat.le_of_ble_eq_true rfl) dX1_timeOf_55 (c4 g1) ?_
    show E K_X1_timeOf 58 [some (aR (some 12)), some (aR (some m1)), some (aI x2)] [aI x102] M1 v M'
    have hS_1 : St M1 := St.sh (M := (wrJ (wrJ M 15 x2.toNatClampNeg (-1)) 16 x2.toNatClampNeg (-1))) (c4 g1).2.1 hS
    have h_m1_1 : Mt M1 m1 := Mt.sh (M := (wrJ (wrJ M 15 x2.toNatClampNeg (-1)) 16 x2.toNatClampNeg (-1))) (c4 g1).2.1 h_m1
    refine e_if_eq (tgt := 67) dX1_timeOf_58 rfl (fun g3 => ?_) (fun g3 => ?_)
    ·
      refine e_iinc dX1_timeOf_67 rfl ?_
      show E K_X1_timeOf 70 [some (aR (some 12)), some (aR (some m1)), some (aI (x2 + (-1)))] [] M1 v M'
      refine e_goto (tgt := 31) dX1_timeOf_70 rfl ?_
      exact (k5 g1 g3)
    ·
      refine e_aload_n dX1_timeOf_61 rfl ?_
      refine e_aload_n dX1_timeOf_62 rfl ?_
      refine e_iload_n dX1_timeOf_63 rfl ?_
      refine e_callV (As := [aR (some m1), aI x2]) (rest := []) vk_X1_lengthen hS_1.l12 w643 ⟨by decide, by decide⟩ (Nat.le_of_ble_eq_true rfl) dX1_timeOf_64 (c6 g1 g3) ?_
      show E K_X1_timeOf 67 [some (aR (some 12)), some (aR (some m1)), some (aI x2)] [] M2 v M'
      have hS_2 : St M2 := St.sh (M := M1) (c6 g1 g3).2.1 hS_1
      have h_m1_1_2 : Mt M2 m1 := Mt.sh (M := M1) (c6 g1 g3).2.1 h_m1_1
      refine e_iinc dX1_timeOf_67 rfl ?_
      show E K_X1_timeOf 70 [some (aR (some 12)), some (aR (some m1)), some (aI (x2 + (-1)))] [] M2 v M'
      refine e_goto (tgt := 31) dX1_timeOf_70 rfl ?_
      exact (k7 g1 g3)

set_option maxRecDepth 20000 in
theorem s_X1_lengthen_0 {M M' : AM} {v : Option AV} {m1 : Nat} {x2 : Int32} {M1 : AM} {x101 : Int32} {M2 : AM} {M3 : AM} {M4 : AM} {M5 : AM} {M6 : AM} {M7 : AM} {x108 : Int64} {M8 : AM} {x109 : Int64} {M9 : AM} {M10 : AM} (hS : St M) (h_m1 : Mt M m1)
    (b1 : vp_in x2 120)
    (c2 : Ev K_X5_costOf [aR (some 4), aI (mI M (m1 + 1) x2.toNatClampNeg)] M (some (aI x101)) M1)
    (c3 : ∀ (g2 : (mI M1 (m1 + 1) x2.toNatClampNeg) = 12), Ev K_X1_goTo [aR (some 12), aI x2, aJ ((x101 : Int32).toInt64), aI ((mJ M1 (m1 + 2) x2.toNatClampNeg : Int64).toInt32)] M1 (none) M2)
    (k4 : ∀ (g2 : (mI M1 (m1 + 1) x2.toNatClampNeg) = 12), none = v ∧ M2 = M')
    (c5 : ∀ (g2 : ¬ ((mI M1 (m1 + 1) x2.toNatClampNeg) = 12)) (g3 : (mI M1 (m1 + 1) x2.toNatClampNeg) = 13), Ev K_X1_goTo [aR (some 12), aI x2, aJ ((x101 : Int32).toInt64), aI (x2 + 1)] M1 (none) M3)
    (c6 : ∀ (g2 : ¬ ((mI M1 (m1 + 1) x2.toNatClampNeg) = 12)) (g3 : (mI M1 (m1 + 1) x2.toNatClampNeg) = 13), Ev K_X1_goTo [aR (some 12), aI x2, aJ ((x101 : Int32).toInt64), aI ((mJ M3 (m1 + 2) x2.toNatClampNeg : Int64).toInt32)] M3 (none) M4)
    (k7 : ∀ (g2 : ¬ ((mI M1 (m1 + 1) x2.toNatClampNeg) = 12)) (g3 : (mI M1 (m1 + 1) x2.toNatClampNeg) = 13), none = v ∧ M4 = M')
    (c8 : ∀ (g2 : ¬ ((mI M1 (m1 + 1) x2.toNatClampNeg) = 12)) (g3 : ¬ ((mI M1 (m1 + 1) x2.toNatClampNeg) = 13)) (g4 : (mI M1 (m1 + 1) x2.toNatClampNeg) = 14) (g5 : ¬ (0 < (mJ M1 (m1 + 2) x2.toNatClampNeg))), Ev K_X1_goTo [aR (some 12), aI x2, aJ ((x101 : Int32).toInt64), aI ((mI M1 (m1 + 3) x2.toNatClampNeg) + 1)] M1 (none) M5)
    (k9 : ∀ (g2 : ¬ ((mI M1 (m1 + 1) x2.toNatClampNeg) = 12)) (g3 : ¬ ((mI M1 (m1 + 1) x2.toNatClampNeg) = 13)) (g4 : (mI M1 (m1 + 1) x2.toNatClampNeg) = 14) (g5 : ¬ (0 < (mJ M1 (m1 + 2) x2.toNatClampNeg))), none = v ∧ M5 = M')
    (c10 : ∀ (g2 : ¬ ((mI M1 (m1 + 1) x2.toNatClampNeg) = 12)) (g3 : ¬ ((mI M1 (m1 + 1) x2.toNatClampNeg) = 13)) (g4 : (mI M1 (m1 + 1) x2.toNatClampNeg) = 14) (g5 : 0 < (mJ M1 (m1 + 2) x2.toNatClampNeg)), Ev K_X1_goThrough [aR (some 12), aR (some m1), aI x2, aJ ((x101 : Int32).toInt64)] M1 (none) M6)
    (k11 : ∀ (g2 : ¬ ((mI M1 (m1 + 1) x2.toNatClampNeg) = 12)) (g3 : ¬ ((mI M1 (m1 + 1) x2.toNatClampNeg) = 13)) (g4 : (mI M1 (m1 + 1) x2.toNatClampNeg) = 14) (g5 : 0 < (mJ M1 (m1 + 2) x2.toNatClampNeg)), none = v ∧ M6 = M')
    (b12 : ∀ (g2 : ¬ ((mI M1 (m1 + 1) x2.toNatClampNeg) = 12)) (g3 : ¬ ((mI M1 (m1 + 1) x2.toNatClampNeg) = 13)) (g4 : ¬ ((mI M1 (m1 + 1) x2.toNatClampNeg) = 14)) (g6 : (mI M1 (m1 + 1) x2.toNatClampNeg) = 15), vp_in x2 121)
    (k13 : ∀ (g2 : ¬ ((mI M1 (m1 + 1) x2.toNatClampNeg) = 12)) (g3 : ¬ ((mI M1 (m1 + 1) x2.toNatClampNeg) = 13)) (g4 : ¬ ((mI M1 (m1 + 1) x2.toNatClampNeg) = 14)) (g6 : (mI M1 (m1 + 1) x2.toNatClampNeg) = 15), none = v ∧ (wrJ M1 15 x2.toNatClampNeg ((x101 : Int32).toInt64)) = M')
    (c14 : ∀ (g2 : ¬ ((mI M1 (m1 + 1) x2.toNatClampNeg) = 12)) (g3 : ¬ ((mI M1 (m1 + 1) x2.toNatClampNeg) = 13)) (g4 : ¬ ((mI M1 (m1 + 1) x2.toNatClampNeg) = 14)) (g6 : ¬ ((mI M1 (m1 + 1) x2.toNatClampNeg) = 15)) (g7 : (mI M1 (m1 + 1) x2.toNatClampNeg) = 16), Ev K_X1_timeOfCall [aR (some 12), aR (some m1), aI x2] M1 (some (aJ x108)) M7)
    (c15 : ∀ (g2 : ¬ ((mI M1 (m1 + 1) x2.toNatClampNeg) = 12)) (g3 : ¬ ((mI M1 (m1 + 1) x2.toNatClampNeg) = 13)) (g4 : ¬ ((mI M1 (m1 + 1) x2.toNatClampNeg) = 14)) (g6 : ¬ ((mI M1 (m1 + 1) x2.toNatClampNeg) = 15)) (g7 : (mI M1 (m1 + 1) x2.toNatClampNeg) = 16), Ev K_X1_plus [aJ ((x101 : Int32).toInt64), aJ x108] M7 (some (aJ x109)) M8)
    (c16 : ∀ (g2 : ¬ ((mI M1 (m1 + 1) x2.toNatClampNeg) = 12)) (g3 : ¬ ((mI M1 (m1 + 1) x2.toNatClampNeg) = 13)) (g4 : ¬ ((mI M1 (m1 + 1) x2.toNatClampNeg) = 14)) (g6 : ¬ ((mI M1 (m1 + 1) x2.toNatClampNeg) = 15)) (g7 : (mI M1 (m1 + 1) x2.toNatClampNeg) = 16), Ev K_X1_goTo [aR (some 12), aI x2, aJ x109, aI (x2 + 1)] M8 (none) M9)
    (k17 : ∀ (g2 : ¬ ((mI M1 (m1 + 1) x2.toNatClampNeg) = 12)) (g3 : ¬ ((mI M1 (m1 + 1) x2.toNatClampNeg) = 13)) (g4 : ¬ ((mI M1 (m1 + 1) x2.toNatClampNeg) = 14)) (g6 : ¬ ((mI M1 (m1 + 1) x2.toNatClampNeg) = 15)) (g7 : (mI M1 (m1 + 1) x2.toNatClampNeg) = 16), none = v ∧ M9 = M')
    (b18 : ∀ (g2 : ¬ ((mI M1 (m1 + 1) x2.toNatClampNeg) = 12)) (g3 : ¬ ((mI M1 (m1 + 1) x2.toNatClampNeg) = 13)) (g4 : ¬ ((mI M1 (m1 + 1) x2.toNatClampNeg) = 14)) (g6 : ¬ ((mI M1 (m1 + 1) x2.toNatClampNeg) = 15)) (g7 : ¬ ((mI M1 (m1 + 1) x2.toNatClampNeg) = 16)) (g10 : (mI M1 (m1 + 1) x2.toNatClampNeg) = 17), vp_in x2 121)
    (k19 : ∀ (g2 : ¬ ((mI M1 (m1 + 1) x2.toNatClampNeg) = 12)) (g3 : ¬ ((mI M1 (m1 + 1) x2.toNatClampNeg) = 13)) (g4 : ¬ ((mI M1 (m1 + 1) x2.toNatClampNeg) = 14)) (g6 : ¬ ((mI M1 (m1 + 1) x2.toNatClampNeg) = 15)) (g7 : ¬ ((mI M1 (m1 + 1) x2.toNatClampNeg) = 16)) (g10 : (mI M1 (m1 + 1) x2.toNatClampNeg) = 17), none = v ∧ (wrJ M1 16 x2.toNatClampNeg ((x101 : Int32).toInt64)) = M')
    (c20 : ∀ (g2 : ¬ ((mI M1 (m1 + 1) x2.toNatClampNeg) = 12)) (g3 : ¬ ((mI M1 (m1 + 1) x2.toNatClampNeg) = 13)) (g4 : ¬ ((mI M1 (m1 + 1) x2.toNatClampNeg) = 14)) (g6 : ¬ ((mI M1 (m1 + 1) x2.toNatClampNeg) = 15)) (g7 : ¬ ((mI M1 (m1 + 1) x2.toNatClampNeg) = 16)) (g10 : ¬ ((mI M1 (m1 + 1) x2.toNatClampNeg) = 17)), Ev K_X1_goTo [aR (some 12), aI x2, aJ ((x101 : Int32).toInt64), aI (x2 + 1)] M1 (none) M10)
    (k21 : ∀ (g2 : ¬ ((mI M1 (m1 + 1) x2.toNatClampNeg) = 12)) (g3 : ¬ ((mI M1 (m1 + 1) x2.toNatClampNeg) = 13)) (g4 : ¬ ((mI M1 (m1 + 1) x2.toNatClampNeg) = 14)) (g6 : ¬ ((mI M1 (m1 + 1) x2.toNatClampNeg) = 15)) (g7 : ¬ ((mI M1 (m1 + 1) x2.toNatClampNeg) = 16)) (g10 : ¬ ((mI M1 (m1 + 1) x2.toNatClampNeg) = 17)), none = v ∧ M10 = M') :
    Ev K_X1_lengthen [aR (some 12), aR (some m1), aI x2] M v M' := by
  refine ⟨Nat.le_of_ble_eq_true rfl, ?_⟩
  show E K_X1_lengthen 0 [some (aR (some 12)), some (aR (some m1)), some (aI x2), none, none] [] M v M'
  refine e_aload_n dX1_lengthen_0 rfl ?_
  refine e_get ff_1_0 hS.l12 w144 dX1_lengthen_1 (w := aR (some 4)) hS.f12_0 ?_
  refine e_aload_n dX1_lengthen_4 rfl ?_
  refine e_getN ff_4_3 h_m1.l0 w365 dX1_lengthen_5 (w := aR (some (m1 + 1))) h_m1.f3 ?_
  refine e_iload_n dX1_lengthen_8 rfl ?_
  refine e_iald h_m1.l1 (h_m1.b1 b1) dX1_lengthen_9 ?_
  refine e_callV (As := [aI (mI M (m1 + 1) x2.toNatClampNeg)]) (rest := []) vk_X5_costOf hS.l4 w647 ⟨by decide, by decide⟩ (Nat.le_of_ble_eq_true rfl) dX1_lengthen_10 c2 ?_
  show E K_X1_lengthen 13 [some (aR (some 12)), some (aR (some m1)), some (aI x2), none, none] [aI x101] M1 v M'
  have hS_1 : St M1 := St.sh (M := M) c2.2.1 hS
  have h_m1_1 : Mt M1 m1 := Mt.sh (M := M) c2.2.1 h_m1
  refine e_i2l dX1_lengthen_13 ?_
  refine e_lstore_n dX1_lengthen_14 (Nat.le_of_ble_eq_true rfl) ?_
  show E K_X1_lengthen 15 [some (aR (some 12)), some (aR (some m1)), some (aI x2), some (aJ ((x101 : Int32).toInt64)), none] [] M1 v M'
  refine e_aload_n dX1_lengthen_15 rfl ?_
  refine e_getN ff_4_3 h_m1_1.l0 w365 dX1_lengthen_16 (w := aR (some (m1 + 1))) h_m1_1.f3 ?_
  refine e_iload_n dX1_lengthen_19 rfl ?_
  refine e_iald h_m1_1.l1 (h_m1_1.b1 b1) dX1_lengthen_20 ?_
  refine e_tsw (d := 180) (tg := [80, 96, 121, 70, 159, 60]) dX1_lengthen_21 rfl rfl rfl ?_
  by_cases g2 : (mI M1 (m1 + 1) x2.toNatClampNeg) = 12
  · have e9 : tsw 12 [80, 96, 121, 70, 159, 60] 180 (mI M1 (m1 + 1) x2.toNatClampNeg) = 80 := by rw [g2]; rfl
    rw [e9]
    refine e_aload_n dX1_lengthen_80 rfl ?_
    refine e_iload_n dX1_lengthen_81 rfl ?_
    refine e_lload_n dX1_lengthen_82 rfl ?_
    refine e_aload_n dX1_lengthen_83 rfl ?_
    refine e_getN ff_4_4 h_m1_1.l0 w370 dX1_lengthen_84 (w := aR (some (m1 + 2))) h_m1_1.f4 ?_
    refine e_iload_n dX1_lengthen_87 rfl ?_
    refine e_lald h_m1_1.l2 (h_m1_1.b2 b1) dX1_lengthen_88 ?_
    refine e_l2i dX1_lengthen_89 ?_
    refine e_callV (As := [aI x2, aJ ((x101 : Int32).toInt64), aI ((mJ M1 (m1 + 2) x2.toNatClampNeg : Int64).toInt32)]) (rest := []) vk_X1_goTo hS_1.l12 w648 ⟨by decide, by decide⟩ (Nat.le_of_ble_eq_true rfl) dX1_lengthen_90 (c3 g2) ?_
    show E K_X1_lengthen 93 [some (aR (some 12)), some (aR (some m1)), some (aI x2), some (aJ ((x101 : Int32).toInt64)), none] [] M2 v M'
    have hS_2 : St M2 := St.sh (M := M1) (c3 g2).2.1 hS_1
    have h_m1_1_2 : Mt M2 m1 := Mt.sh (M := M1) (c3 g2).2.1 h_m1_1
    refine e_goto (tgt := 189) dX1_lengthen_93 rfl ?_
    exact e_vret rfl dX1_lengthen_189 (k4 g2)
  by_cases g3 : (mI M1 (m1 + 1) x2.toNatClampNeg) = 13
  · have e9 : tsw 12 [80, 96, 121, 70, 159, 60] 180 (mI M1 (m1 + 1) x2.toNatClampNeg) = 96 := by rw [g3]; rfl
    rw [e9]
    refine e_aload_n dX1_lengthen_96 rfl ?_
    refine e_iload_n dX1_lengthen_97 rfl ?_
    refine e_lload_n dX1_lengthen_98 rfl ?_
    refine e_iload_n dX1_lengthen_99 rfl ?_
    refine e_iconst (u := 1) dX1_lengthen_100 (by decide) ?_
    refine e_iadd dX1_lengthen_101 ?_
    refine e_callV (As := [aI x2, aJ ((x101 : Int32).toInt64), aI (x2 + 1)]) (rest := []) vk_X1_goTo hS_1.l12 w648 ⟨by decide, by decide⟩ (Nat.le_of_ble_eq_true rfl) dX1_lengthen_102 (c5 g2 g3) ?_
    show E K_X1_lengthen 105 [some (aR (some 12)), some (aR (some m1)), some (aI x2), some (aJ ((x101 : Int32).toInt64)), none] [] M3 v M'
    have hS_3 : St M3 := St.sh (M := M1) (c5 g2 g3).2.1 hS_1
    have h_m1_1_3 : Mt M3 m1 := Mt.sh (M := M1) (c5 g2 g3).2.1 h_m1_1
    refine e_aload_n dX1_lengthen_105 rfl ?_
    refine e_iload_n dX1_lengthen_106 rfl ?_
    refine e_lload_n dX1_lengthen_107 rfl ?_
    refine e_aload_n dX1_lengthen_108 rfl ?_
    refine e_getN ff_4_4 h_m1_1_3.l0 w370 dX1_lengthen_109 (w := aR (some (m1 + 2))) h_m1_1_3.f4 ?_
    refine e_iload_n dX1_lengthen_112 rfl ?_
    refine e_lald h_m1_1_3.l2 (h_m1_1_3.b2 b1) dX1_lengthen_113 ?_
    refine e_l2i dX1_lengthen_114 ?_
    refine e_callV (As := [aI x2, aJ ((x101 : Int32).toInt64), aI ((mJ M3 (m1 + 2) x2.toNatClampNeg : Int64).toInt32)]) (rest := []) vk_X1_goTo hS_3.l12 w648 ⟨by decide, by decide⟩ (Nat.le_of_ble_eq_true rfl) dX1_lengthen_115 (c6 g2 g3) ?_
    show E K_X1_lengthen 118 [some (aR (some 12)), some (aR (some m1)), some (aI x2), some (aJ ((x101 : Int32).toInt64)), none] [] M4 v M'
    have hS_4 : St M4 := St.sh (M := M3) (c6 g2 g3).2.1 hS_3
    have h_m1_1_3_4 : Mt M4 m1 := Mt.sh (M := M3) (c6 g2 g3).2.1 h_m1_1_3
    refine e_goto (tgt := 189) dX1_lengthen_118 rfl ?_
    exact e_vret rfl dX1_lengthen_189 (k7 g2 g3)
  by_cases g4 : (mI M1 (m1 + 1) x2.toNatClampNeg) = 14
  · have e9 : tsw 12 [80, 96, 121, 70, 159, 60] 180 (mI M1 (m1 + 1) x2.toNatClampNeg) = 121 := by rw [g4]; rfl
    rw [e9]
    refine e_aload_n dX1_lengthen_121 rfl ?_
    refine e_getN ff_4_4 h_m1_1.l0 w370 dX1_lengthen_122 (w := aR (some (m1 + 2))) h_m1_1.f4 ?_
    refine e_iload_n dX1_lengthen_125 rfl ?_
    refine e_lald h_m1_1.l2 (h_m1_1.b2 b1) dX1_lengthen_126 ?_
    refine e_lconst (u := 0) dX1_lengthen_127 (by decide) ?_
    refine e_lcmp_le (tgt := 142) dX1_lengthen_128 dX1_lengthen_129 rfl (fun g5 => ?_) (fun g5 => ?_)
    ·
      refine e_aload_n dX1_lengthen_142 rfl ?_
      refine e_iload_n dX1_lengthen_143 rfl ?_
      refine e_lload_n dX1_lengthen_144 rfl ?_
      refine e_aload_n dX1_lengthen_145 rfl ?_
      refine e_getN ff_4_5 h_m1_1.l0 w376 dX1_lengthen_146 (w := aR (some (m1 + 3))) h_m1_1.f5 ?_
      refine e_iload_n dX1_lengthen_149 rfl ?_
      refine e_iald h_m1_1.l3 (h_m1_1.b3 b1) dX1_lengthen_150 ?_
      refine e_iconst (u := 1) dX1_lengthen_151 (by decide) ?_
      refine e_iadd dX1_lengthen_152 ?_
      refine e_callV (As := [aI x2, aJ ((x101 : Int32).toInt64), aI ((mI M1 (m1 + 3) x2.toNatClampNeg) + 1)]) (rest := []) vk_X1_goTo hS_1.l12 w648 ⟨by decide, by decide⟩ (Nat.le_of_ble_eq_true rfl) dX1_lengthen_153 (c8 g2 g3 g4 g5) ?_
      show E K_X1_lengthen 156 [some (aR (some 12)), some (aR (some m1)), some (aI x2), some (aJ ((x101 : Int32).toInt64)), none] [] M5 v M'
      have hS_5 : St M5 := St.sh (M := M1) (c8 g2 g3 g4 g5).2.1 hS_1
      have h_m1_1_5 : Mt M5 m1 := Mt.sh (M := M1) (c8 g2 g3 g4 g5).2.1 h_m1_1
      refine e_goto (tgt := 189) dX1_lengthen_156 rfl ?_
      exact e_vret rfl dX1_lengthen_189 (k9 g2 g3 g4 g5)
    ·
      refine e_aload_n dX1_lengthen_132 rfl ?_
      refine e_aload_n dX1_lengthen_133 rfl ?_
      refine e_iload_n dX1_lengthen_134 rfl ?_
      refine e_lload_n dX1_lengthen_135 rfl ?_
      refine e_callV (As := [aR (some m1), aI x2, aJ ((x101 : Int32).toInt64)]) (rest := []) vk_X1_goThrough hS_1.l12 w659 ⟨by decide, by decide⟩ (Nat.le_of_ble_eq_true rfl) dX1_lengthen_136 (c10 g2 g3 g4 g5) ?_
      show E K_X1_lengthen 139 [some (aR (some 12)), some (aR (some m1)), some (aI x2), some (aJ ((x101 : Int32).toInt64)), none] [] M6 v M'
      have hS_6 : St M6 := St.sh (M := M1) (c10 g2 g3 g4 g5).2.1 hS_1
      have h_m1_1_6 : Mt M6 m1 := Mt.sh (M := M1) (c10 g2 g3 g4 g5).2.1 h_m1_1
      refine e_goto (tgt := 189) dX1_lengthen_139 rfl ?_
      exact e_vret rfl dX1_lengthen_189 (k11 g2 g3 g4 g5)
  by_cases g6 : (mI M1 (m1 + 1) x2.toNatClampNeg) = 15
  · have e9 : tsw 12 [80, 96, 121, 70, 159, 60] 180 (mI M1 (m1 + 1) x2.toNatClampNeg) = 70 := by rw [g6]; rfl
    rw [e9]
    refine e_aload_n dX1_lengthen_70 rfl ?_
    refine e_get ff_1_3 hS_1.l12 w149 dX1_lengthen_71 (w := aR (some 15)) hS_1.f12_3 ?_
    refine e_iload_n dX1_lengthen_74 rfl ?_
    refine e_lload_n dX1_lengthen_75 rfl ?_
    refine e_last hS_1.l15 (hS_1.b15 (b12 g2 g3 g4 g6)) dX1_lengthen_76 ?_
    refine e_goto (tgt := 189) dX1_lengthen_77 rfl ?_
    exact e_vret rfl dX1_lengthen_189 (k13 g2 g3 g4 g6)
  by_cases g7 : (mI M1 (m1 + 1) x2.toNatClampNeg) = 16
  · have e9 : tsw 12 [80, 96, 121, 70, 159, 60] 180 (mI M1 (m1 + 1) x2.toNatClampNeg) = 159 := by rw [g7]; rfl
    rw [e9]
    refine e_aload_n dX1_lengthen_159 rfl ?_
    refine e_iload_n dX1_lengthen_160 rfl ?_
    refine e_lload_n dX1_lengthen_161 rfl ?_
    refine e_aload_n dX1_lengthen_162 rfl ?_
    refine e_aload_n dX1_lengthen_163 rfl ?_
    refine e_iload_n dX1_lengthen_164 rfl ?_
    refine e_callV (As := [aR (some m1), aI x2]) (rest := [aJ ((x101 : Int32).toInt64), aI x2, aR (some 12)]) vk_X1_timeOfCall hS_1.l12 w667 ⟨by decide, by decide⟩ (Nat.le_of_ble_eq_true rfl) dX1_lengthen_165 (c14 g2 g3 g4 g6 g7) ?_
    show E K_X1_lengthen 168 [some (aR (some 12)), some (aR (some m1)), some (aI x2), some (aJ ((x101 : Int32).toInt64)), none] [aJ x108, aJ ((x101 : Int32).toInt64), aI x2, aR (some 12)] M7 v M'
    have hS_7 : St M7 := St.sh (M := M1) (c14 g2 g3 g4 g6 g7).2.1 hS_1
    have h_m1_1_7 : Mt M7 m1 := Mt.sh (M := M1) (c14 g2 g3 g4 g6 g7).2.1 h_m1_1
    refine e_callS (As := [aJ ((x101 : Int32).toInt64), aJ x108]) (rest := [aI x2, aR (some 12)]) sk_X1_plus w652 ⟨by decide, by decide⟩ (Nat.le_of_ble_eq_true rfl) dX1_lengthen_168 (c15 g2 g3 g4 g6 g7) ?_
    show E K_X1_lengthen 171 [some (aR (some 12)), some (aR (some m1)), some (aI x2), some (aJ ((x101 : Int32).toInt64)), none] [aJ x109, aI x2, aR (some 12)] M8 v M'
    have hS_8 : St M8 := St.sh (M := M7) (c15 g2 g3 g4 g6 g7).2.1 hS_7
    have h_m1_1_7_8 : Mt M8 m1 := Mt.sh (M := M7) (c15 g2 g3 g4 g6 g7).2.1 h_m1_1_7
    refine e_iload_n dX1_lengthen_171 rfl ?_
    refine e_iconst (u := 1) dX1_lengthen_172 (by decide) ?_
    refine e_iadd dX1_lengthen_173 ?_
    refine e_callV (As := [aI x2, aJ x109, aI (x2 + 1)]) (rest := []) vk_X1_goTo hS_8.l12 w648 ⟨by decide, by decide⟩ (Nat.le_of_ble_eq_true rfl) dX1_lengthen_174 (c16 g2 g3 g4 g6 g7) ?_
    show E K_X1_lengthen 177 [some (aR (some 12)), some (aR (some m1)), some (aI x2), some (aJ ((x101 : Int32).toInt64)), none] [] M9 v M'
    have hS_9 : St M9 := St.sh (M := M8) (c16 g2 g3 g4 g6 g7).2.1 hS_8
    have h_m1_1_7_8_9 : Mt M9 m1 := Mt.sh (M := M8) (c16 g2 g3 g4 g6 g7).2.1 h_m1_1_7_8
    refine e_goto (tgt := 189) dX1_lengthen_177 rfl ?_
    exact e_vret rfl dX1_lengthen_189 (k17 g2 g3 g4 g6 g7)
  by_cases g10 : (mI M1 (m1 + 1) x2.toNatClampNeg) = 17
  · have e9 : tsw 12 [80, 96, 121, 70, 159, 60] 180 (mI M1 (m1 + 1) x2.toNatClampNeg) = 60 := by rw [g10]; rfl
    rw [e9]
    refine e_aload_n dX1_lengthen_60 rfl ?_
    refine e_get ff_1_4 hS_1.l12 w150 dX1_lengthen_61 (w := aR (some 16)) hS_1.f12_4 ?_
    refine e_iload_n dX1_lengthen_64 rfl ?_
    refine e_lload_n dX1_lengthen_65 rfl ?_
    refine e_last hS_1.l16 (hS_1.b16 (b18 g2 g3 g4 g6 g7 g10)) dX1_lengthen_66 ?_
    refine e_goto (tgt := 189) dX1_lengthen_67 rfl ?_
    exact e_vret rfl dX1_lengthen_189 (k19 g2 g3 g4 g6 g7 g10)
  have e9 : tsw 12 [80, 96, 121, 70, 159, 60] 180 (mI M1 (m1 + 1) x2.toNatClampNeg) = 180 := tsw_out [12, 13, 14, 15, 16, 17] (by decide) (by
      simp only [List.mem_cons, List.not_mem_nil, or_false, forall_eq_or_imp, forall_eq]
      skip
      exact ⟨g2, g3, g4, g6, g7, g10⟩)
  rw [e9]
  refine e_aload_n dX1_lengthen_180 rfl ?_
  refine e_iload_n dX1_lengthen_181 rfl ?_
  refine e_lload_n dX1_lengthen_182 rfl ?_
  refine e_iload_n dX1_lengthen_183 rfl ?_
  refine e_iconst (u := 1) dX1_lengthen_184 (by decide) ?_
  refine e_iadd dX1_lengthen_185 ?_
  refine e_callV (As := [aI x2, aJ ((x101 : Int32).toInt64), aI (x2 + 1)]) (rest := []) vk_X1_goTo hS_1.l12 w648 ⟨by decide, by decide⟩ (Nat.le_of_ble_eq_true rfl) dX1_lengthen_186 (c20 g2 g3 g4 g6 g7 g10) ?_
  show E K_X1_lengthen 189 [some (aR (some 12)), some (aR (some m1)), some (aI x2), some (aJ ((x101 : Int32).toInt64)), none] [] M10 v M'
  have hS_10 : St M10 := St.sh (M := M1) (c20 g2 g3 g4 g6 g7 g10).2.1 hS_1
  have h_m1_1_10 : Mt M10 m1 := Mt.sh (M := M1) (c20 g2 g3 g4 g6 g7 g10).2.1 h_m1_1
  exact e_vret rfl dX1_lengthen_189 (k21 g2 g3 g4 g6 g7 g10)

set_option maxRecDepth 20000 in
theorem s_X1_timeOfCall_0 {M M' : AM} {v : Option AV} {m1 : Nat} {x2 : Int32} {M1 : AM} {o101 : Option Nat} (hS : St M) (h_m1 : Mt M m1)
    (b1 : vp_in x2 120)
    (c2 : Ev K_X5_find [aR (some 4), aJ (mJ M (m1 + 2) x2.toNatClampNeg)] M (some (aR o101)) M1)
    (h3 : ∀ (r101 : Nat) (q101 : o101 = some r101), Mt M1 r101)
    (b4 : ∀ (r101 : Nat) (q101 : o101 = some r101), vp_in ((mJ M1 (m1 + 2) x2.toNatClampNeg : Int64).toInt32) 32)
    (k5 : ∀ (r101 : Nat) (q101 : o101 = some r101), some (aJ (mJ M1 14 ((mJ M1 (m1 + 2) x2.toNatClampNeg : Int64).toInt32).toNatClampNeg)) = v ∧ M1 = M')
    (k6 : ∀ (q101 : o101 = none), some (aJ 0) = v ∧ M1 = M') :
    Ev K_X1_timeOfCall [aR (some 12), aR (some m1), aI x2] M v M' := by
  refine ⟨Nat.le_of_ble_eq_true rfl, ?_⟩
  show E K_X1_timeOfCall 0 [some (aR (some 12)), some (aR (some m1)), some (aI x2)] [] M v M'
  refine e_aload_n dX1_timeOfCall_0 rfl ?_
  refine e_get ff_1_0 hS.l12 w144 dX1_timeOfCall_1 (w := aR (some 4)) hS.f12_0 ?_
  refine e_aload_n dX1_timeOfCall_4 rfl ?_
  refine e_getN ff_4_4 h_m1.l0 w370 dX1_timeOfCall_5 (w := aR (some (m1 + 2))) h_m1.f4 ?_
  refine e_iload_n dX1_timeOfCall_8 rfl ?_
  refine e_lald h_m1.l2 (h_m1.b2 b1) dX1_timeOfCall_9 ?_
  refine e_callV (As := [aJ (mJ M (m1 + 2) x2.toNatClampNeg)]) (rest := []) vk_X5_find hS.l4 w637 ⟨by decide, by decide⟩ (Nat.le_of_ble_eq_true rfl) dX1_timeOfCall_10 c2 ?_
  show E K_X1_timeOfCall 13 [some (aR (some 12)), some (aR (some m1)), some (aI x2)] [aR o101] M1 v M'
  have hS_1 : St M1 := St.sh (M := M) c2.2.1 hS
  have h_m1_1 : Mt M1 m1 := Mt.sh (M := M) c2.2.1 h_m1
  refine e_ifnonnull (tgt := 20) dX1_timeOfCall_13 rfl (fun z => ?_) (fun z => ?_)
  ·
    obtain ⟨r101, q101⟩ : ∃ r, o101 = some r := by cases o101 with | none => exact absurd rfl z | some r => exact ⟨r, rfl⟩
    have h_r101 : Mt M1 r101 := (h3 r101 q101)
    skip
    refine e_aload_n dX1_timeOfCall_20 rfl ?_
    refine e_get ff_1_2 hS_1.l12 w147 dX1_timeOfCall_21 (w := aR (some 14)) hS_1.f12_2 ?_
    refine e_aload_n dX1_timeOfCall_24 rfl ?_
    refine e_getN ff_4_4 h_m1_1.l0 w370 dX1_timeOfCall_25 (w := aR (some (m1 + 2))) h_m1_1.f4 ?_
    refine e_iload_n dX1_timeOfCall_28 rfl ?_
    refine e_lald h_m1_1.l2 (h_m1_1.b2 b1) dX1_timeOfCall_29 ?_
    refine e_l2i dX1_timeOfCall_30 ?_
    refine e_lald hS_1.l14 (hS_1.b14 (b4 r101 q101)) dX1_timeOfCall_31 ?_
    exact e_lret rfl dX1_timeOfCall_32 (k5 r101 q101)
  ·
    have q101 : o101 = none := z
    refine e_lconst (u := 0) dX1_timeOfCall_16 (by decide) ?_
    refine e_goto (tgt := 32) dX1_timeOfCall_17 rfl ?_
    exact e_lret rfl dX1_timeOfCall_32 (k6 q101)

set_option maxRecDepth 20000 in
theorem s_X1_goTo_0 {M M' : AM} {v : Option AV} {x1 : Int32} {x2 : Int64} {x4 : Int32} {M1 : AM} {x101 : Int64} {M2 : AM} {x102 : Int64} {M3 : AM} {x103 : Int64} {M4 : AM} {x104 : Int64} (hS : St M)
    (b1 : vp_in x1 121)
    (b2 : vp_in x4 121)
    (c3 : Ev K_X1_plus [aJ x2, aJ (mJ M 15 x4.toNatClampNeg)] M (some (aJ x101)) M1)
    (c4 : Ev K_X1_greater [aJ (mJ M 15 x1.toNatClampNeg), aJ x101] M1 (some (aJ x102)) M2)
    (c5 : Ev K_X1_plus [aJ x2, aJ (mJ M2 16 x4.toNatClampNeg)] (wrJ M2 15 x1.toNatClampNeg x102) (some (aJ x103)) M3)
    (c6 : Ev K_X1_greater [aJ (mJ M2 16 x1.toNatClampNeg), aJ x103] M3 (some (aJ x104)) M4)
    (k7 : none = v ∧ (wrJ M4 16 x1.toNatClampNeg x104) = M') :
    Ev K_X1_goTo [aR (some 12), aI x1, aJ x2, aI x4] M v M' := by
  refine ⟨Nat.le_of_ble_eq_true rfl, ?_⟩
  show E K_X1_goTo 0 [some (aR (some 12)), some (aI x1), some (aJ x2), none, some (aI x4)] [] M v M'
  refine e_aload_n dX1_goTo_0 rfl ?_
  refine e_get ff_1_3 hS.l12 w149 dX1_goTo_1 (w := aR (some 15)) hS.f12_3 ?_
  refine e_iload_n dX1_goTo_4 rfl ?_
  refine e_aload_n dX1_goTo_5 rfl ?_
  refine e_get ff_1_3 hS.l12 w149 dX1_goTo_6 (w := aR (some 15)) hS.f12_3 ?_
  refine e_iload_n dX1_goTo_9 rfl ?_
  refine e_lald hS.l15 (hS.b15 b1) dX1_goTo_10 ?_
  refine e_lload_n dX1_goTo_11 rfl ?_
  refine e_aload_n dX1_goTo_12 rfl ?_
  refine e_get ff_1_3 hS.l12 w149 dX1_goTo_13 (w := aR (some 15)) hS.f12_3 ?_
  refine e_iload dX1_goTo_16 rfl ?_
  refine e_lald hS.l15 (hS.b15 b2) dX1_goTo_18 ?_
  refine e_callS (As := [aJ x2, aJ (mJ M 15 x4.toNatClampNeg)]) (rest := [aJ (mJ M 15 x1.toNatClampNeg), aI x1, aR (some 15)]) sk_X1_plus w652 ⟨by decide, by decide⟩ (Nat.le_of_ble_eq_true rfl) dX1_goTo_19 c3 ?_
  show E K_X1_goTo 22 [some (aR (some 12)), some (aI x1), some (aJ x2), none, some (aI x4)] [aJ x101, aJ (mJ M 15 x1.toNatClampNeg), aI x1, aR (some 15)] M1 v M'
  have hS_1 : St M1 := St.sh (M := M) c3.2.1 hS
  refine e_callS (As := [aJ (mJ M 15 x1.toNatClampNeg), aJ x101]) (rest := [aI x1, aR (some 15)]) sk_X1_greater w656 ⟨by decide, by decide⟩ (Nat.le_of_ble_eq_true rfl) dX1_goTo_22 c4 ?_
  show E K_X1_goTo 25 [some (aR (some 12)), some (aI x1), some (aJ x2), none, some (aI x4)] [aJ x102, aI x1, aR (some 15)] M2 v M'
  have hS_2 : St M2 := St.sh (M := M1) c4.2.1 hS_1
  refine e_last hS_2.l15 (hS_2.b15 b1) dX1_goTo_25 ?_
  refine e_aload_n dX1_goTo_26 rfl ?_
  refine e_get ff_1_4 hS_2.l12 w150 dX1_goTo_27 (w := aR (some 16)) hS_2.f12_4 ?_
  refine e_iload_n dX1_goTo_30 rfl ?_
  refine e_aload_n dX1_goTo_31 rfl ?_
  refine e_get ff_1_4 hS_2.l12 w150 dX1_goTo_32 (w := aR (some 16)) hS_2.f12_4 ?_
  refine e_iload_n dX1_goTo_35 rfl ?_
  refine e_lald hS_2.l16 (hS_2.b16 b1) dX1_goTo_36 ?_
  show E K_X1_goTo 37 [some (aR (some 12)), some (aI x1), some (aJ x2), none, some (aI x4)] [aJ (mJ M2 16 x1.toNatClampNeg), aI x1, aR (some 16)] (wrJ M2 15 x1.toNatClampNeg x102) v M'
  refine e_lload_n dX1_goTo_37 rfl ?_
  refine e_aload_n dX1_goTo_38 rfl ?_
  refine e_get ff_1_4 hS_2.l12 w150 dX1_goTo_39 (w := aR (some 16)) hS_2.f12_4 ?_
  refine e_iload dX1_goTo_42 rfl ?_
  refine e_lald hS_2.l16 (hS_2.b16 b2) dX1_goTo_44 ?_
  show E K_X1_goTo 45 [some (aR (some 12)), some (aI x1), some (aJ x2), none, some (aI x4)] [aJ (mJ M2 16 x4.toNatClampNeg), aJ x2, aJ (mJ M2 16 x1.toNatClampNeg), aI x1, aR (some 16)] (wrJ M2 15 x1.toNatClampNeg x102) v M'
  refine e_callS (As := [aJ x2, aJ (mJ M2 16 x4.toNatClampNeg)]) (rest := [aJ (mJ M2 16 x1.toNatClampNeg), aI x1, aR (some 16)]) sk_X1_plus w652 ⟨by decide, by decide⟩ (Nat.le_of_ble_eq_true rfl) dX1_goTo_45 c5 ?_
  show E K_X1_goTo 48 [some (aR (some 12)), some (aI x1), some (aJ x2), none, some (aI x4)] [aJ x103, aJ (mJ M2 16 x1.toNatClampNeg), aI x1, aR (some 16)] M3 v M'
  have hS_3 : St M3 := St.sh (M := (wrJ M2 15 x1.toNatClampNeg x102)) c5.2.1 hS_2
  refine e_callS (As := [aJ (mJ M2 16 x1.toNatClampNeg), aJ x103]) (rest := [aI x1, aR (some 16)]) sk_X1_greater w656 ⟨by decide, by decide⟩ (Nat.le_of_ble_eq_true rfl) dX1_goTo_48 c6 ?_
  show E K_X1_goTo 51 [some (aR (some 12)), some (aI x1), some (aJ x2), none, some (aI x4)] [aJ x104, aI x1, aR (some 16)] M4 v M'
  have hS_4 : St M4 := St.sh (M := M3) c6.2.1 hS_3
  refine e_last hS_4.l16 (hS_4.b16 b1) dX1_goTo_51 ?_
  exact e_vret rfl dX1_goTo_52 k7

set_option maxRecDepth 20000 in
theorem s_X1_goThrough_0 {M M' : AM} {v : Option AV} {m1 : Nat} {x2 : Int32} {x3 : Int64} {M1 : AM} {x101 : Int64} {M2 : AM} {x102 : Int64} {M3 : AM} {x104 : Int64} {M4 : AM} {x105 : Int64} {M5 : AM} {x106 : Int64} {M6 : AM} {x107 : Int64} {M7 : AM} {x108 : Int64} {M8 : AM} {x109 : Int64} {M9 : AM} {x110 : Int64} {M10 : AM} {x111 : Int64} {M11 : AM} {x112 : Int64} {M12 : AM} {x113 : Int64} (hS : St M) (h_m1 : Mt M m1)
    (b1 : vp_in (x2 + 1) 121)
    (b2 : vp_in x2 120)
    (c3 : Ev K_X1_repeated [aJ (mJ M 15 (x2 + 1).toNatClampNeg), aJ (mJ M (m1 + 2) x2.toNatClampNeg)] M (some (aJ x101)) M1)
    (c4 : Ev K_X1_plus [aJ x3, aJ x101] M1 (some (aJ x102)) M2)
    (c5 : ∀ (g3 : ¬ ((mJ M 15 (x2 + 1).toNatClampNeg) = (-1))), Ev K_X1_repeated [aJ (mJ M 15 (x2 + 1).toNatClampNeg), aJ ((mJ M2 (m1 + 2) x2.toNatClampNeg) - 1)] M2 (some (aJ x104)) M3)
    (c6 : ∀ (g3 : ¬ ((mJ M 15 (x2 + 1).toNatClampNeg) = (-1))), Ev K_X1_plus [aJ x3, aJ x104] M3 (some (aJ x105)) M4)
    (b7 : ∀ (g3 : ¬ ((mJ M 15 (x2 + 1).toNatClampNeg) = (-1))), vp_in ((mI M (m1 + 3) x2.toNatClampNeg) + 1) 121)
    (c8 : ∀ (g3 : ¬ ((mJ M 15 (x2 + 1).toNatClampNeg) = (-1))), Ev K_X1_plus [aJ x102, aJ (mJ M4 15 ((mI M (m1 + 3) x2.toNatClampNeg) + 1).toNatClampNeg)] M4 (some (aJ x106)) M5)
    (b9 : ∀ (g3 : ¬ ((mJ M 15 (x2 + 1).toNatClampNeg) = (-1))), vp_in x2 121)
    (c10 : ∀ (g3 : ¬ ((mJ M 15 (x2 + 1).toNatClampNeg) = (-1))), Ev K_X1_plus [aJ x102, aJ (mJ M5 16 ((mI M (m1 + 3) x2.toNatClampNeg) + 1).toNatClampNeg)] (wrJ M5 15 x2.toNatClampNeg x106) (some (aJ x107)) M6)
    (c11 : ∀ (g3 : ¬ ((mJ M 15 (x2 + 1).toNatClampNeg) = (-1))), Ev K_X1_plus [aJ x105, aJ (mJ M6 16 (x2 + 1).toNatClampNeg)] M6 (some (aJ x108)) M7)
    (c12 : ∀ (g3 : ¬ ((mJ M 15 (x2 + 1).toNatClampNeg) = (-1))), Ev K_X1_greater [aJ x107, aJ x108] M7 (some (aJ x109)) M8)
    (k13 : ∀ (g3 : ¬ ((mJ M 15 (x2 + 1).toNatClampNeg) = (-1))), none = v ∧ (wrJ M8 16 x2.toNatClampNeg x109) = M')
    (b14 : ∀ (g3 : (mJ M 15 (x2 + 1).toNatClampNeg) = (-1)), vp_in ((mI M (m1 + 3) x2.toNatClampNeg) + 1) 121)
    (c15 : ∀ (g3 : (mJ M 15 (x2 + 1).toNatClampNeg) = (-1)), Ev K_X1_plus [aJ x102, aJ (mJ M2 15 ((mI M (m1 + 3) x2.toNatClampNeg) + 1).toNatClampNeg)] M2 (some (aJ x110)) M9)
    (b16 : ∀ (g3 : (mJ M 15 (x2 + 1).toNatClampNeg) = (-1)), vp_in x2 121)
    (c17 : ∀ (g3 : (mJ M 15 (x2 + 1).toNatClampNeg) = (-1)), Ev K_X1_plus [aJ x102, aJ (mJ M9 16 ((mI M (m1 + 3) x2.toNatClampNeg) + 1).toNatClampNeg)] (wrJ M9 15 x2.toNatClampNeg x110) (some (aJ x111)) M10)
    (c18 : ∀ (g3 : (mJ M 15 (x2 + 1).toNatClampNeg) = (-1)), Ev K_X1_plus [aJ x3, aJ (mJ M10 16 (x2 + 1).toNatClampNeg)] M10 (some (aJ x112)) M11)
    (c19 : ∀ (g3 : (mJ M 15 (x2 + 1).toNatClampNeg) = (-1)), Ev K_X1_greater [aJ x111, aJ x112] M11 (some (aJ x113)) M12)
    (k20 : ∀ (g3 : (mJ M 15 (x2 + 1).toNatClampNeg) = (-1)), none = v ∧ (wrJ M12 16 x2.toNatClampNeg x113) = M') :
    Ev K_X1_goThrough [aR (some 12), aR (some m1), aI x2, aJ x3] M v M' := by
  refine ⟨Nat.le_of_ble_eq_true rfl, ?_⟩
  show E K_X1_goThrough 0 [some (aR (some 12)), some (aR (some m1)), some (aI x2), some (aJ x3), none, none, none, none, none, none, none, none] [] M v M'
  refine e_aload_n dX1_goThrough_0 rfl ?_
  refine e_get ff_1_3 hS.l12 w149 dX1_goThrough_1 (w := aR (some 15)) hS.f12_3 ?_
  refine e_iload_n dX1_goThrough_4 rfl ?_
  refine e_iconst (u := 1) dX1_goThrough_5 (by decide) ?_
  refine e_iadd dX1_goThrough_6 ?_
  refine e_lald hS.l15 (hS.b15 b1) dX1_goThrough_7 ?_
  refine e_lstore dX1_goThrough_8 (Nat.le_of_ble_eq_true rfl) ?_
  show E K_X1_goThrough 10 [some (aR (some 12)), some (aR (some m1)), some (aI x2), some (aJ x3), none, some (aJ (mJ M 15 (x2 + 1).toNatClampNeg)), none, none, none, none, none, none] [] M v M'
  refine e_aload_n dX1_goThrough_10 rfl ?_
  refine e_getN ff_4_5 h_m1.l0 w376 dX1_goThrough_11 (w := aR (some (m1 + 3))) h_m1.f5 ?_
  refine e_iload_n dX1_goThrough_14 rfl ?_
  refine e_iald h_m1.l3 (h_m1.b3 b2) dX1_goThrough_15 ?_
  refine e_iconst (u := 1) dX1_goThrough_16 (by decide) ?_
  refine e_iadd dX1_goThrough_17 ?_
  refine e_istore dX1_goThrough_18 (Nat.le_of_ble_eq_true rfl) ?_
  show E K_X1_goThrough 20 [some (aR (some 12)), some (aR (some m1)), some (aI x2), some (aJ x3), none, some (aJ (mJ M 15 (x2 + 1).toNatClampNeg)), none, some (aI ((mI M (m1 + 3) x2.toNatClampNeg) + 1)), none, none, none, none] [] M v M'
  refine e_lload_n dX1_goThrough_20 rfl ?_
  refine e_lload dX1_goThrough_21 rfl ?_
  refine e_aload_n dX1_goThrough_23 rfl ?_
  refine e_getN ff_4_4 h_m1.l0 w370 dX1_goThrough_24 (w := aR (some (m1 + 2))) h_m1.f4 ?_
  refine e_iload_n dX1_goThrough_27 rfl ?_
  refine e_lald h_m1.l2 (h_m1.b2 b2) dX1_goThrough_28 ?_
  refine e_callS (As := [aJ (mJ M 15 (x2 + 1).toNatClampNeg), aJ (mJ M (m1 + 2) x2.toNatClampNeg)]) (rest := [aJ x3]) sk_X1_repeated w663 ⟨by decide, by decide⟩ (Nat.le_of_ble_eq_true rfl) dX1_goThrough_29 c3 ?_
  show E K_X1_goThrough 32 [some (aR (some 12)), some (aR (some m1)), some (aI x2), some (aJ x3), none, some (aJ (mJ M 15 (x2 + 1).toNatClampNeg)), none, some (aI ((mI M (m1 + 3) x2.toNatClampNeg) + 1)), none, none, none, none] [aJ x101, aJ x3] M1 v M'
  have hS_1 : St M1 := St.sh (M := M) c3.2.1 hS
  have h_m1_1 : Mt M1 m1 := Mt.sh (M := M) c3.2.1 h_m1
  refine e_callS (As := [aJ x3, aJ x101]) (rest := []) sk_X1_plus w652 ⟨by decide, by decide⟩ (Nat.le_of_ble_eq_true rfl) dX1_goThrough_32 c4 ?_
  show E K_X1_goThrough 35 [some (aR (some 12)), some (aR (some m1)), some (aI x2), some (aJ x3), none, some (aJ (mJ M 15 (x2 + 1).toNatClampNeg)), none, some (aI ((mI M (m1 + 3) x2.toNatClampNeg) + 1)), none, none, none, none] [aJ x102] M2 v M'
  have hS_2 : St M2 := St.sh (M := M1) c4.2.1 hS_1
  have h_m1_1_2 : Mt M2 m1 := Mt.sh (M := M1) c4.2.1 h_m1_1
  refine e_lstore dX1_goThrough_35 (Nat.le_of_ble_eq_true rfl) ?_
  show E K_X1_goThrough 37 [some (aR (some 12)), some (aR (some m1)), some (aI x2), some (aJ x3), none, some (aJ (mJ M 15 (x2 + 1).toNatClampNeg)), none, some (aI ((mI M (m1 + 3) x2.toNatClampNeg) + 1)), some (aJ x102), none, none, none] [] M2 v M'
  refine e_lload dX1_goThrough_37 rfl ?_
  refine e_ldc2 dX1_goThrough_39 w642 ?_
  refine e_lcmp_ne (tgt := 50) dX1_goThrough_42 dX1_goThrough_43 rfl (fun g3 => ?_) (fun g3 => ?_)
  ·
    refine e_lload_n dX1_goThrough_50 rfl ?_
    refine e_lload dX1_goThrough_51 rfl ?_
    refine e_aload_n dX1_goThrough_53 rfl ?_
    refine e_getN ff_4_4 h_m1_1_2.l0 w370 dX1_goThrough_54 (w := aR (some (m1 + 2))) h_m1_1_2.f4 ?_
    refine e_iload_n dX1_goThrough_57 rfl ?_
    refine e_lald h_m1_1_2.l2 (h_m1_1_2.b2 b2) dX1_goThrough_58 ?_
    refine e_lconst (u := 1) dX1_goThrough_59 (by decide) ?_
    refine e_lsub dX1_goThrough_60 ?_
    refine e_callS (As := [aJ (mJ M 15 (x2 + 1).toNatClampNeg), aJ ((mJ M2 (m1 + 2) x2.toNatClampNeg) - 1)]) (rest := [aJ x3]) sk_X1_repeated w663 ⟨by decide, by decide⟩ (Nat.le_of_ble_eq_true rfl) dX1_goThrough_61 (c5 g3) ?_
    show E K_X1_goThrough 64 [some (aR (some 12)), some (aR (some m1)), some (aI x2), some (aJ x3), none, some (aJ (mJ M 15 (x2 + 1).toNatClampNeg)), none, some (aI ((mI M (m1 + 3) x2.toNatClampNeg) + 1)), some (aJ x102), none, none, none] [aJ x104, aJ x3] M3 v M'
    have hS_3 : St M3 := St.sh (M := M2) (c5 g3).2.1 hS_2
    have h_m1_1_2_3 : Mt M3 m1 := Mt.sh (M := M2) (c5 g3).2.1 h_m1_1_2
    refine e_callS (As := [aJ x3, aJ x104]) (rest := []) sk_X1_plus w652 ⟨by decide, by decide⟩ (Nat.le_of_ble_eq_true rfl) dX1_goThrough_64 (c6 g3) ?_
    show E K_X1_goThrough 67 [some (aR (some 12)), some (aR (some m1)), some (aI x2), some (aJ x3), none, some (aJ (mJ M 15 (x2 + 1).toNatClampNeg)), none, some (aI ((mI M (m1 + 3) x2.toNatClampNeg) + 1)), some (aJ x102), none, none, none] [aJ x105] M4 v M'
    have hS_4 : St M4 := St.sh (M := M3) (c6 g3).2.1 hS_3
    have h_m1_1_2_3_4 : Mt M4 m1 := Mt.sh (M := M3) (c6 g3).2.1 h_m1_1_2_3
    refine e_lstore dX1_goThrough_67 (Nat.le_of_ble_eq_true rfl) ?_
    show E K_X1_goThrough 69 [some (aR (some 12)), some (aR (some m1)), some (aI x2), some (aJ x3), none, some (aJ (mJ M 15 (x2 + 1).toNatClampNeg)), none, some (aI ((mI M (m1 + 3) x2.toNatClampNeg) + 1)), some (aJ x102), none, some (aJ x105), none] [] M4 v M'
    refine e_aload_n dX1_goThrough_69 rfl ?_
    refine e_get ff_1_3 hS_4.l12 w149 dX1_goThrough_70 (w := aR (some 15)) hS_4.f12_3 ?_
    refine e_iload_n dX1_goThrough_73 rfl ?_
    refine e_lload dX1_goThrough_74 rfl ?_
    refine e_aload_n dX1_goThrough_76 rfl ?_
    refine e_get ff_1_3 hS_4.l12 w149 dX1_goThrough_77 (w := aR (some 15)) hS_4.f12_3 ?_
    refine e_iload dX1_goThrough_80 rfl ?_
    refine e_lald hS_4.l15 (hS_4.b15 (b7 g3)) dX1_goThrough_82 ?_
    refine e_callS (As := [aJ x102, aJ (mJ M4 15 ((mI M (m1 + 3) x2.toNatClampNeg) + 1).toNatClampNeg)]) (rest := [aI x2, aR (some 15)]) sk_X1_plus w652 ⟨by decide, by decide⟩ (Nat.le_of_ble_eq_true rfl) dX1_goThrough_83 (c8 g3) ?_
    show E K_X1_goThrough 86 [some (aR (some 12)), some (aR (some m1)), some (aI x2), some (aJ x3), none, some (aJ (mJ M 15 (x2 + 1).toNatClampNeg)), none, some (aI ((mI M (m1 + 3) x2.toNatClampNeg) + 1)), some (aJ x102), none, some (aJ x105), none] [aJ x106, aI x2, aR (some 15)] M5 v M'
    have hS_5 : St M5 := St.sh (M := M4) (c8 g3).2.1 hS_4
    have h_m1_1_2_3_4_5 : Mt M5 m1 := Mt.sh (M := M4) (c8 g3).2.1 h_m1_1_2_3_4
    refine e_last hS_5.l15 (hS_5.b15 (b9 g3)) dX1_goThrough_86 ?_
    refine e_aload_n dX1_goThrough_87 rfl ?_
    refine e_get ff_1_4 hS_5.l12 w150 dX1_goThrough_88 (w := aR (some 16)) hS_5.f12_4 ?_
    refine e_iload_n dX1_goThrough_91 rfl ?_
    refine e_lload dX1_goThrough_92 rfl ?_
    refine e_aload_n dX1_goThrough_94 rfl ?_
    refine e_get ff_1_4 hS_5.l12 w150 dX1_goThrough_95 (w := aR (some 16)) hS_5.f12_4 ?_
    refine e_iload dX1_goThrough_98 rfl ?_
    refine e_lald hS_5.l16 (hS_5.b16 (b7 g3)) dX1_goThrough_100 ?_
    show E K_X1_goThrough 101 [some (aR (some 12)), some (aR (some m1)), some (aI x2), some (aJ x3), none, some (aJ (mJ M 15 (x2 + 1).toNatClampNeg)), none, some (aI ((mI M (m1 + 3) x2.toNatClampNeg) + 1)), some (aJ x102), none, some (aJ x105), none] [aJ (mJ M5 16 ((mI M (m1 + 3) x2.toNatClampNeg) + 1).toNatClampNeg), aJ x102, aI x2, aR (some 16)] (wrJ M5 15 x2.toNatClampNeg x106) v M'
    refine e_callS (As := [aJ x102, aJ (mJ M5 16 ((mI M (m1 + 3) x2.toNatClampNeg) + 1).toNatClampNeg)]) (rest := [aI x2, aR (some 16)]) sk_X1_plus w652 ⟨by decide, by decide⟩ (Nat.le_of_ble_eq_true rfl) dX1_goThrough_101 (c10 g3) ?_
    show E K_X1_goThrough 104 [some (aR (some 12)), some (aR (some m1)), some (aI x2), some (aJ x3), none, some (aJ (mJ M 15 (x2 + 1).toNatClampNeg)), none, some (aI ((mI M (m1 + 3) x2.toNatClampNeg) + 1)), some (aJ x102), none, some (aJ x105), none] [aJ x107, aI x2, aR (some 16)] M6 v M'
    have hS_6 : St M6 := St.sh (M := (wrJ M5 15 x2.toNatClampNeg x106)) (c10 g3).2.1 hS_5
    have h_m1_1_2_3_4_5_6 : Mt M6 m1 := Mt.sh (M := (wrJ M5 15 x2.toNatClampNeg x106)) (c10 g3).2.1 h_m1_1_2_3_4_5
    refine e_lload dX1_goThrough_104 rfl ?_
    refine e_aload_n dX1_goThrough_106 rfl ?_
    refine e_get ff_1_4 hS_6.l12 w150 dX1_goThrough_107 (w := aR (some 16)) hS_6.f12_4 ?_
    refine e_iload_n dX1_goThrough_110 rfl ?_
    refine e_iconst (u := 1) dX1_goThrough_111 (by decide) ?_
    refine e_iadd dX1_goThrough_112 ?_
    refine e_lald hS_6.l16 (hS_6.b16 b1) dX1_goThrough_113 ?_
    refine e_callS (As := [aJ x105, aJ (mJ M6 16 (x2 + 1).toNatClampNeg)]) (rest := [aJ x107, aI x2, aR (some 16)]) sk_X1_plus w652 ⟨by decide, by decide⟩ (Nat.le_of_ble_eq_true rfl) dX1_goThrough_114 (c11 g3) ?_
    show E K_X1_goThrough 117 [some (aR (some 12)), some (aR (some m1)), some (aI x2), some (aJ x3), none, some (aJ (mJ M 15 (x2 + 1).toNatClampNeg)), none, some (aI ((mI M (m1 + 3) x2.toNatClampNeg) + 1)), some (aJ x102), none, some (aJ x105), none] [aJ x108, aJ x107, aI x2, aR (some 16)] M7 v M'
    have hS_7 : St M7 := St.sh (M := M6) (c11 g3).2.1 hS_6
    have h_m1_1_2_3_4_5_6_7 : Mt M7 m1 := Mt.sh (M := M6) (c11 g3).2.1 h_m1_1_2_3_4_5_6
    refine e_callS (As := [aJ x107, aJ x108]) (rest := [aI x2, aR (some 16)]) sk_X1_greater w656 ⟨by decide, by decide⟩ (Nat.le_of_ble_eq_true rfl) dX1_goThrough_117 (c12 g3) ?_
    show E K_X1_goThrough 120 [some (aR (some 12)), some (aR (some m1)), some (aI x2), some (aJ x3), none, some (aJ (mJ M 15 (x2 + 1).toNatClampNeg)), none, some (aI ((mI M (m1 + 3) x2.toNatClampNeg) + 1)), some (aJ x102), none, some (aJ x105), none] [aJ x109, aI x2, aR (some 16)] M8 v M'
    have hS_8 : St M8 := St.sh (M := M7) (c12 g3).2.1 hS_7
    have h_m1_1_2_3_4_5_6_7_8 : Mt M8 m1 := Mt.sh (M := M7) (c12 g3).2.1 h_m1_1_2_3_4_5_6_7
    refine e_last hS_8.l16 (hS_8.b16 (b9 g3)) dX1_goThrough_120 ?_
    exact e_vret rfl dX1_goThrough_121 (k13 g3)
  ·
    refine e_lload_n dX1_goThrough_46 rfl ?_
    refine e_goto (tgt := 67) dX1_goThrough_47 rfl ?_
    refine e_lstore dX1_goThrough_67 (Nat.le_of_ble_eq_true rfl) ?_
    show E K_X1_goThrough 69 [some (aR (some 12)), some (aR (some m1)), some (aI x2), some (aJ x3), none, some (aJ (mJ M 15 (x2 + 1).toNatClampNeg)), none, some (aI ((mI M (m1 + 3) x2.toNatClampNeg) + 1)), some (aJ x102), none, some (aJ x3), none] [] M2 v M'
    refine e_aload_n dX1_goThrough_69 rfl ?_
    refine e_get ff_1_3 hS_2.l12 w149 dX1_goThrough_70 (w := aR (some 15)) hS_2.f12_3 ?_
    refine e_iload_n dX1_goThrough_73 rfl ?_
    refine e_lload dX1_goThrough_74 rfl ?_
    refine e_aload_n dX1_goThrough_76 rfl ?_
    refine e_get ff_1_3 hS_2.l12 w149 dX1_goThrough_77 (w := aR (some 15)) hS_2.f12_3 ?_
    refine e_iload dX1_goThrough_80 rfl ?_
    refine e_lald hS_2.l15 (hS_2.b15 (b14 g3)) dX1_goThrough_82 ?_
    refine e_callS (As := [aJ x102, aJ (mJ M2 15 ((mI M (m1 + 3) x2.toNatClampNeg) + 1).toNatClampNeg)]) (rest := [aI x2, aR (some 15)]) sk_X1_plus w652 ⟨by decide, by decide⟩ (Nat.le_of_ble_eq_true rfl) dX1_goThrough_83 (c15 g3) ?_
    show E K_X1_goThrough 86 [some (aR (some 12)), some (aR (some m1)), some (aI x2), some (aJ x3), none, some (aJ (mJ M 15 (x2 + 1).toNatClampNeg)), none, some (aI ((mI M (m1 + 3) x2.toNatClampNeg) + 1)), some (aJ x102), none, some (aJ x3), none] [aJ x110, aI x2, aR (some 15)] M9 v M'
    have hS_9 : St M9 := St.sh (M := M2) (c15 g3).2.1 hS_2
    have h_m1_1_2_9 : Mt M9 m1 := Mt.sh (M := M2) (c15 g3).2.1 h_m1_1_2
    refine e_last hS_9.l15 (hS_9.b15 (b16 g3)) dX1_goThrough_86 ?_
    refine e_aload_n dX1_goThrough_87 rfl ?_
    refine e_get ff_1_4 hS_9.l12 w150 dX1_goThrough_88 (w := aR (some 16)) hS_9.f12_4 ?_
    refine e_iload_n dX1_goThrough_91 rfl ?_
    refine e_lload dX1_goThrough_92 rfl ?_
    refine e_aload_n dX1_goThrough_94 rfl ?_
    refine e_get ff_1_4 hS_9.l12 w150 dX1_goThrough_95 (w := aR (some 16)) hS_9.f12_4 ?_
    refine e_iload dX1_goThrough_98 rfl ?_
    refine e_lald hS_9.l16 (hS_9.b16 (b14 g3)) dX1_goThrough_100 ?_
    show E K_X1_goThrough 101 [some (aR (some 12)), some (aR (some m1)), some (aI x2), some (aJ x3), none, some (aJ (mJ M 15 (x2 + 1).toNatClampNeg)), none, some (aI ((mI M (m1 + 3) x2.toNatClampNeg) + 1)), some (aJ x102), none, some (aJ x3), none] [aJ (mJ M9 16 ((mI M (m1 + 3) x2.toNatClampNeg) + 1).toNatClampNeg), aJ x102, aI x2, aR (some 16)] (wrJ M9 15 x2.toNatClampNeg x110) v M'
    refine e_callS (As := [aJ x102, aJ (mJ M9 16 ((mI M (m1 + 3) x2.toNatClampNeg) + 1).toNatClampNeg)]) (rest := [aI x2, aR (some 16)]) sk_X1_plus w652 ⟨by decide, by decide⟩ (Nat.le_of_ble_eq_true rfl) dX1_goThrough_101 (c17 g3) ?_
    show E K_X1_goThrough 104 [some (aR (some 12)), some (aR (some m1)), some (aI x2), some (aJ x3), none, some (aJ (mJ M 15 (x2 + 1).toNatClampNeg)), none, some (aI ((mI M (m1 + 3) x2.toNatClampNeg) + 1)), some (aJ x102), none, some (aJ x3), none] [aJ x111, aI x2, aR (some 16)] M10 v M'
    have hS_10 : St M10 := St.sh (M := (wrJ M9 15 x2.toNatClampNeg x110)) (c17 g3).2.1 hS_9
    have h_m1_1_2_9_10 : Mt M10 m1 := Mt.sh (M := (wrJ M9 15 x2.toNatClampNeg x110)) (c17 g3).2.1 h_m1_1_2_9
    refine e_lload dX1_goThrough_104 rfl ?_
    refine e_aload_n dX1_goThrough_106 rfl ?_
    refine e_get ff_1_4 hS_10.l12 w150 dX1_goThrough_107 (w := aR (some 16)) hS_10.f12_4 ?_
    refine e_iload_n dX1_goThrough_110 rfl ?_
    refine e_iconst (u := 1) dX1_goThrough_111 (by decide) ?_
    refine e_iadd dX1_goThrough_112 ?_
    refine e_lald hS_10.l16 (hS_10.b16 b1) dX1_goThrough_113 ?_
    refine e_callS (As := [aJ x3, aJ (mJ M10 16 (x2 + 1).toNatClampNeg)]) (rest := [aJ x111, aI x2, aR (some 16)]) sk_X1_plus w652 ⟨by decide, by decide⟩ (Nat.le_of_ble_eq_true rfl) dX1_goThrough_114 (c18 g3) ?_
    show E K_X1_goThrough 117 [some (aR (some 12)), some (aR (some m1)), some (aI x2), some (aJ x3), none, some (aJ (mJ M 15 (x2 + 1).toNatClampNeg)), none, some (aI ((mI M (m1 + 3) x2.toNatClampNeg) + 1)), some (aJ x102), none, some (aJ x3), none] [aJ x112, aJ x111, aI x2, aR (some 16)] M11 v M'
    have hS_11 : St M11 := St.sh (M := M10) (c18 g3).2.1 hS_10
    have h_m1_1_2_9_10_11 : Mt M11 m1 := Mt.sh (M := M10) (c18 g3).2.1 h_m1_1_2_9_10
    refine e_callS (As := [aJ x111, aJ x112]) (rest := [aI x2, aR (some 16)]) sk_X1_greater w656 ⟨by decide, by decide⟩ (Nat.le_of_ble_eq_true rfl) dX1_goThrough_117 (c19 g3) ?_
    show E K_X1_goThrough 120 [some (aR (some 12)), some (aR (some m1)), some (aI x2), some (aJ x3), none, some (aJ (mJ M 15 (x2 + 1).toNatClampNeg)), none, some (aI ((mI M (m1 + 3) x2.toNatClampNeg) + 1)), some (aJ x102), none, some (aJ x3), none] [aJ x113, aI x2, aR (some 16)] M12 v M'
    have hS_12 : St M12 := St.sh (M := M11) (c19 g3).2.1 hS_11
    have h_m1_1_2_9_10_11_12 : Mt M12 m1 := Mt.sh (M := M11) (c19 g3).2.1 h_m1_1_2_9_10_11
    refine e_last hS_12.l16 (hS_12.b16 (b16 g3)) dX1_goThrough_120 ?_
    exact e_vret rfl dX1_goThrough_121 (k20 g3)

set_option maxRecDepth 20000 in
theorem s_X1_plus_0 {M M' : AM} {v : Option AV} {x0 : Int64} {x2 : Int64} (hS : St M)
    (k1 : ∀ (g1 : x0 = (-1)), some (aJ (-1)) = v ∧ M = M')
    (k2 : ∀ (g1 : ¬ (x0 = (-1))) (g2 : ¬ (x2 = (-1))) (g3 : x0 = (-2)), some (aJ (-2)) = v ∧ M = M')
    (k3 : ∀ (g1 : ¬ (x0 = (-1))) (g2 : ¬ (x2 = (-1))) (g3 : ¬ (x0 = (-2))) (g4 : x2 = (-2)), some (aJ (-2)) = v ∧ M = M')
    (k4 : ∀ (g1 : ¬ (x0 = (-1))) (g2 : ¬ (x2 = (-1))) (g3 : ¬ (x0 = (-2))) (g4 : ¬ (x2 = (-2))) (g5 : ¬ ((x0 + x2) < 0)), some (aJ (x0 + x2)) = v ∧ M = M')
    (k5 : ∀ (g1 : ¬ (x0 = (-1))) (g2 : ¬ (x2 = (-1))) (g3 : ¬ (x0 = (-2))) (g4 : ¬ (x2 = (-2))) (g5 : (x0 + x2) < 0), some (aJ (-2)) = v ∧ M = M')
    (k6 : ∀ (g1 : ¬ (x0 = (-1))) (g2 : x2 = (-1)), some (aJ (-1)) = v ∧ M = M') :
    Ev K_X1_plus [aJ x0, aJ x2] M v M' := by
  refine ⟨Nat.le_of_ble_eq_true rfl, ?_⟩
  show E K_X1_plus 0 [some (aJ x0), none, some (aJ x2), none] [] M v M'
  refine e_lload_n dX1_plus_0 rfl ?_
  refine e_ldc2 dX1_plus_1 w642 ?_
  refine e_lcmp_eq (tgt := 16) dX1_plus_4 dX1_plus_5 rfl (fun g1 => ?_) (fun g1 => ?_)
  ·
    refine e_ldc2 dX1_plus_16 w642 ?_
    exact e_lret rfl dX1_plus_19 (k1 g1)
  ·
    refine e_lload_n dX1_plus_8 rfl ?_
    refine e_ldc2 dX1_plus_9 w642 ?_
    refine e_lcmp_ne (tgt := 20) dX1_plus_12 dX1_plus_13 rfl (fun g2 => ?_) (fun g2 => ?_)
    ·
      refine e_lload_n dX1_plus_20 rfl ?_
      refine e_ldc2 dX1_plus_21 w655 ?_
      refine e_lcmp_eq (tgt := 44) dX1_plus_24 dX1_plus_25 rfl (fun g3 => ?_) (fun g3 => ?_)
      ·
        refine e_ldc2 dX1_plus_44 w655 ?_
        exact e_lret rfl dX1_plus_47 (k2 g1 g2 g3)
      ·
        refine e_lload_n dX1_plus_28 rfl ?_
        refine e_ldc2 dX1_plus_29 w655 ?_
        refine e_lcmp_eq (tgt := 44) dX1_plus_32 dX1_plus_33 rfl (fun g4 => ?_) (fun g4 => ?_)
        ·
          refine e_ldc2 dX1_plus_44 w655 ?_
          exact e_lret rfl dX1_plus_47 (k3 g1 g2 g3 g4)
        ·
          refine e_lload_n dX1_plus_36 rfl ?_
          refine e_lload_n dX1_plus_37 rfl ?_
          refine e_ladd dX1_plus_38 ?_
          refine e_lconst (u := 0) dX1_plus_39 (by decide) ?_
          refine e_lcmp_ge (tgt := 48) dX1_plus_40 dX1_plus_41 rfl (fun g5 => ?_) (fun g5 => ?_)
          ·
            refine e_lload_n dX1_plus_48 rfl ?_
            refine e_lload_n dX1_plus_49 rfl ?_
            refine e_ladd dX1_plus_50 ?_
            exact e_lret rfl dX1_plus_51 (k4 g1 g2 g3 g4 g5)
          ·
            refine e_ldc2 dX1_plus_44 w655 ?_
            exact e_lret rfl dX1_plus_47 (k5 g1 g2 g3 g4 g5)
    ·
      refine e_ldc2 dX1_plus_16 w642 ?_
      exact e_lret rfl dX1_plus_19 (k6 g1 g2)

set_option maxRecDepth 20000 in
theorem s_X1_repeated_0 {M M' : AM} {v : Option AV} {x0 : Int64} {x2 : Int64} (hS : St M)
    (k1 : ∀ (g1 : ¬ (x0 = (-1))) (g2 : x0 = 0), some (aJ 0) = v ∧ M = M')
    (k2 : ∀ (g1 : ¬ (x0 = (-1))) (g2 : ¬ (x0 = 0)) (g3 : ¬ (x2 = 0)) (g4 : x0 = (-2)), some (aJ (-2)) = v ∧ M = M')
    (z3 : ∀ (g1 : ¬ (x0 = (-1))) (g2 : ¬ (x0 = 0)) (g3 : ¬ (x2 = 0)) (g4 : ¬ (x0 = (-2))), ¬ x0 = 0)
    (k4 : ∀ (g1 : ¬ (x0 = (-1))) (g2 : ¬ (x0 = 0)) (g3 : ¬ (x2 = 0)) (g4 : ¬ (x0 = (-2))) (g5 : ¬ ((9223372036854775807 / x0) < x2)), some (aJ (x0 * x2)) = v ∧ M = M')
    (k5 : ∀ (g1 : ¬ (x0 = (-1))) (g2 : ¬ (x0 = 0)) (g3 : ¬ (x2 = 0)) (g4 : ¬ (x0 = (-2))) (g5 : (9223372036854775807 / x0) < x2), some (aJ (-2)) = v ∧ M = M')
    (k6 : ∀ (g1 : ¬ (x0 = (-1))) (g2 : ¬ (x0 = 0)) (g3 : x2 = 0), some (aJ 0) = v ∧ M = M')
    (k7 : ∀ (g1 : x0 = (-1)), some (aJ (-1)) = v ∧ M = M') :
    Ev K_X1_repeated [aJ x0, aJ x2] M v M' := by
  refine ⟨Nat.le_of_ble_eq_true rfl, ?_⟩
  show E K_X1_repeated 0 [some (aJ x0), none, some (aJ x2), none] [] M v M'
  refine e_lload_n dX1_repeated_0 rfl ?_
  refine e_ldc2 dX1_repeated_1 w642 ?_
  refine e_lcmp_ne (tgt := 12) dX1_repeated_4 dX1_repeated_5 rfl (fun g1 => ?_) (fun g1 => ?_)
  ·
    refine e_lload_n dX1_repeated_12 rfl ?_
    refine e_lconst (u := 0) dX1_repeated_13 (by decide) ?_
    refine e_lcmp_eq (tgt := 24) dX1_repeated_14 dX1_repeated_15 rfl (fun g2 => ?_) (fun g2 => ?_)
    ·
      refine e_lconst (u := 0) dX1_repeated_24 (by decide) ?_
      exact e_lret rfl dX1_repeated_25 (k1 g1 g2)
    ·
      refine e_lload_n dX1_repeated_18 rfl ?_
      refine e_lconst (u := 0) dX1_repeated_19 (by decide) ?_
      refine e_lcmp_ne (tgt := 26) dX1_repeated_20 dX1_repeated_21 rfl (fun g3 => ?_) (fun g3 => ?_)
      ·
        refine e_lload_n dX1_repeated_26 rfl ?_
        refine e_ldc2 dX1_repeated_27 w655 ?_
        refine e_lcmp_eq (tgt := 44) dX1_repeated_30 dX1_repeated_31 rfl (fun g4 => ?_) (fun g4 => ?_)
        ·
          refine e_ldc2 dX1_repeated_44 w655 ?_
          refine e_goto (tgt := 53) dX1_repeated_47 rfl ?_
          exact e_lret rfl dX1_repeated_53 (k2 g1 g2 g3 g4)
        ·
          refine e_lload_n dX1_repeated_34 rfl ?_
          refine e_ldc2 dX1_repeated_35 w666 ?_
          refine e_lload_n dX1_repeated_38 rfl ?_
          refine e_ldiv dX1_repeated_39 (z3 g1 g2 g3 g4) ?_
          refine e_lcmp_le (tgt := 50) dX1_repeated_40 dX1_repeated_41 rfl (fun g5 => ?_) (fun g5 => ?_)
          ·
            refine e_lload_n dX1_repeated_50 rfl ?_
            refine e_lload_n dX1_repeated_51 rfl ?_
            refine e_lmul dX1_repeated_52 ?_
            exact e_lret rfl dX1_repeated_53 (k4 g1 g2 g3 g4 g5)
          ·
            refine e_ldc2 dX1_repeated_44 w655 ?_
            refine e_goto (tgt := 53) dX1_repeated_47 rfl ?_
            exact e_lret rfl dX1_repeated_53 (k5 g1 g2 g3 g4 g5)
      ·
        refine e_lconst (u := 0) dX1_repeated_24 (by decide) ?_
        exact e_lret rfl dX1_repeated_25 (k6 g1 g2 g3)
  ·
    refine e_ldc2 dX1_repeated_8 w642 ?_
    exact e_lret rfl dX1_repeated_11 (k7 g1)

set_option maxRecDepth 20000 in
theorem s_X1_greater_0 {M M' : AM} {v : Option AV} {x0 : Int64} {x2 : Int64} (hS : St M)
    (k1 : ∀ (g1 : x0 = (-2)), some (aJ (-2)) = v ∧ M = M')
    (k2 : ∀ (g1 : ¬ (x0 = (-2))) (g2 : ¬ (x2 = (-2))) (g3 : ¬ (x2 < x0)), some (aJ x2) = v ∧ M = M')
    (k3 : ∀ (g1 : ¬ (x0 = (-2))) (g2 : ¬ (x2 = (-2))) (g3 : x2 < x0), some (aJ x0) = v ∧ M = M')
    (k4 : ∀ (g1 : ¬ (x0 = (-2))) (g2 : x2 = (-2)), some (aJ (-2)) = v ∧ M = M') :
    Ev K_X1_greater [aJ x0, aJ x2] M v M' := by
  refine ⟨Nat.le_of_ble_eq_true rfl, ?_⟩
  show E K_X1_greater 0 [some (aJ x0), none, some (aJ x2), none] [] M v M'
  refine e_lload_n dX1_greater_0 rfl ?_
  refine e_ldc2 dX1_greater_1 w655 ?_
  refine e_lcmp_eq (tgt := 16) dX1_greater_4 dX1_greater_5 rfl (fun g1 => ?_) (fun g1 => ?_)
  ·
    refine e_ldc2 dX1_greater_16 w655 ?_
    exact e_lret rfl dX1_greater_19 (k1 g1)
  ·
    refine e_lload_n dX1_greater_8 rfl ?_
    refine e_ldc2 dX1_greater_9 w655 ?_
    refine e_lcmp_ne (tgt := 20) dX1_greater_12 dX1_greater_13 rfl (fun g2 => ?_) (fun g2 => ?_)
    ·
      refine e_lload_n dX1_greater_20 rfl ?_
      refine e_lload_n dX1_greater_21 rfl ?_
      refine e_lcmp_le (tgt := 30) dX1_greater_22 dX1_greater_23 rfl (fun g3 => ?_) (fun g3 => ?_)
      ·
        refine e_lload_n dX1_greater_30 rfl ?_
        exact e_lret rfl dX1_greater_31 (k2 g1 g2 g3)
      ·
        refine e_lload_n dX1_greater_26 rfl ?_
        refine e_goto (tgt := 31) dX1_greater_27 rfl ?_
        exact e_lret rfl dX1_greater_31 (k3 g1 g2 g3)
    ·
      refine e_ldc2 dX1_greater_16 w655 ?_
      exact e_lret rfl dX1_greater_19 (k4 g1 g2)
