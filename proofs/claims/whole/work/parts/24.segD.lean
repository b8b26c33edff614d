set_option maxRecDepth 20000 in
theorem s_X3_answer_0 {M M' : AM} {v : Option AV} {x1 : Int32} (hS : St M)
    (k1 : ∀ (g1 : x1 = 0), some (aJ (mJ M 18 10)) = v ∧ M = M')
    (k2 : ∀ (g1 : ¬ (x1 = 0)) (g2 : x1 = 1), some (aJ (mJ M 18 11)) = v ∧ M = M')
    (k3 : ∀ (g1 : ¬ (x1 = 0)) (g2 : ¬ (x1 = 1)) (g3 : x1 = 2), some (aJ ((mI M 18 12 : Int32).toInt64)) = v ∧ M = M')
    (k4 : ∀ (g1 : ¬ (x1 = 0)) (g2 : ¬ (x1 = 1)) (g3 : ¬ (x1 = 2)) (g4 : x1 = 3), some (aJ ((mI M 18 13 : Int32).toInt64)) = v ∧ M = M')
    (k5 : ∀ (g1 : ¬ (x1 = 0)) (g2 : ¬ (x1 = 1)) (g3 : ¬ (x1 = 2)) (g4 : ¬ (x1 = 3)), some (aJ ((mI M 18 14 : Int32).toInt64)) = v ∧ M = M') :
    Ev K_X3_answer [aR (some 18), aI x1] M v M' := by
  refine ⟨Nat.le_of_ble_eq_true rfl, ?_⟩
  show E K_X3_answer 0 [some (aR (some 18)), some (aI x1)] [] M v M'
  refine e_iload_n dX3_answer_0 rfl ?_
  refine e_tsw (d := 54) (tg := [32, 37, 42, 48]) dX3_answer_1 rfl rfl rfl ?_
  by_cases g1 : x1 = 0
  · have e9 : tsw 0 [32, 37, 42, 48] 54 x1 = 32 := by rw [g1]; rfl
    rw [e9]
    refine e_aload_n dX3_answer_32 rfl ?_
    refine e_get ff_3_10 hS.l18 w202 dX3_answer_33 (w := aJ (mJ M 18 10)) rfl ?_
    exact e_lret rfl dX3_answer_36 (k1 g1)
  by_cases g2 : x1 = 1
  · have e9 : tsw 0 [32, 37, 42, 48] 54 x1 = 37 := by rw [g2]; rfl
    rw [e9]
    refine e_aload_n dX3_answer_37 rfl ?_
    refine e_get ff_3_11 hS.l18 w203 dX3_answer_38 (w := aJ (mJ M 18 11)) rfl ?_
    exact e_lret rfl dX3_answer_41 (k2 g1 g2)
  by_cases g3 : x1 = 2
  · have e9 : tsw 0 [32, 37, 42, 48] 54 x1 = 42 := by rw [g3]; rfl
    rw [e9]
    refine e_aload_n dX3_answer_42 rfl ?_
    refine e_get ff_3_12 hS.l18 w204 dX3_answer_43 (w := aI (mI M 18 12)) rfl ?_
    refine e_i2l dX3_answer_46 ?_
    exact e_lret rfl dX3_answer_47 (k3 g1 g2 g3)
  by_cases g4 : x1 = 3
  · have e9 : tsw 0 [32, 37, 42, 48] 54 x1 = 48 := by rw [g4]; rfl
    rw [e9]
    refine e_aload_n dX3_answer_48 rfl ?_
    refine e_get ff_3_13 hS.l18 w205 dX3_answer_49 (w := aI (mI M 18 13)) rfl ?_
    refine e_i2l dX3_answer_52 ?_
    exact e_lret rfl dX3_answer_53 (k4 g1 g2 g3 g4)
  have e9 : tsw 0 [32, 37, 42, 48] 54 x1 = 54 := tsw_out [0, 1, 2, 3] (by decide) (by
      simp only [List.mem_cons, List.not_mem_nil, or_false, forall_eq_or_imp, forall_eq]
      skip
      exact ⟨g1, g2, g3, g4⟩)
  rw [e9]
  refine e_aload_n dX3_answer_54 rfl ?_
  refine e_get ff_3_14 hS.l18 w206 dX3_answer_55 (w := aI (mI M 18 14)) rfl ?_
  refine e_i2l dX3_answer_58 ?_
  exact e_lret rfl dX3_answer_59 (k5 g1 g2 g3 g4)

set_option maxRecDepth 20000 in
theorem s_X3_perform_0 {M M' : AM} {v : Option AV} {m1 : Nat} {x3 : Int32} {M1 : AM} {M2 : AM} {x101 : Int32} (hS : St M) (h_m1 : Mt M m1)
    (c1 : Ev K_X3_reset [aR (some 18)] M (none) M1)
    (c2 : Ev K_X4_isSound [aR (some m1)] M1 (some (aI x101)) M2)
    (k3 : ∀ (g2 : ¬ x101 = 0), E K_X3_perform 16 [some (aR (some 18)), some (aR (some m1)), some (aR (some 25)), some (aI x3), some (aI 0), none] [] M2 v M')
    (k4 : ∀ (g2 : x101 = 0), some (aI 4) = v ∧ M2 = M') :
    Ev K_X3_perform [aR (some 18), aR (some m1), aR (some 25), aI x3] M v M' := by
  refine ⟨Nat.le_of_ble_eq_true rfl, ?_⟩
  show E K_X3_perform 0 [some (aR (some 18)), some (aR (some m1)), some (aR (some 25)), some (aI x3), none, none] [] M v M'
  refine e_aload_n dX3_perform_0 rfl ?_
  refine e_callV (As := []) (rest := []) vk_X3_reset hS.l18 w735 ⟨by decide, by decide⟩ (Nat.le_of_ble_eq_true rfl) dX3_perform_1 c1 ?_
  show E K_X3_perform 4 [some (aR (some 18)), some (aR (some m1)), some (aR (some 25)), some (aI x3), none, none] [] M1 v M'
  have hS_1 : St M1 := St.sh (M := M) c1.2.1 hS
  have h_m1_1 : Mt M1 m1 := Mt.sh (M := M) c1.2.1 h_m1
  refine e_aload_n dX3_perform_4 rfl ?_
  refine e_callV (As := []) (rest := []) vk_X4_isSound h_m1_1.l0 w739 ⟨by decide, by decide⟩ (Nat.le_of_ble_eq_true rfl) dX3_perform_5 c2 ?_
  show E K_X3_perform 8 [some (aR (some 18)), some (aR (some m1)), some (aR (some 25)), some (aI x3), none, none] [aI x101] M2 v M'
  have hS_2 : St M2 := St.sh (M := M1) c2.2.1 hS_1
  have h_m1_1_2 : Mt M2 m1 := Mt.sh (M := M1) c2.2.1 h_m1_1
  refine e_if_ne (tgt := 13) dX3_perform_8 rfl (fun g2 => ?_) (fun g2 => ?_)
  ·
    refine e_iconst (u := 0) dX3_perform_13 (by decide) ?_
    refine e_istore dX3_perform_14 (Nat.le_of_ble_eq_true rfl) ?_
    show E K_X3_perform 16 [some (aR (some 18)), some (aR (some m1)), some (aR (some 25)), some (aI x3), some (aI 0), none] [] M2 v M'
    exact (k3 g2)
  ·
    refine e_iconst (u := 4) dX3_perform_11 (by decide) ?_
    exact e_iret rfl dX3_perform_12 (k4 g2)

set_option maxRecDepth 20000 in
theorem s_X3_perform_16 {M M' : AM} {v : Option AV} {m1 : Nat} {x3 : Int32} {x4 : Int32} {M1 : AM} {M2 : AM} {M3 : AM} (hS : St M) (h_m1 : Mt M m1)
    (c1 : ∀ (g1 : (mI M m1 0) ≤ x4), Ev K_X3_enter [aR (some 18), aR (some m1), aI 0] M (none) M1)
    (k2 : ∀ (g1 : (mI M m1 0) ≤ x4), E K_X3_perform 55 [some (aR (some 18)), some (aR (some m1)), some (aR (some 25)), some (aI x3), some (aI 0), none] [] M1 v M')
    (c3 : ∀ (g1 : ¬ ((mI M m1 0) ≤ x4)) (g2 : 8 ≤ x4), Ev K_X3_enter [aR (some 18), aR (some m1), aI 0] M (none) M2)
    (k4 : ∀ (g1 : ¬ ((mI M m1 0) ≤ x4)) (g2 : 8 ≤ x4), E K_X3_perform 55 [some (aR (some 18)), some (aR (some m1)), some (aR (some 25)), some (aI x3), some (aI 0), none] [] M2 v M')
    (b5 : ∀ (g1 : ¬ ((mI M m1 0) ≤ x4)) (g2 : ¬ (8 ≤ x4)), vp_in x4 8)
    (c6 : ∀ (g1 : ¬ ((mI M m1 0) ≤ x4)) (g2 : ¬ (8 ≤ x4)), Ev K_X3_push [aR (some 18), aJ (mJ M 25 x4.toNatClampNeg)] M (none) M3)
    (k7 : ∀ (g1 : ¬ ((mI M m1 0) ≤ x4)) (g2 : ¬ (8 ≤ x4)), E K_X3_perform 16 [some (aR (some 18)), some (aR (some m1)), some (aR (some 25)), some (aI x3), some (aI (x4 + 1)), none] [] M3 v M') :
    E K_X3_perform 16 [some (aR (some 18)), some (aR (some m1)), some (aR (some 25)), some (aI x3), some (aI x4), none] [] M v M' := by
  refine e_iload dX3_perform_16 rfl ?_
  refine e_aload_n dX3_perform_18 rfl ?_
  refine e_getN ff_4_0 h_m1.l0 w353 dX3_perform_19 (w := aI (mI M m1 0)) rfl ?_
  refine e_icmp_ge (tgt := 46) dX3_perform_22 rfl (fun g1 => ?_) (fun g1 => ?_)
  ·
    refine e_aload_n dX3_perform_46 rfl ?_
    refine e_aload_n dX3_perform_47 rfl ?_
    refine e_iconst (u := 0) dX3_perform_48 (by decide) ?_
    refine e_callV (As := [aR (some m1), aI 0]) (rest := []) vk_X3_enter hS.l18 w748 ⟨by decide, by decide⟩ (Nat.le_of_ble_eq_true rfl) dX3_perform_49 (c1 g1) ?_
    show E K_X3_perform 52 [some (aR (some 18)), some (aR (some m1)), some (aR (some 25)), some (aI x3), some (aI x4), none] [] M1 v M'
    have hS_1 : St M1 := St.sh (M := M) (c1 g1).2.1 hS
    have h_m1_1 : Mt M1 m1 := Mt.sh (M := M) (c1 g1).2.1 h_m1
    refine e_iconst (u := 0) dX3_perform_52 (by decide) ?_
    refine e_istore dX3_perform_53 (Nat.le_of_ble_eq_true rfl) ?_
    show E K_X3_perform 55 [some (aR (some 18)), some (aR (some m1)), some (aR (some 25)), some (aI x3), some (aI 0), none] [] M1 v M'
    exact (k2 g1)
  ·
    refine e_iload dX3_perform_25 rfl ?_
    refine e_aload_n dX3_perform_27 rfl ?_
    refine e_lenJv hS.l25 hS.n25 dX3_perform_28 ?_
    show E K_X3_perform 29 [some (aR (some 18)), some (aR (some m1)), some (aR (some 25)), some (aI x3), some (aI x4), none] [aI 8, aI x4] M v M'
    refine e_icmp_ge (tgt := 46) dX3_perform_29 rfl (fun g2 => ?_) (fun g2 => ?_)
    ·
      refine e_aload_n dX3_perform_46 rfl ?_
      refine e_aload_n dX3_perform_47 rfl ?_
      refine e_iconst (u := 0) dX3_perform_48 (by decide) ?_
      refine e_callV (As := [aR (some m1), aI 0]) (rest := []) vk_X3_enter hS.l18 w748 ⟨by decide, by decide⟩ (Nat.le_of_ble_eq_true rfl) dX3_perform_49 (c3 g1 g2) ?_
      show E K_X3_perform 52 [some (aR (some 18)), some (aR (some m1)), some (aR (some 25)), some (aI x3), some (aI x4), none] [] M2 v M'
      have hS_2 : St M2 := St.sh (M := M) (c3 g1 g2).2.1 hS
      have h_m1_2 : Mt M2 m1 := Mt.sh (M := M) (c3 g1 g2).2.1 h_m1
      refine e_iconst (u := 0) dX3_perform_52 (by decide) ?_
      refine e_istore dX3_perform_53 (Nat.le_of_ble_eq_true rfl) ?_
      show E K_X3_perform 55 [some (aR (some 18)), some (aR (some m1)), some (aR (some 25)), some (aI x3), some (aI 0), none] [] M2 v M'
      exact (k4 g1 g2)
    ·
      refine e_aload_n dX3_perform_32 rfl ?_
      refine e_aload_n dX3_perform_33 rfl ?_
      refine e_iload dX3_perform_34 rfl ?_
      refine e_lald hS.l25 (hS.b25 (b5 g1 g2)) dX3_perform_36 ?_
      refine e_callV (As := [aJ (mJ M 25 x4.toNatClampNeg)]) (rest := []) vk_X3_push hS.l18 w740 ⟨by decide, by decide⟩ (Nat.le_of_ble_eq_true rfl) dX3_perform_37 (c6 g1 g2) ?_
      show E K_X3_perform 40 [some (aR (some 18)), some (aR (some m1)), some (aR (some 25)), some (aI x3), some (aI x4), none] [] M3 v M'
      have hS_3 : St M3 := St.sh (M := M) (c6 g1 g2).2.1 hS
      have h_m1_3 : Mt M3 m1 := Mt.sh (M := M) (c6 g1 g2).2.1 h_m1
      refine e_iinc dX3_perform_40 rfl ?_
      show E K_X3_perform 43 [some (aR (some 18)), some (aR (some m1)), some (aR (some 25)), some (aI x3), some (aI (x4 + 1)), none] [] M3 v M'
      refine e_goto (tgt := 16) dX3_perform_43 rfl ?_
      exact (k7 g1 g2)

set_option maxRecDepth 20000 in
theorem s_X3_perform_55 {M M' : AM} {v : Option AV} {m1 : Nat} {x3 : Int32} {x4 : Int32} {M1 : AM} {x102 : Int32} (hS : St M) (h_m1 : Mt M m1)
    (k1 : ∀ (g1 : x3 ≤ x4), some (aI 2) = v ∧ M = M')
    (c2 : ∀ (g1 : ¬ (x3 ≤ x4)), Ev K_X3_doNext [aR (some 18)] M (some (aI x102)) M1)
    (k3 : ∀ (g1 : ¬ (x3 ≤ x4)) (g3 : x102 = 0), E K_X3_perform 55 [some (aR (some 18)), some (aR (some m1)), some (aR (some 25)), some (aI x3), some (aI (x4 + 1)), some (aI x102)] [] M1 v M')
    (k4 : ∀ (g1 : ¬ (x3 ≤ x4)) (g3 : ¬ x102 = 0), some (aI x102) = v ∧ M1 = M') :
    E K_X3_perform 55 [some (aR (some 18)), some (aR (some m1)), some (aR (some 25)), some (aI x3), some (aI x4), none] [] M v M' := by
  refine e_iload dX3_perform_55 rfl ?_
  refine e_iload_n dX3_perform_57 rfl ?_
  refine e_icmp_ge (tgt := 81) dX3_perform_58 rfl (fun g1 => ?_) (fun g1 => ?_)
  ·
    refine e_iconst (u := 2) dX3_perform_81 (by decide) ?_
    exact e_iret rfl dX3_perform_82 (k1 g1)
  ·
    refine e_aload_n dX3_perform_61 rfl ?_
    refine e_callV (As := []) (rest := []) vk_X3_doNext hS.l18 w759 ⟨by decide, by decide⟩ (Nat.le_of_ble_eq_true rfl) dX3_perform_62 (c2 g1) ?_
    show E K_X3_perform 65 [some (aR (some 18)), some (aR (some m1)), some (aR (some 25)), some (aI x3), some (aI x4), none] [aI x102] M1 v M'
    have hS_1 : St M1 := St.sh (M := M) (c2 g1).2.1 hS
    have h_m1_1 : Mt M1 m1 := Mt.sh (M := M) (c2 g1).2.1 h_m1
    refine e_istore dX3_perform_65 (Nat.le_of_ble_eq_true rfl) ?_
    show E K_X3_perform 67 [some (aR (some 18)), some (aR (some m1)), some (aR (some 25)), some (aI x3), some (aI x4), some (aI x102)] [] M1 v M'
    refine e_iload dX3_perform_67 rfl ?_
    refine e_if_eq (tgt := 75) dX3_perform_69 rfl (fun g3 => ?_) (fun g3 => ?_)
    ·
      refine e_iinc dX3_perform_75 rfl ?_
      show E K_X3_perform 78 [some (aR (some 18)), some (aR (some m1)), some (aR (some 25)), some (aI x3), some (aI (x4 + 1)), some (aI x102)] [] M1 v M'
      refine e_goto (tgt := 55) dX3_perform_78 rfl ?_
      exact (k3 g1 g3)
    ·
      refine e_iload dX3_perform_72 rfl ?_
      exact e_iret rfl dX3_perform_74 (k4 g1 g3)

set_option maxRecDepth 20000 in
theorem s_X3_reset_0 {M M' : AM} {v : Option AV} (hS : St M)
    (k1 : none = v ∧ (wrI (wrI (wrI (wrJ (wrJ (wrI (wrI M 18 8 0) 18 9 0) 18 10 0) 18 11 0) 18 12 0) 18 13 0) 18 14 0) = M') :
    Ev K_X3_reset [aR (some 18)] M v M' := by
  refine ⟨Nat.le_of_ble_eq_true rfl, ?_⟩
  show E K_X3_reset 0 [some (aR (some 18))] [] M v M'
  refine e_aload_n dX3_reset_0 rfl ?_
  refine e_iconst (u := 0) dX3_reset_1 (by decide) ?_
  refine e_putI ff_3_8 rfl hS.l18 w200 dX3_reset_2 ?_
  refine e_aload_n dX3_reset_5 rfl ?_
  refine e_iconst (u := 0) dX3_reset_6 (by decide) ?_
  refine e_putI ff_3_9 rfl hS.l18 w201 dX3_reset_7 ?_
  refine e_aload_n dX3_reset_10 rfl ?_
  refine e_lconst (u := 0) dX3_reset_11 (by decide) ?_
  refine e_putJ ff_3_10 rfl hS.l18 w202 dX3_reset_12 ?_
  refine e_aload_n dX3_reset_15 rfl ?_
  refine e_lconst (u := 0) dX3_reset_16 (by decide) ?_
  refine e_putJ ff_3_11 rfl hS.l18 w203 dX3_reset_17 ?_
  refine e_aload_n dX3_reset_20 rfl ?_
  refine e_iconst (u := 0) dX3_reset_21 (by decide) ?_
  refine e_putI ff_3_12 rfl hS.l18 w204 dX3_reset_22 ?_
  refine e_aload_n dX3_reset_25 rfl ?_
  refine e_iconst (u := 0) dX3_reset_26 (by decide) ?_
  refine e_putI ff_3_13 rfl hS.l18 w205 dX3_reset_27 ?_
  refine e_aload_n dX3_reset_30 rfl ?_
  refine e_iconst (u := 0) dX3_reset_31 (by decide) ?_
  refine e_putI ff_3_14 rfl hS.l18 w206 dX3_reset_32 ?_
  exact e_vret rfl dX3_reset_35 k1

set_option maxRecDepth 20000 in
theorem s_X3_doNext_0 {M M' : AM} {v : Option AV} {o101 : Option Nat} {M1 : AM} {x102 : Int32} {M2 : AM} {x106 : Int32} {M3 : AM} {M4 : AM} {M5 : AM} {M6 : AM} {M7 : AM} {x109 : Int32} {M8 : AM} {x110 : Int32} {M9 : AM} {x112 : Int32} {M10 : AM} {M11 : AM} {M12 : AM} {M13 : AM} {M14 : AM} {x115 : Int32} {M15 : AM} {o116 : Option Nat} {M16 : AM} {x118 : Int32} {M17 : AM} {M18 : AM} {M19 : AM} {M20 : AM} {M21 : AM} {M22 : AM} {M23 : AM} {x121 : Int32} {M24 : AM} {x122 : Int32} {M25 : AM} {x124 : Int32} {M26 : AM} {M27 : AM} {M28 : AM} {M29 : AM} {M30 : AM} {M31 : AM} {M32 : AM} {x127 : Int32} (hS : St M)
    (b1 : vp_in (mI M 18 7) 100)
    (q2 : mR M 21 (mI M 18 7).toNatClampNeg = o101)
    (k3 : ∀ (q101 : o101 = none), some (aI 4) = v ∧ M = M')
    (h4 : ∀ (r101 : Nat) (q101 : o101 = some r101), Mt M r101)
    (c5 : ∀ (r101 : Nat) (q101 : o101 = some r101), Ev K_X4_has [aR (some r101), aJ ((mI M 22 (mI M 18 7).toNatClampNeg : Int32).toInt64)] M (some (aI x102)) M1)
    (b6 : ∀ (r101 : Nat) (q101 : o101 = some r101) (g3 : ¬ x102 = 0), vp_in (mI M 22 (mI M 18 7).toNatClampNeg) 120)
    (c7 : ∀ (r101 : Nat) (q101 : o101 = some r101) (g3 : ¬ x102 = 0) (g4 : ¬ (mI M1 (r101 + 1) (mI M 22 (mI M 18 7).toNatClampNeg).toNatClampNeg) = 16) (g5 : ¬ (mI M1 (r101 + 1) (mI M 22 (mI M 18 7).toNatClampNeg).toNatClampNeg) = 16), Ev K_X5_costOf [aR (some 4), aI (mI M1 (r101 + 1) (mI M 22 (mI M 18 7).toNatClampNeg).toNatClampNeg)] (wrI M1 18 13 ((mI M1 18 13) + 1)) (some (aI x106)) M2)
    (b8 : ∀ (r101 : Nat) (q101 : o101 = some r101) (g3 : ¬ x102 = 0) (g4 : ¬ (mI M1 (r101 + 1) (mI M 22 (mI M 18 7).toNatClampNeg).toNatClampNeg) = 16) (g5 : ¬ (mI M1 (r101 + 1) (mI M 22 (mI M 18 7).toNatClampNeg).toNatClampNeg) = 16), vp_in (mI M2 18 7) 100)
    (c9 : ∀ (r101 : Nat) (q101 : o101 = some r101) (g3 : ¬ x102 = 0) (g4 : ¬ (mI M1 (r101 + 1) (mI M 22 (mI M 18 7).toNatClampNeg).toNatClampNeg) = 16) (g5 : ¬ (mI M1 (r101 + 1) (mI M 22 (mI M 18 7).toNatClampNeg).toNatClampNeg) = 16) (g7 : ¬ (mI M1 (r101 + 1) (mI M 22 (mI M 18 7).toNatClampNeg).toNatClampNeg) = 17) (g8 : (mI M1 (r101 + 1) (mI M 22 (mI M 18 7).toNatClampNeg).toNatClampNeg) < 12), Ev K_X3_handle [aR (some 18), aI (mI M1 (r101 + 1) (mI M 22 (mI M 18 7).toNatClampNeg).toNatClampNeg), aJ (mJ (wrJ M2 18 11 ((mJ M1 18 11) + ((x106 : Int32).toInt64))) (r101 + 2) (mI M 22 (mI M 18 7).toNatClampNeg).toNatClampNeg)] (wrI (wrJ M2 18 11 ((mJ M1 18 11) + ((x106 : Int32).toInt64))) 22 (mI M2 18 7).toNatClampNeg ((mI M 22 (mI M 18 7).toNatClampNeg) + 1)) (none) M3)
    (c10 : ∀ (r101 : Nat) (q101 : o101 = some r101) (g3 : ¬ x102 = 0) (g4 : ¬ (mI M1 (r101 + 1) (mI M 22 (mI M 18 7).toNatClampNeg).toNatClampNeg) = 16) (g5 : ¬ (mI M1 (r101 + 1) (mI M 22 (mI M 18 7).toNatClampNeg).toNatClampNeg) = 16) (g7 : ¬ (mI M1 (r101 + 1) (mI M 22 (mI M 18 7).toNatClampNeg).toNatClampNeg) = 17) (g8 : (mI M1 (r101 + 1) (mI M 22 (mI M 18 7).toNatClampNeg).toNatClampNeg) < 12), Ev K_X3_countWords [aR (some 18)] M3 (none) M4)
    (k11 : ∀ (r101 : Nat) (q101 : o101 = some r101) (g3 : ¬ x102 = 0) (g4 : ¬ (mI M1 (r101 + 1) (mI M 22 (mI M 18 7).toNatClampNeg).toNatClampNeg) = 16) (g5 : ¬ (mI M1 (r101 + 1) (mI M 22 (mI M 18 7).toNatClampNeg).toNatClampNeg) = 16) (g7 : ¬ (mI M1 (r101 + 1) (mI M 22 (mI M 18 7).toNatClampNeg).toNatClampNeg) = 17) (g8 : (mI M1 (r101 + 1) (mI M 22 (mI M 18 7).toNatClampNeg).toNatClampNeg) < 12), some (aI 0) = v ∧ M4 = M')
    (c12 : ∀ (r101 : Nat) (q101 : o101 = some r101) (g3 : ¬ x102 = 0) (g4 : ¬ (mI M1 (r101 + 1) (mI M 22 (mI M 18 7).toNatClampNeg).toNatClampNeg) = 16) (g5 : ¬ (mI M1 (r101 + 1) (mI M 22 (mI M 18 7).toNatClampNeg).toNatClampNeg) = 16) (g7 : ¬ (mI M1 (r101 + 1) (mI M 22 (mI M 18 7).toNatClampNeg).toNatClampNeg) = 17) (g8 : ¬ ((mI M1 (r101 + 1) (mI M 22 (mI M 18 7).toNatClampNeg).toNatClampNeg) < 12)), Ev K_X3_flow [aR (some 18), aR (some r101), aI (mI M 22 (mI M 18 7).toNatClampNeg)] (wrI (wrJ M2 18 11 ((mJ M1 18 11) + ((x106 : Int32).toInt64))) 22 (mI M2 18 7).toNatClampNeg ((mI M 22 (mI M 18 7).toNatClampNeg) + 1)) (none) M5)
    (c13 : ∀ (r101 : Nat) (q101 : o101 = some r101) (g3 : ¬ x102 = 0) (g4 : ¬ (mI M1 (r101 + 1) (mI M 22 (mI M 18 7).toNatClampNeg).toNatClampNeg) = 16) (g5 : ¬ (mI M1 (r101 + 1) (mI M 22 (mI M 18 7).toNatClampNeg).toNatClampNeg) = 16) (g7 : ¬ (mI M1 (r101 + 1) (mI M 22 (mI M 18 7).toNatClampNeg).toNatClampNeg) = 17) (g8 : ¬ ((mI M1 (r101 + 1) (mI M 22 (mI M 18 7).toNatClampNeg).toNatClampNeg) < 12)), Ev K_X3_countWords [aR (some 18)] M5 (none) M6)
    (k14 : ∀ (r101 : Nat) (q101 : o101 = some r101) (g3 : ¬ x102 = 0) (g4 : ¬ (mI M1 (r101 + 1) (mI M 22 (mI M 18 7).toNatClampNeg).toNatClampNeg) = 16) (g5 : ¬ (mI M1 (r101 + 1) (mI M 22 (mI M 18 7).toNatClampNeg).toNatClampNeg) = 16) (g7 : ¬ (mI M1 (r101 + 1) (mI M 22 (mI M 18 7).toNatClampNeg).toNatClampNeg) = 17) (g8 : ¬ ((mI M1 (r101 + 1) (mI M 22 (mI M 18 7).toNatClampNeg).toNatClampNeg) < 12)), some (aI 0) = v ∧ M6 = M')
    (c15 : ∀ (r101 : Nat) (q101 : o101 = some r101) (g3 : ¬ x102 = 0) (g4 : ¬ (mI M1 (r101 + 1) (mI M 22 (mI M 18 7).toNatClampNeg).toNatClampNeg) = 16) (g5 : ¬ (mI M1 (r101 + 1) (mI M 22 (mI M 18 7).toNatClampNeg).toNatClampNeg) = 16) (g7 : (mI M1 (r101 + 1) (mI M 22 (mI M 18 7).toNatClampNeg).toNatClampNeg) = 17), Ev K_X3_leave [aR (some 18), aR (some r101)] (wrI (wrJ M2 18 11 ((mJ M1 18 11) + ((x106 : Int32).toInt64))) 22 (mI M2 18 7).toNatClampNeg ((mI M 22 (mI M 18 7).toNatClampNeg) + 1)) (some (aI x109)) M7)
    (k16 : ∀ (r101 : Nat) (q101 : o101 = some r101) (g3 : ¬ x102 = 0) (g4 : ¬ (mI M1 (r101 + 1) (mI M 22 (mI M 18 7).toNatClampNeg).toNatClampNeg) = 16) (g5 : ¬ (mI M1 (r101 + 1) (mI M 22 (mI M 18 7).toNatClampNeg).toNatClampNeg) = 16) (g7 : (mI M1 (r101 + 1) (mI M 22 (mI M 18 7).toNatClampNeg).toNatClampNeg) = 17), some (aI x109) = v ∧ M7 = M')
    (c17 : ∀ (r101 : Nat) (q101 : o101 = some r101) (g3 : ¬ x102 = 0) (g4 : ¬ (mI M1 (r101 + 1) (mI M 22 (mI M 18 7).toNatClampNeg).toNatClampNeg) = 16) (g5 : (mI M1 (r101 + 1) (mI M 22 (mI M 18 7).toNatClampNeg).toNatClampNeg) = 16), Ev K_X3_refuse [aR (some 18), aR none] M1 (some (aI x110)) M8)
    (c18 : ∀ (r101 : Nat) (q101 : o101 = some r101) (g3 : ¬ x102 = 0) (g4 : ¬ (mI M1 (r101 + 1) (mI M 22 (mI M 18 7).toNatClampNeg).toNatClampNeg) = 16) (g5 : (mI M1 (r101 + 1) (mI M 22 (mI M 18 7).toNatClampNeg).toNatClampNeg) = 16) (g11 : x110 = 0), Ev K_X5_costOf [aR (some 4), aI (mI M1 (r101 + 1) (mI M 22 (mI M 18 7).toNatClampNeg).toNatClampNeg)] (wrI M8 18 13 ((mI M8 18 13) + 1)) (some (aI x112)) M9)
    (b19 : ∀ (r101 : Nat) (q101 : o101 = some r101) (g3 : ¬ x102 = 0) (g4 : ¬ (mI M1 (r101 + 1) (mI M 22 (mI M 18 7).toNatClampNeg).toNatClampNeg) = 16) (g5 : (mI M1 (r101 + 1) (mI M 22 (mI M 18 7).toNatClampNeg).toNatClampNeg) = 16) (g11 : x110 = 0), vp_in (mI M9 18 7) 100)
    (c20 : ∀ (r101 : Nat) (q101 : o101 = some r101) (g3 : ¬ x102 = 0) (g4 : ¬ (mI M1 (r101 + 1) (mI M 22 (mI M 18 7).toNatClampNeg).toNatClampNeg) = 16) (g5 : (mI M1 (r101 + 1) (mI M 22 (mI M 18 7).toNatClampNeg).toNatClampNeg) = 16) (g11 : x110 = 0) (g13 : ¬ (mI M1 (r101 + 1) (mI M 22 (mI M 18 7).toNatClampNeg).toNatClampNeg) = 17) (g14 : (mI M1 (r101 + 1) (mI M 22 (mI M 18 7).toNatClampNeg).toNatClampNeg) < 12), Ev K_X3_handle [aR (some 18), aI (mI M1 (r101 + 1) (mI M 22 (mI M 18 7).toNatClampNeg).toNatClampNeg), aJ (mJ (wrJ M9 18 11 ((mJ M8 18 11) + ((x112 : Int32).toInt64))) (r101 + 2) (mI M 22 (mI M 18 7).toNatClampNeg).toNatClampNeg)] (wrI (wrJ M9 18 11 ((mJ M8 18 11) + ((x112 : Int32).toInt64))) 22 (mI M9 18 7).toNatClampNeg ((mI M 22 (mI M 18 7).toNatClampNeg) + 1)) (none) M10)
    (c21 : ∀ (r101 : Nat) (q101 : o101 = some r101) (g3 : ¬ x102 = 0) (g4 : ¬ (mI M1 (r101 + 1) (mI M 22 (mI M 18 7).toNatClampNeg).toNatClampNeg) = 16) (g5 : (mI M1 (r101 + 1) (mI M 22 (mI M 18 7).toNatClampNeg).toNatClampNeg) = 16) (g11 : x110 = 0) (g13 : ¬ (mI M1 (r101 + 1) (mI M 22 (mI M 18 7).toNatClampNeg).toNatClampNeg) = 17) (g14 : (mI M1 (r101 + 1) (mI M 22 (mI M 18 7).toNatClampNeg).toNatClampNeg) < 12), Ev K_X3_countWords [aR (some 18)] M10 (none) M11)
    (k22 : ∀ (r101 : Nat) (q101 : o101 = some r101) (g3 : ¬ x102 = 0) (g4 : ¬ (mI M1 (r101 + 1) (mI M 22 (mI M 18 7).toNatClampNeg).toNatClampNeg) = 16) (g5 : (mI M1 (r101 + 1) (mI M 22 (mI M 18 7).toNatClampNeg).toNatClampNeg) = 16) (g11 : x110 = 0) (g13 : ¬ (mI M1 (r101 + 1) (mI M 22 (mI M 18 7).toNatClampNeg).toNatClampNeg) = 17) (g14 : (mI M1 (r101 + 1) (mI M 22 (mI M 18 7).toNatClampNeg).toNatClampNeg) < 12), some (aI 0) = v ∧ M11 = M')
    (c23 : ∀ (r101 : Nat) (q101 : o101 = some r101) (g3 : ¬ x102 = 0) (g4 : ¬ (mI M1 (r101 + 1) (mI M 22 (mI M 18 7).toNatClampNeg).toNatClampNeg) = 16) (g5 : (mI M1 (r101 + 1) (mI M 22 (mI M 18 7).toNatClampNeg).toNatClampNeg) = 16) (g11 : x110 = 0) (g13 : ¬ (mI M1 (r101 + 1) (mI M 22 (mI M 18 7).toNatClampNeg).toNatClampNeg) = 17) (g14 : ¬ ((mI M1 (r101 + 1) (mI M 22 (mI M 18 7).toNatClampNeg).toNatClampNeg) < 12)), Ev K_X3_flow [aR (some 18), aR (some r101), aI (mI M 22 (mI M 18 7).toNatClampNeg)] (wrI (wrJ M9 18 11 ((mJ M8 18 11) + ((x112 : Int32).toInt64))) 22 (mI M9 18 7).toNatClampNeg ((mI M 22 (mI M 18 7).toNatClampNeg) + 1)) (none) M12)
    (c24 : ∀ (r101 : Nat) (q101 : o101 = some r101) (g3 : ¬ x102 = 0) (g4 : ¬ (mI M1 (r101 + 1) (mI M 22 (mI M 18 7).toNatClampNeg).toNatClampNeg) = 16) (g5 : (mI M1 (r101 + 1) (mI M 22 (mI M 18 7).toNatClampNeg).toNatClampNeg) = 16) (g11 : x110 = 0) (g13 : ¬ (mI M1 (r101 + 1) (mI M 22 (mI M 18 7).toNatClampNeg).toNatClampNeg) = 17) (g14 : ¬ ((mI M1 (r101 + 1) (mI M 22 (mI M 18 7).toNatClampNeg).toNatClampNeg) < 12)), Ev K_X3_countWords [aR (some 18)] M12 (none) M13)
    (k25 : ∀ (r101 : Nat) (q101 : o101 = some r101) (g3 : ¬ x102 = 0) (g4 : ¬ (mI M1 (r101 + 1) (mI M 22 (mI M 18 7).toNatClampNeg).toNatClampNeg) = 16) (g5 : (mI M1 (r101 + 1) (mI M 22 (mI M 18 7).toNatClampNeg).toNatClampNeg) = 16) (g11 : x110 = 0) (g13 : ¬ (mI M1 (r101 + 1) (mI M 22 (mI M 18 7).toNatClampNeg).toNatClampNeg) = 17) (g14 : ¬ ((mI M1 (r101 + 1) (mI M 22 (mI M 18 7).toNatClampNeg).toNatClampNeg) < 12)), some (aI 0) = v ∧ M13 = M')
    (c26 : ∀ (r101 : Nat) (q101 : o101 = some r101) (g3 : ¬ x102 = 0) (g4 : ¬ (mI M1 (r101 + 1) (mI M 22 (mI M 18 7).toNatClampNeg).toNatClampNeg) = 16) (g5 : (mI M1 (r101 + 1) (mI M 22 (mI M 18 7).toNatClampNeg).toNatClampNeg) = 16) (g11 : x110 = 0) (g13 : (mI M1 (r101 + 1) (mI M 22 (mI M 18 7).toNatClampNeg).toNatClampNeg) = 17), Ev K_X3_leave [aR (some 18), aR (some r101)] (wrI (wrJ M9 18 11 ((mJ M8 18 11) + ((x112 : Int32).toInt64))) 22 (mI M9 18 7).toNatClampNeg ((mI M 22 (mI M 18 7).toNatClampNeg) + 1)) (some (aI x115)) M14)
    (k27 : ∀ (r101 : Nat) (q101 : o101 = some r101) (g3 : ¬ x102 = 0) (g4 : ¬ (mI M1 (r101 + 1) (mI M 22 (mI M 18 7).toNatClampNeg).toNatClampNeg) = 16) (g5 : (mI M1 (r101 + 1) (mI M 22 (mI M 18 7).toNatClampNeg).toNatClampNeg) = 16) (g11 : x110 = 0) (g13 : (mI M1 (r101 + 1) (mI M 22 (mI M 18 7).toNatClampNeg).toNatClampNeg) = 17), some (aI x115) = v ∧ M14 = M')
    (k28 : ∀ (r101 : Nat) (q101 : o101 = some r101) (g3 : ¬ x102 = 0) (g4 : ¬ (mI M1 (r101 + 1) (mI M 22 (mI M 18 7).toNatClampNeg).toNatClampNeg) = 16) (g5 : (mI M1 (r101 + 1) (mI M 22 (mI M 18 7).toNatClampNeg).toNatClampNeg) = 16) (g11 : ¬ x110 = 0), some (aI x110) = v ∧ M8 = M')
    (c29 : ∀ (r101 : Nat) (q101 : o101 = some r101) (g3 : ¬ x102 = 0) (g4 : (mI M1 (r101 + 1) (mI M 22 (mI M 18 7).toNatClampNeg).toNatClampNeg) = 16), Ev K_X5_find [aR (some 4), aJ (mJ M1 (r101 + 2) (mI M 22 (mI M 18 7).toNatClampNeg).toNatClampNeg)] M1 (some (aR o116)) M15)
    (c30 : ∀ (r101 : Nat) (q101 : o101 = some r101) (g3 : ¬ x102 = 0) (g4 : (mI M1 (r101 + 1) (mI M 22 (mI M 18 7).toNatClampNeg).toNatClampNeg) = 16) (g17 : ¬ (mI M1 (r101 + 1) (mI M 22 (mI M 18 7).toNatClampNeg).toNatClampNeg) = 16), Ev K_X5_costOf [aR (some 4), aI (mI M1 (r101 + 1) (mI M 22 (mI M 18 7).toNatClampNeg).toNatClampNeg)] (wrI M15 18 13 ((mI M15 18 13) + 1)) (some (aI x118)) M16)
    (b31 : ∀ (r101 : Nat) (q101 : o101 = some r101) (g3 : ¬ x102 = 0) (g4 : (mI M1 (r101 + 1) (mI M 22 (mI M 18 7).toNatClampNeg).toNatClampNeg) = 16) (g17 : ¬ (mI M1 (r101 + 1) (mI M 22 (mI M 18 7).toNatClampNeg).toNatClampNeg) = 16), vp_in (mI M16 18 7) 100)
    (c32 : ∀ (r101 : Nat) (q101 : o101 = some r101) (g3 : ¬ x102 = 0) (g4 : (mI M1 (r101 + 1) (mI M 22 (mI M 18 7).toNatClampNeg).toNatClampNeg) = 16) (g17 : ¬ (mI M1 (r101 + 1) (mI M 22 (mI M 18 7).toNatClampNeg).toNatClampNeg) = 16) (g19 : ¬ (mI M1 (r101 + 1) (mI M 22 (mI M 18 7).toNatClampNeg).toNatClampNeg) = 17) (q116 : o116 = none) (g20 : (mI M1 (r101 + 1) (mI M 22 (mI M 18 7).toNatClampNeg).toNatClampNeg) < 12), Ev K_X3_handle [aR (some 18), aI (mI M1 (r101 + 1) (mI M 22 (mI M 18 7).toNatClampNeg).toNatClampNeg), aJ (mJ (wrJ M16 18 11 ((mJ M15 18 11) + ((x118 : Int32).toInt64))) (r101 + 2) (mI M 22 (mI M 18 7).toNatClampNeg).toNatClampNeg)] (wrI (wrJ M16 18 11 ((mJ M15 18 11) + ((x118 : Int32).toInt64))) 22 (mI M16 18 7).toNatClampNeg ((mI M 22 (mI M 18 7).toNatClampNeg) + 1)) (none) M17)
    (c33 : ∀ (r101 : Nat) (q101 : o101 = some r101) (g3 : ¬ x102 = 0) (g4 : (mI M1 (r101 + 1) (mI M 22 (mI M 18 7).toNatClampNeg).toNatClampNeg) = 16) (g17 : ¬ (mI M1 (r101 + 1) (mI M 22 (mI M 18 7).toNatClampNeg).toNatClampNeg) = 16) (g19 : ¬ (mI M1 (r101 + 1) (mI M 22 (mI M 18 7).toNatClampNeg).toNatClampNeg) = 17) (q116 : o116 = none) (g20 : (mI M1 (r101 + 1) (mI M 22 (mI M 18 7).toNatClampNeg).toNatClampNeg) < 12), Ev K_X3_countWords [aR (some 18)] M17 (none) M18)
    (k34 : ∀ (r101 : Nat) (q101 : o101 = some r101) (g3 : ¬ x102 = 0) (g4 : (mI M1 (r101 + 1) (mI M 22 (mI M 18 7).toNatClampNeg).toNatClampNeg) = 16) (g17 : ¬ (mI M1 (r101 + 1) (mI M 22 (mI M 18 7).toNatClampNeg).toNatClampNeg) = 16) (g19 : ¬ (mI M1 (r101 + 1) (mI M 22 (mI M 18 7).toNatClampNeg).toNatClampNeg) = 17) (q116 : o116 = none) (g20 : (mI M1 (r101 + 1) (mI M 22 (mI M 18 7).toNatClampNeg).toNatClampNeg) < 12), some (aI 0) = v ∧ M18 = M')
    (c35 : ∀ (r101 : Nat) (q101 : o101 = some r101) (g3 : ¬ x102 = 0) (g4 : (mI M1 (r101 + 1) (mI M 22 (mI M 18 7).toNatClampNeg).toNatClampNeg) = 16) (g17 : ¬ (mI M1 (r101 + 1) (mI M 22 (mI M 18 7).toNatClampNeg).toNatClampNeg) = 16) (g19 : ¬ (mI M1 (r101 + 1) (mI M 22 (mI M 18 7).toNatClampNeg).toNatClampNeg) = 17) (q116 : o116 = none) (g20 : ¬ ((mI M1 (r101 + 1) (mI M 22 (mI M 18 7).toNatClampNeg).toNatClampNeg) < 12)), Ev K_X3_flow [aR (some 18), aR (some r101), aI (mI M 22 (mI M 18 7).toNatClampNeg)] (wrI (wrJ M16 18 11 ((mJ M15 18 11) + ((x118 : Int32).toInt64))) 22 (mI M16 18 7).toNatClampNeg ((mI M 22 (mI M 18 7).toNatClampNeg) + 1)) (none) M19)
    (c36 : ∀ (r101 : Nat) (q101 : o101 = some r101) (g3 : ¬ x102 = 0) (g4 : (mI M1 (r101 + 1) (mI M 22 (mI M 18 7).toNatClampNeg).toNatClampNeg) = 16) (g17 : ¬ (mI M1 (r101 + 1) (mI M 22 (mI M 18 7).toNatClampNeg).toNatClampNeg) = 16) (g19 : ¬ (mI M1 (r101 + 1) (mI M 22 (mI M 18 7).toNatClampNeg).toNatClampNeg) = 17) (q116 : o116 = none) (g20 : ¬ ((mI M1 (r101 + 1) (mI M 22 (mI M 18 7).toNatClampNeg).toNatClampNeg) < 12)), Ev K_X3_countWords [aR (some 18)] M19 (none) M20)
    (k37 : ∀ (r101 : Nat) (q101 : o101 = some r101) (g3 : ¬ x102 = 0) (g4 : (mI M1 (r101 + 1) (mI M 22 (mI M 18 7).toNatClampNeg).toNatClampNeg) = 16) (g17 : ¬ (mI M1 (r101 + 1) (mI M 22 (mI M 18 7).toNatClampNeg).toNatClampNeg) = 16) (g19 : ¬ (mI M1 (r101 + 1) (mI M 22 (mI M 18 7).toNatClampNeg).toNatClampNeg) = 17) (q116 : o116 = none) (g20 : ¬ ((mI M1 (r101 + 1) (mI M 22 (mI M 18 7).toNatClampNeg).toNatClampNeg) < 12)), some (aI 0) = v ∧ M20 = M')
    (h38 : ∀ (r101 : Nat) (q101 : o101 = some r101) (g3 : ¬ x102 = 0) (g4 : (mI M1 (r101 + 1) (mI M 22 (mI M 18 7).toNatClampNeg).toNatClampNeg) = 16) (g17 : ¬ (mI M1 (r101 + 1) (mI M 22 (mI M 18 7).toNatClampNeg).toNatClampNeg) = 16) (g19 : ¬ (mI M1 (r101 + 1) (mI M 22 (mI M 18 7).toNatClampNeg).toNatClampNeg) = 17) (r116 : Nat) (q116 : o116 = some r116), Mt (wrI (wrJ M16 18 11 ((mJ M15 18 11) + ((x118 : Int32).toInt64))) 22 (mI M16 18 7).toNatClampNeg ((mI M 22 (mI M 18 7).toNatClampNeg) + 1)) r116)
    (c39 : ∀ (r101 : Nat) (q101 : o101 = some r101) (g3 : ¬ x102 = 0) (g4 : (mI M1 (r101 + 1) (mI M 22 (mI M 18 7).toNatClampNeg).toNatClampNeg) = 16) (g17 : ¬ (mI M1 (r101 + 1) (mI M 22 (mI M 18 7).toNatClampNeg).toNatClampNeg) = 16) (g19 : ¬ (mI M1 (r101 + 1) (mI M 22 (mI M 18 7).toNatClampNeg).toNatClampNeg) = 17) (r116 : Nat) (q116 : o116 = some r116), Ev K_X3_enter [aR (some 18), aR (some r116), aI ((mI M16 18 7) + 1)] (wrI (wrI (wrJ M16 18 11 ((mJ M15 18 11) + ((x118 : Int32).toInt64))) 22 (mI M16 18 7).toNatClampNeg ((mI M 22 (mI M 18 7).toNatClampNeg) + 1)) 18 14 ((mI M16 18 14) + 1)) (none) M21)
    (c40 : ∀ (r101 : Nat) (q101 : o101 = some r101) (g3 : ¬ x102 = 0) (g4 : (mI M1 (r101 + 1) (mI M 22 (mI M 18 7).toNatClampNeg).toNatClampNeg) = 16) (g17 : ¬ (mI M1 (r101 + 1) (mI M 22 (mI M 18 7).toNatClampNeg).toNatClampNeg) = 16) (g19 : ¬ (mI M1 (r101 + 1) (mI M 22 (mI M 18 7).toNatClampNeg).toNatClampNeg) = 17) (r116 : Nat) (q116 : o116 = some r116), Ev K_X3_countWords [aR (some 18)] M21 (none) M22)
    (k41 : ∀ (r101 : Nat) (q101 : o101 = some r101) (g3 : ¬ x102 = 0) (g4 : (mI M1 (r101 + 1) (mI M 22 (mI M 18 7).toNatClampNeg).toNatClampNeg) = 16) (g17 : ¬ (mI M1 (r101 + 1) (mI M 22 (mI M 18 7).toNatClampNeg).toNatClampNeg) = 16) (g19 : ¬ (mI M1 (r101 + 1) (mI M 22 (mI M 18 7).toNatClampNeg).toNatClampNeg) = 17) (r116 : Nat) (q116 : o116 = some r116), some (aI 0) = v ∧ M22 = M')
    (c42 : ∀ (r101 : Nat) (q101 : o101 = some r101) (g3 : ¬ x102 = 0) (g4 : (mI M1 (r101 + 1) (mI M 22 (mI M 18 7).toNatClampNeg).toNatClampNeg) = 16) (g17 : ¬ (mI M1 (r101 + 1) (mI M 22 (mI M 18 7).toNatClampNeg).toNatClampNeg) = 16) (g19 : (mI M1 (r101 + 1) (mI M 22 (mI M 18 7).toNatClampNeg).toNatClampNeg) = 17), Ev K_X3_leave [aR (some 18), aR (some r101)] (wrI (wrJ M16 18 11 ((mJ M15 18 11) + ((x118 : Int32).toInt64))) 22 (mI M16 18 7).toNatClampNeg ((mI M 22 (mI M 18 7).toNatClampNeg) + 1)) (some (aI x121)) M23)
    (k43 : ∀ (r101 : Nat) (q101 : o101 = some r101) (g3 : ¬ x102 = 0) (g4 : (mI M1 (r101 + 1) (mI M 22 (mI M 18 7).toNatClampNeg).toNatClampNeg) = 16) (g17 : ¬ (mI M1 (r101 + 1) (mI M 22 (mI M 18 7).toNatClampNeg).toNatClampNeg) = 16) (g19 : (mI M1 (r101 + 1) (mI M 22 (mI M 18 7).toNatClampNeg).toNatClampNeg) = 17), some (aI x121) = v ∧ M23 = M')
    (c44 : ∀ (r101 : Nat) (q101 : o101 = some r101) (g3 : ¬ x102 = 0) (g4 : (mI M1 (r101 + 1) (mI M 22 (mI M 18 7).toNatClampNeg).toNatClampNeg) = 16) (g17 : (mI M1 (r101 + 1) (mI M 22 (mI M 18 7).toNatClampNeg).toNatClampNeg) = 16), Ev K_X3_refuse [aR (some 18), aR o116] M15 (some (aI x122)) M24)
    (c45 : ∀ (r101 : Nat) (q101 : o101 = some r101) (g3 : ¬ x102 = 0) (g4 : (mI M1 (r101 + 1) (mI M 22 (mI M 18 7).toNatClampNeg).toNatClampNeg) = 16) (g17 : (mI M1 (r101 + 1) (mI M 22 (mI M 18 7).toNatClampNeg).toNatClampNeg) = 16) (g23 : x122 = 0), Ev K_X5_costOf [aR (some 4), aI (mI M1 (r101 + 1) (mI M 22 (mI M 18 7).toNatClampNeg).toNatClampNeg)] (wrI M24 18 13 ((mI M24 18 13) + 1)) (some (aI x124)) M25)
    (b46 : ∀ (r101 : Nat) (q101 : o101 = some r101) (g3 : ¬ x102 = 0) (g4 : (mI M1 (r101 + 1) (mI M 22 (mI M 18 7).toNatClampNeg).toNatClampNeg) = 16) (g17 : (mI M1 (r101 + 1) (mI M 22 (mI M 18 7).toNatClampNeg).toNatClampNeg) = 16) (g23 : x122 = 0), vp_in (mI M25 18 7) 100)
    (c47 : ∀ (r101 : Nat) (q101 : o101 = some r101) (g3 : ¬ x102 = 0) (g4 : (mI M1 (r101 + 1) (mI M 22 (mI M 18 7).toNatClampNeg).toNatClampNeg) = 16) (g17 : (mI M1 (r101 + 1) (mI M 22 (mI M 18 7).toNatClampNeg).toNatClampNeg) = 16) (g23 : x122 = 0) (g25 : ¬ (mI M1 (r101 + 1) (mI M 22 (mI M 18 7).toNatClampNeg).toNatClampNeg) = 17) (q116 : o116 = none) (g26 : (mI M1 (r101 + 1) (mI M 22 (mI M 18 7).toNatClampNeg).toNatClampNeg) < 12), Ev K_X3_handle [aR (some 18), aI (mI M1 (r101 + 1) (mI M 22 (mI M 18 7).toNatClampNeg).toNatClampNeg), aJ (mJ (wrJ M25 18 11 ((mJ M24 18 11) + ((x124 : Int32).toInt64))) (r101 + 2) (mI M 22 (mI M 18 7).toNatClampNeg).toNatClampNeg)] (wrI (wrJ M25 18 11 ((mJ M24 18 11) + ((x124 : Int32).toInt64))) 22 (mI M25 18 7).toNatClampNeg ((mI M 22 (mI M 18 7).toNatClampNeg) + 1)) (none) M26)
    (c48 : ∀ (r101 : Nat) (q101 : o101 = some r101) (g3 : ¬ x102 = 0) (g4 : (mI M1 (r101 + 1) (mI M 22 (mI M 18 7).toNatClampNeg).toNatClampNeg) = 16) (g17 : (mI M1 (r101 + 1) (mI M 22 (mI M 18 7).toNatClampNeg).toNatClampNeg) = 16) (g23 : x122 = 0) (g25 : ¬ (mI M1 (r101 + 1) (mI M 22 (mI M 18 7).toNatClampNeg).toNatClampNeg) = 17) (q116 : o116 = none) (g26 : (mI M1 (r101 + 1) (mI M 22 (mI M 18 7).toNatClampNeg).toNatClampNeg) < 12), Ev K_X3_countWords [aR (some 18)] M26 (none) M27)
    (k49 : ∀ (r101 : Nat) (q101 : o101 = some r101) (g3 : ¬ x102 = 0) (g4 : (mI M1 (r101 + 1) (mI M 22 (mI M 18 7).toNatClampNeg).toNatClampNeg) = 16) (g17 : (mI M1 (r101 + 1) (mI M 22 (mI M 18 7).toNatClampNeg).toNatClampNeg) = 16) (g23 : x122 = 0) (g25 : ¬ (mI M1 (r101 + 1) (mI M 22 (mI M 18 7).toNatClampNeg).toNatClampNeg) = 17) (q116 : o116 = none) (g26 : (mI M1 (r101 + 1) (mI M 22 (mI M 18 7).toNatClampNeg).toNatClampNeg) < 12), some (aI 0) = v ∧ M27 = M')
    (c50 : ∀ (r101 : Nat) (q101 : o101 = some r101) (g3 : ¬ x102 = 0) (g4 : (mI M1 (r101 + 1) (mI M 22 (mI M 18 7).toNatClampNeg).toNatClampNeg) = 16) (g17 : (mI M1 (r101 + 1) (mI M 22 (mI M 18 7).toNatClampNeg).toNatClampNeg) = 16) (g23 : x122 = 0) (g25 : ¬ (mI M1 (r101 + 1) (mI M 22 (mI M 18 7).toNatClampNeg).toNatClampNeg) = 17) (q116 : o116 = none) (g26 : ¬ ((mI M1 (r101 + 1) (mI M 22 (mI M 18 7).toNatClampNeg).toNatClampNeg) < 12)), Ev K_X3_flow [aR (some 18), aR (some r101), aI (mI M 22 (mI M 18 7).toNatClampNeg)] (wrI (wrJ M25 18 11 ((mJ M24 18 11) + ((x124 : Int32).toInt64))) 22 (mI M25 18 7).toNatClampNeg ((mI M 22 (mI M 18 7).toNatClampNeg) + 1)) (none) M28)
    (c51 : ∀ (r101 : Nat) (q101 : o101 = some r101) (g3 : ¬ x102 = 0) (g4 : (mI M1 (r101 + 1) (mI M 22 (mI M 18 7).toNatClampNeg).toNatClampNeg) = 16) (g17 : (mI M1 (r101 + 1) (mI M 22 (mI M 18 7).toNatClampNeg).toNatClampNeg) = 16) (g23 : x122 = 0) (g25 : ¬ (mI M1 (r101 + 1) (mI M 22 (mI M 18 7).toNatClampNeg).toNatClampNeg) = 17) (q116 : o116 = none) (g26 : ¬ ((mI M1 (r101 + 1) (mI M 22 (mI M 18 7).toNatClampNeg).toNatClampNeg) < 12)), Ev K_X3_countWords [aR (some 18)] M28 (none) M29)
    (k52 : ∀ (r101 : Nat) (q101 : o101 = some r101) (g3 : ¬ x102 = 0) (g4 : (mI M1 (r101 + 1) (mI M 22 (mI M 18 7).toNatClampNeg).toNatClampNeg) = 16) (g17 : (mI M1 (r101 + 1) (mI M 22 (mI M 18 7).toNatClampNeg).toNatClampNeg) = 16) (g23 : x122 = 0) (g25 : ¬ (mI M1 (r101 + 1) (mI M 22 (mI M 18 7).toNatClampNeg).toNatClampNeg) = 17) (q116 : o116 = none) (g26 : ¬ ((mI M1 (r101 + 1) (mI M 22 (mI M 18 7).toNatClampNeg).toNatClampNeg) < 12)), some (aI 0) = v ∧ M29 = M')
    (h53 : ∀ (r101 : Nat) (q101 : o101 = some r101) (g3 : ¬ x102 = 0) (g4 : (mI M1 (r101 + 1) (mI M 22 (mI M 18 7).toNatClampNeg).toNatClampNeg) = 16) (g17 : (mI M1 (r101 + 1) (mI M 22 (mI M 18 7).toNatClampNeg).toNatClampNeg) = 16) (g23 : x122 = 0) (g25 : ¬ (mI M1 (r101 + 1) (mI M 22 (mI M 18 7).toNatClampNeg).toNatClampNeg) = 17) (r116 : Nat) (q116 : o116 = some r116), Mt (wrI (wrJ M25 18 11 ((mJ M24 18 11) + ((x124 : Int32).toInt64))) 22 (mI M25 18 7).toNatClampNeg ((mI M 22 (mI M 18 7).toNatClampNeg) + 1)) r116)
    (c54 : ∀ (r101 : Nat) (q101 : o101 = some r101) (g3 : ¬ x102 = 0) (g4 : (mI M1 (r101 + 1) (mI M 22 (mI M 18 7).toNatClampNeg).toNatClampNeg) = 16) (g17 : (mI M1 (r101 + 1) (mI M 22 (mI M 18 7).toNatClampNeg).toNatClampNeg) = 16) (g23 : x122 = 0) (g25 : ¬ (mI M1 (r101 + 1) (mI M 22 (mI M 18 7).toNatClampNeg).toNatClampNeg) = 17) (r116 : Nat) (q116 : o116 = some r116), Ev K_X3_enter [aR (some 18), aR (some r116), aI ((mI M25 18 7) + 1)] (wrI (wrI (wrJ M25 18 11 ((mJ M24 18 11) + ((x124 : Int32).toInt64))) 22 (mI M25 18 7).toNatClampNeg ((mI M 22 (mI M 18 7).toNatClampNeg) + 1)) 18 14 ((mI M25 18 14) + 1)) (none) M30)
    (c55 : ∀ (r101 : Nat) (q101 : o101 = some r101) (g3 : ¬ x102 = 0) (g4 : (mI M1 (r101 + 1) (mI M 22 (mI M 18 7).toNatClampNeg).toNatClampNeg) = 16) (g17 : (mI M1 (r101 + 1) (mI M 22 (mI M 18 7).toNatClampNeg).toNatClampNeg) = 16) (g23 : x122 = 0) (g25 : ¬ (mI M1 (r101 + 1) (mI M 22 (mI M 18 7).toNatClampNeg).toNatClampNeg) = 17) (r116 : Nat) (q116 : o116 = some r116), Ev K_X3_countWords [aR (some 18)] M30 (none) M31)
    (k56 : ∀ (r101 : Nat) (q101 : o101 = some r101) (g3 : ¬ x102 = 0) (g4 : (mI M1 (r101 + 1) (mI M 22 (mI M 18 7).toNatClampNeg).toNatClampNeg) = 16) (g17 : (mI M1 (r101 + 1) (mI M 22 (mI M 18 7).toNatClampNeg).toNatClampNeg) = 16) (g23 : x122 = 0) (g25 : ¬ (mI M1 (r101 + 1) (mI M 22 (mI M 18 7).toNatClampNeg).toNatClampNeg) = 17) (r116 : Nat) (q116 : o116 = some r116), some (aI 0) = v ∧ M31 = M')
    (c57 : ∀ (r101 : Nat) (q101 : o101 = some r101) (g3 : ¬ x102 = 0) (g4 : (mI M1 (r101 + 1) (mI M 22 (mI M 18 7).toNatClampNeg).toNatClampNeg) = 16) (g17 : (mI M1 (r101 + 1) (mI M 22 (mI M 18 7).toNatClampNeg).toNatClampNeg) = 16) (g23 : x122 = 0) (g25 : (mI M1 (r101 + 1) (mI M 22 (mI M 18 7).toNatClampNeg).toNatClampNeg) = 17), Ev K_X3_leave [aR (some 18), aR (some r101)] (wrI (wrJ M25 18 11 ((mJ M24 18 11) + ((x124 : Int32).toInt64))) 22 (mI M25 18 7).toNatClampNeg ((mI M 22 (mI M 18 7).toNatClampNeg) + 1)) (some (aI x127)) M32)
    (k58 : ∀ (r101 : Nat) (q101 : o101 = some r101) (g3 : ¬ x102 = 0) (g4 : (mI M1 (r101 + 1) (mI M 22 (mI M 18 7).toNatClampNeg).toNatClampNeg) = 16) (g17 : (mI M1 (r101 + 1) (mI M 22 (mI M 18 7).toNatClampNeg).toNatClampNeg) = 16) (g23 : x122 = 0) (g25 : (mI M1 (r101 + 1) (mI M 22 (mI M 18 7).toNatClampNeg).toNatClampNeg) = 17), some (aI x127) = v ∧ M32 = M')
    (k59 : ∀ (r101 : Nat) (q101 : o101 = some r101) (g3 : ¬ x102 = 0) (g4 : (mI M1 (r101 + 1) (mI M 22 (mI M 18 7).toNatClampNeg).toNatClampNeg) = 16) (g17 : (mI M1 (r101 + 1) (mI M 22 (mI M 18 7).toNatClampNeg).toNatClampNeg) = 16) (g23 : ¬ x122 = 0), some (aI x122) = v ∧ M24 = M')
    (k60 : ∀ (r101 : Nat) (q101 : o101 = some r101) (g3 : x102 = 0), some (aI 4) = v ∧ M1 = M') :
    Ev K_X3_doNext [aR (some 18)] M v M' := by
  refine ⟨Nat.le_of_ble_eq_true rfl, ?_⟩
  show E K_X3_doNext 0 [some (aR (some 18)), none, none, none, none, none] [] M v M'
  refine e_aload_n dX3_doNext_0 rfl ?_
  refine e_get ff_3_3 hS.l18 w195 dX3_doNext_1 (w := aR (some 21)) hS.f18_3 ?_
  refine e_aload_n dX3_doNext_4 rfl ?_
  refine e_get ff_3_7 hS.l18 w199 dX3_doNext_5 (w := aI (mI M 18 7)) rfl ?_
  refine e_aaldv (w := o101) hS.l21 (hS.b21 b1) dX3_doNext_8 q2 ?_
  refine e_astore_n dX3_doNext_9 (Nat.le_of_ble_eq_true rfl) ?_
  show E K_X3_doNext 10 [some (aR (some 18)), some (aR o101), none, none, none, none] [] M v M'
  refine e_aload_n dX3_doNext_10 rfl ?_
  refine e_get ff_3_4 hS.l18 w196 dX3_doNext_11 (w := aR (some 22)) hS.f18_4 ?_
  refine e_aload_n dX3_doNext_14 rfl ?_
  refine e_get ff_3_7 hS.l18 w199 dX3_doNext_15 (w := aI (mI M 18 7)) rfl ?_
  refine e_iald hS.l22 (hS.b22 b1) dX3_doNext_18 ?_
  refine e_istore_n dX3_doNext_19 (Nat.le_of_ble_eq_true rfl) ?_
  show E K_X3_doNext 20 [some (aR (some 18)), some (aR o101), some (aI (mI M 22 (mI M 18 7).toNatClampNeg)), none, none, none] [] M v M'
  refine e_aload_n dX3_doNext_20 rfl ?_
  refine e_ifnull (tgt := 33) dX3_doNext_21 rfl (fun z => ?_) (fun z => ?_)
  ·
    have q101 : o101 = none := z
    refine e_iconst (u := 4) dX3_doNext_33 (by decide) ?_
    exact e_iret rfl dX3_doNext_34 (k3 q101)
  ·
    obtain ⟨r101, q101⟩ : ∃ r, o101 = some r := by cases o101 with | none => exact absurd rfl z | some r => exact ⟨r, rfl⟩
    have h_r101 : Mt M r101 := (h4 r101 q101)
    rw [q101]
    refine e_aload_n dX3_doNext_24 rfl ?_
    refine e_iload_n dX3_doNext_25 rfl ?_
    refine e_i2l dX3_doNext_26 ?_
    refine e_callV (As := [aJ ((mI M 22 (mI M 18 7).toNatClampNeg : Int32).toInt64)]) (rest := []) vk_X4_has h_r101.l0 w763 ⟨by decide, by decide⟩ (Nat.le_of_ble_eq_true rfl) dX3_doNext_27 (c5 r101 q101) ?_
    show E K_X3_doNext 30 [some (aR (some 18)), some (aR (some r101)), some (aI (mI M 22 (mI M 18 7).toNatClampNeg)), none, none, none] [aI x102] M1 v M'
    have hS_1 : St M1 := St.sh (M := M) (c5 r101 q101).2.1 hS
    have h_r101_1 : Mt M1 r101 := Mt.sh (M := M) (c5 r101 q101).2.1 h_r101
    refine e_if_ne (tgt := 35) dX3_doNext_30 rfl (fun g3 => ?_) (fun g3 => ?_)
    ·
      refine e_aload_n dX3_doNext_35 rfl ?_
      refine e_getN ff_4_3 h_r101_1.l0 w367 dX3_doNext_36 (w := aR (some (r101 + 1))) h_r101_1.f3 ?_
      refine e_iload_n dX3_doNext_39 rfl ?_
      refine e_iald h_r101_1.l1 (h_r101_1.b1 (b6 r101 q101 g3)) dX3_doNext_40 ?_
      refine e_istore_n dX3_doNext_41 (Nat.le_of_ble_eq_true rfl) ?_
      show E K_X3_doNext 42 [some (aR (some 18)), some (aR (some r101)), some (aI (mI M 22 (mI M 18 7).toNatClampNeg)), some (aI (mI M1 (r101 + 1) (mI M 22 (mI M 18 7).toNatClampNeg).toNatClampNeg)), none, none] [] M1 v M'
      refine e_iload_n dX3_doNext_42 rfl ?_
      refine e_bipush (u := 16) dX3_doNext_43 (by decide) ?_
      refine e_icmp_ne (tgt := 64) dX3_doNext_45 rfl (fun g4 => ?_) (fun g4 => ?_)
      ·
        refine e_null dX3_doNext_64 ?_
        refine e_astore dX3_doNext_65 (Nat.le_of_ble_eq_true rfl) ?_
        show E K_X3_doNext 67 [some (aR (some 18)), some (aR (some r101)), some (aI (mI M 22 (mI M 18 7).toNatClampNeg)), some (aI (mI M1 (r101 + 1) (mI M 22 (mI M 18 7).toNatClampNeg).toNatClampNeg)), some (aR none), none] [] M1 v M'
        refine e_iload_n dX3_doNext_67 rfl ?_
        refine e_bipush (u := 16) dX3_doNext_68 (by decide) ?_
        refine e_icmp_ne (tgt := 82) dX3_doNext_70 rfl (fun g5 => ?_) (fun g5 => ?_)
        ·
          refine e_iconst (u := 0) dX3_doNext_82 (by decide) ?_
          refine e_istore dX3_doNext_83 (Nat.le_of_ble_eq_true rfl) ?_
          show E K_X3_doNext 85 [some (aR (some 18)), some (aR (some r101)), some (aI (mI M 22 (mI M 18 7).toNatClampNeg)), some (aI (mI M1 (r101 + 1) (mI M 22 (mI M 18 7).toNatClampNeg).toNatClampNeg)), some (aR none), some (aI 0)] [] M1 v M'
          refine e_iload dX3_doNext_85 rfl ?_
          refine e_if_eq (tgt := 93) dX3_doNext_87 rfl (fun z => ?_) (fun z => ?_)
          ·
            refine e_aload_n dX3_doNext_93 rfl ?_
            refine e_dupR dX3_doNext_94 ?_
            refine e_get ff_3_13 hS_1.l18 w205 dX3_doNext_95 (w := aI (mI M1 18 13)) rfl ?_
            refine e_iconst (u := 1) dX3_doNext_98 (by decide) ?_
            refine e_iadd dX3_doNext_99 ?_
            refine e_putI ff_3_13 rfl hS_1.l18 w205 dX3_doNext_100 ?_
            refine e_aload_n dX3_doNext_103 rfl ?_
            refine e_dupR dX3_doNext_104 ?_
            refine e_get ff_3_11 hS_1.l18 w203 dX3_doNext_105 (w := aJ (mJ M1 18 11)) rfl ?_
            refine e_aload_n dX3_doNext_108 rfl ?_
            refine e_get ff_3_0 hS_1.l18 w192 dX3_doNext_109 (w := aR (some 4)) hS_1.f18_0 ?_
            refine e_iload_n dX3_doNext_112 rfl ?_
            refine e_callV (As := [aI (mI M1 (r101 + 1) (mI M 22 (mI M 18 7).toNatClampNeg).toNatClampNeg)]) (rest := [aJ (mJ M1 18 11), aR (some 18)]) vk_X5_costOf hS_1.l4 w769 ⟨by decide, by decide⟩ (Nat.le_of_ble_eq_true rfl) dX3_doNext_113 (c7 r101 q101 g3 g4 g5) ?_
            show E K_X3_doNext 116 [some (aR (some 18)), some (aR (some r101)), some (aI (mI M 22 (mI M 18 7).toNatClampNeg)), some (aI (mI M1 (r101 + 1) (mI M 22 (mI M 18 7).toNatClampNeg).toNatClampNeg)), some (aR none), some (aI 0)] [aI x106, aJ (mJ M1 18 11), aR (some 18)] M2 v M'
            have hS_2 : St M2 := St.sh (M := (wrI M1 18 13 ((mI M1 18 13) + 1))) (c7 r101 q101 g3 g4 g5).2.1 hS_1
            have h_r101_1_2 : Mt M2 r101 := Mt.sh (M := (wrI M1 18 13 ((mI M1 18 13) + 1))) (c7 r101 q101 g3 g4 g5).2.1 h_r101_1
            refine e_i2l dX3_doNext_116 ?_
            refine e_ladd dX3_doNext_117 ?_
            refine e_putJ ff_3_11 rfl hS_2.l18 w203 dX3_doNext_118 ?_
            refine e_aload_n dX3_doNext_121 rfl ?_
            refine e_get ff_3_4 hS_2.l18 w196 dX3_doNext_122 (w := aR (some 22)) hS_2.f18_4 ?_
            refine e_aload_n dX3_doNext_125 rfl ?_
            refine e_get ff_3_7 hS_2.l18 w199 dX3_doNext_126 (w := aI (mI M2 18 7)) rfl ?_
            refine e_iload_n dX3_doNext_129 rfl ?_
            refine e_iconst (u := 1) dX3_doNext_130 (by decide) ?_
            refine e_iadd dX3_doNext_131 ?_
            refine e_iast hS_2.l22 (hS_2.b22 (b8 r101 q101 g3 g4 g5)) dX3_doNext_132 ?_
            refine e_iload_n dX3_doNext_133 rfl ?_
            refine e_bipush (u := 17) dX3_doNext_134 (by decide) ?_
            refine e_icmp_ne (tgt := 145) dX3_doNext_136 rfl (fun g7 => ?_) (fun g7 => ?_)
            ·
              refine e_aload dX3_doNext_145 rfl ?_
              refine e_ifnull (tgt := 175) dX3_doNext_147 rfl (fun z => ?_) (fun z => ?_)
              ·
                refine e_iload_n dX3_doNext_175 rfl ?_
                refine e_bipush (u := 12) dX3_doNext_176 (by decide) ?_
                refine e_icmp_lt (tgt := 190) dX3_doNext_178 rfl (fun g8 => ?_) (fun g8 => ?_)
                ·
                  refine e_aload_n dX3_doNext_190 rfl ?_
                  refine e_iload_n dX3_doNext_191 rfl ?_
                  refine e_aload_n dX3_doNext_192 rfl ?_
                  refine e_getN ff_4_4 h_r101_1_2.l0 w371 dX3_doNext_193 (w := aR (some (r101 + 2))) h_r101_1_2.f4 ?_
                  refine e_iload_n dX3_doNext_196 rfl ?_
                  refine e_lald h_r101_1_2.l2 (h_r101_1_2.b2 (b6 r101 q101 g3)) dX3_doNext_197 ?_
                  show E K_X3_doNext 198 [some (aR (some 18)), some (aR (some r101)), some (aI (mI M 22 (mI M 18 7).toNatClampNeg)), some (aI (mI M1 (r101 + 1) (mI M 22 (mI M 18 7).toNatClampNeg).toNatClampNeg)), some (aR none), some (aI 0)] [aJ (mJ (wrJ M2 18 11 ((mJ M1 18 11) + ((x106 : Int32).toInt64))) (r101 + 2) (mI M 22 (mI M 18 7).toNatClampNeg).toNatClampNeg), aI (mI M1 (r101 + 1) (mI M 22 (mI M 18 7).toNatClampNeg).toNatClampNeg), aR (some 18)] (wrI (wrJ M2 18 11 ((mJ M1 18 11) + ((x106 : Int32).toInt64))) 22 (mI M2 18 7).toNatClampNeg ((mI M 22 (mI M 18 7).toNatClampNeg) + 1)) v M'
                  refine e_callV (As := [aI (mI M1 (r101 + 1) (mI M 22 (mI M 18 7).toNatClampNeg).toNatClampNeg), aJ (mJ (wrJ M2 18 11 ((mJ M1 18 11) + ((x106 : Int32).toInt64))) (r101 + 2) (mI M 22 (mI M 18 7).toNatClampNeg).toNatClampNeg)]) (rest := []) vk_X3_handle hS_2.l18 w794 ⟨by decide, by decide⟩ (Nat.le_of_ble_eq_true rfl) dX3_doNext_198 (c9 r101 q101 g3 g4 g5 g7 g8) ?_
                  show E K_X3_doNext 201 [some (aR (some 18)), some (aR (some r101)), some (aI (mI M 22 (mI M 18 7).toNatClampNeg)), some (aI (mI M1 (r101 + 1) (mI M 22 (mI M 18 7).toNatClampNeg).toNatClampNeg)), some (aR none), some (aI 0)] [] M3 v M'
                  have hS_3 : St M3 := St.sh (M := (wrI (wrJ M2 18 11 ((mJ M1 18 11) + ((x106 : Int32).toInt64))) 22 (mI M2 18 7).toNatClampNeg ((mI M 22 (mI M 18 7).toNatClampNeg) + 1))) (c9 r101 q101 g3 g4 g5 g7 g8).2.1 hS_2
                  have h_r101_1_2_3 : Mt M3 r101 := Mt.sh (M := (wrI (wrJ M2 18 11 ((mJ M1 18 11) + ((x106 : Int32).toInt64))) 22 (mI M2 18 7).toNatClampNeg ((mI M 22 (mI M 18 7).toNatClampNeg) + 1))) (c9 r101 q101 g3 g4 g5 g7 g8).2.1 h_r101_1_2
                  refine e_aload_n dX3_doNext_201 rfl ?_
                  refine e_callV (As := []) (rest := []) vk_X3_countWords hS_3.l18 w752 ⟨by decide, by decide⟩ (Nat.le_of_ble_eq_true rfl) dX3_doNext_202 (c10 r101 q101 g3 g4 g5 g7 g8) ?_
                  show E K_X3_doNext 205 [some (aR (some 18)), some (aR (some r101)), some (aI (mI M 22 (mI M 18 7).toNatClampNeg)), some (aI (mI M1 (r101 + 1) (mI M 22 (mI M 18 7).toNatClampNeg).toNatClampNeg)), some (aR none), some (aI 0)] [] M4 v M'
                  have hS_4 : St M4 := St.sh (M := M3) (c10 r101 q101 g3 g4 g5 g7 g8).2.1 hS_3
                  have h_r101_1_2_3_4 : Mt M4 r101 := Mt.sh (M := M3) (c10 r101 q101 g3 g4 g5 g7 g8).2.1 h_r101_1_2_3
                  refine e_iconst (u := 0) dX3_doNext_205 (by decide) ?_
                  exact e_iret rfl dX3_doNext_206 (k11 r101 q101 g3 g4 g5 g7 g8)
                ·
                  refine e_aload_n dX3_doNext_181 rfl ?_
                  refine e_aload_n dX3_doNext_182 rfl ?_
                  refine e_iload_n dX3_doNext_183 rfl ?_
                  refine e_callV (As := [aR (some r101), aI (mI M 22 (mI M 18 7).toNatClampNeg)]) (rest := []) vk_X3_flow hS_2.l18 w782 ⟨by decide, by decide⟩ (Nat.le_of_ble_eq_true rfl) dX3_doNext_184 (c12 r101 q101 g3 g4 g5 g7 g8) ?_
                  show E K_X3_doNext 187 [some (aR (some 18)), some (aR (some r101)), some (aI (mI M 22 (mI M 18 7).toNatClampNeg)), some (aI (mI M1 (r101 + 1) (mI M 22 (mI M 18 7).toNatClampNeg).toNatClampNeg)), some (aR none), some (aI 0)] [] M5 v M'
                  have hS_5 : St M5 := St.sh (M := (wrI (wrJ M2 18 11 ((mJ M1 18 11) + ((x106 : Int32).toInt64))) 22 (mI M2 18 7).toNatClampNeg ((mI M 22 (mI M 18 7).toNatClampNeg) + 1))) (c12 r101 q101 g3 g4 g5 g7 g8).2.1 hS_2
                  have h_r101_1_2_5 : Mt M5 r101 := Mt.sh (M := (wrI (wrJ M2 18 11 ((mJ M1 18 11) + ((x106 : Int32).toInt64))) 22 (mI M2 18 7).toNatClampNeg ((mI M 22 (mI M 18 7).toNatClampNeg) + 1))) (c12 r101 q101 g3 g4 g5 g7 g8).2.1 h_r101_1_2
                  refine e_goto (tgt := 201) dX3_doNext_187 rfl ?_
                  refine e_aload_n dX3_doNext_201 rfl ?_
                  refine e_callV (As := []) (rest := []) vk_X3_countWords hS_5.l18 w752 ⟨by decide, by decide⟩ (Nat.le_of_ble_eq_true rfl) dX3_doNext_202 (c13 r101 q101 g3 g4 g5 g7 g8) ?_
                  show E K_X3_doNext 205 [some (aR (some 18)), some (aR (some r101)), some (aI (mI M 22 (mI M 18 7).toNatClampNeg)), some (aI (mI M1 (r101 + 1) (mI M 22 (mI M 18 7).toNatClampNeg).toNatClampNeg)), some (aR none), some (aI 0)] [] M6 v M'
                  have hS_6 : St M6 := St.sh (M := M5) (c13 r101 q101 g3 g4 g5 g7 g8).2.1 hS_5
                  have h_r101_1_2_5_6 : Mt M6 r101 := Mt.sh (M := M5) (c13 r101 q101 g3 g4 g5 g7 g8).2.1 h_r101_1_2_5
                  refine e_iconst (u := 0) dX3_doNext_205 (by decide) ?_
                  exact e_iret rfl dX3_doNext_206 (k14 r101 q101 g3 g4 g5 g7 g8)
              · exact absurd rfl z
            ·
              refine e_aload_n dX3_doNext_139 rfl ?_
              refine e_aload_n dX3_doNext_140 rfl ?_
              refine e_callV (As := [aR (some r101)]) (rest := []) vk_X3_leave hS_2.l18 w770 ⟨by decide, by decide⟩ (Nat.le_of_ble_eq_true rfl) dX3_doNext_141 (c15 r101 q101 g3 g4 g5 g7) ?_
              show E K_X3_doNext 144 [some (aR (some 18)), some (aR (some r101)), some (aI (mI M 22 (mI M 18 7).toNatClampNeg)), some (aI (mI M1 (r101 + 1) (mI M 22 (mI M 18 7).toNatClampNeg).toNatClampNeg)), some (aR none), some (aI 0)] [aI x109] M7 v M'
              have hS_7 : St M7 := St.sh (M := (wrI (wrJ M2 18 11 ((mJ M1 18 11) + ((x106 : Int32).toInt64))) 22 (mI M2 18 7).toNatClampNeg ((mI M 22 (mI M 18 7).toNatClampNeg) + 1))) (c15 r101 q101 g3 g4 g5 g7).2.1 hS_2
              have h_r101_1_2_7 : Mt M7 r101 := Mt.sh (M := (wrI (wrJ M2 18 11 ((mJ M1 18 11) + ((x106 : Int32).toInt64))) 22 (mI M2 18 7).toNatClampNeg ((mI M 22 (mI M 18 7).toNatClampNeg) + 1))) (c15 r101 q101 g3 g4 g5 g7).2.1 h_r101_1_2
              exact e_iret rfl dX3_doNext_144 (k16 r101 q101 g3 g4 g5 g7)
          · exact absurd z (by decide)
        ·
          refine e_aload_n dX3_doNext_73 rfl ?_
          refine e_aload dX3_doNext_74 rfl ?_
          refine e_callV (As := [aR none]) (rest := []) vk_X3_refuse hS_1.l18 w765 ⟨by decide, by decide⟩ (Nat.le_of_ble_eq_true rfl) dX3_doNext_76 (c17 r101 q101 g3 g4 g5) ?_
          show E K_X3_doNext 79 [some (aR (some 18)), some (aR (some r101)), some (aI (mI M 22 (mI M 18 7).toNatClampNeg)), some (aI (mI M1 (r101 + 1) (mI M 22 (mI M 18 7).toNatClampNeg).toNatClampNeg)), some (aR none), none] [aI x110] M8 v M'
          have hS_8 : St M8 := St.sh (M := M1) (c17 r101 q101 g3 g4 g5).2.1 hS_1
          have h_r101_1_8 : Mt M8 r101 := Mt.sh (M := M1) (c17 r101 q101 g3 g4 g5).2.1 h_r101_1
          refine e_goto (tgt := 83) dX3_doNext_79 rfl ?_
          refine e_istore dX3_doNext_83 (Nat.le_of_ble_eq_true rfl) ?_
          show E K_X3_doNext 85 [some (aR (some 18)), some (aR (some r101)), some (aI (mI M 22 (mI M 18 7).toNatClampNeg)), some (aI (mI M1 (r101 + 1) (mI M 22 (mI M 18 7).toNatClampNeg).toNatClampNeg)), some (aR none), some (aI x110)] [] M8 v M'
          refine e_iload dX3_doNext_85 rfl ?_
          refine e_if_eq (tgt := 93) dX3_doNext_87 rfl (fun g11 => ?_) (fun g11 => ?_)
          ·
            refine e_aload_n dX3_doNext_93 rfl ?_
            refine e_dupR dX3_doNext_94 ?_
            refine e_get ff_3_13 hS_8.l18 w205 dX3_doNext_95 (w := aI (mI M8 18 13)) rfl ?_
            refine e_iconst (u := 1) dX3_doNext_98 (by decide) ?_
            refine e_iadd dX3_doNext_99 ?_
            refine e_putI ff_3_13 rfl hS_8.l18 w205 dX3_doNext_100 ?_
            refine e_aload_n dX3_doNext_103 rfl ?_
            refine e_dupR dX3_doNext_104 ?_
            refine e_get ff_3_11 hS_8.l18 w203 dX3_doNext_105 (w := aJ (mJ M8 18 11)) rfl ?_
            refine e_aload_n dX3_doNext_108 rfl ?_
            refine e_get ff_3_0 hS_8.l18 w192 dX3_doNext_109 (w := aR (some 4)) hS_8.f18_0 ?_
            refine e_iload_n dX3_doNext_112 rfl ?_
            refine e_callV (As := [aI (mI M1 (r101 + 1) (mI M 22 (mI M 18 7).toNatClampNeg).toNatClampNeg)]) (rest := [aJ (mJ M8 18 11), aR (some 18)]) vk_X5_costOf hS_8.l4 w769 ⟨by decide, by decide⟩ (Nat.le_of_ble_eq_true rfl) dX3_doNext_113 (c18 r101 q101 g3 g4 g5 g11) ?_
            show E K_X3_doNext 116 [some (aR (some 18)), some (aR (some r101)), some (aI (mI M 22 (mI M 18 7).toNatClampNeg)), some (aI (mI M1 (r101 + 1) (mI M 22 (mI M 18 7).toNatClampNeg).toNatClampNeg)), some (aR none), some (aI x110)] [aI x112, aJ (mJ M8 18 11), aR (some 18)] M9 v M'
            have hS_9 : St M9 := St.sh (M := (wrI M8 18 13 ((mI M8 18 13) + 1))) (c18 r101 q101 g3 g4 g5 g11).2.1 hS_8
            have h_r101_1_8_9 : Mt M9 r101 := Mt.sh (M := (wrI M8 18 13 ((mI M8 18 13) + 1))) (c18 r101 q101 g3 g4 g5 g11).2.1 h_r101_1_8
            refine e_i2l dX3_doNext_116 ?_
            refine e_ladd dX3_doNext_117 ?_
            refine e_putJ ff_3_11 rfl hS_9.l18 w203 dX3_doNext_118 ?_
            refine e_aload_n dX3_doNext_121 rfl ?_
            refine e_get ff_3_4 hS_9.l18 w196 dX3_doNext_122 (w := aR (some 22)) hS_9.f18_4 ?_
            refine e_aload_n dX3_doNext_125 rfl ?_
            refine e_get ff_3_7 hS_9.l18 w199 dX3_doNext_126 (w := aI (mI M9 18 7)) rfl ?_
            refine e_iload_n dX3_doNext_129 rfl ?_
            refine e_iconst (u := 1) dX3_doNext_130 (by decide) ?_
            refine e_iadd dX3_doNext_131 ?_
            refine e_iast hS_9.l22 (hS_9.b22 (b19 r101 q101 g3 g4 g5 g11)) dX3_doNext_132 ?_
            refine e_iload_n dX3_doNext_133 rfl ?_
            refine e_bipush (u := 17) dX3_doNext_134 (by decide) ?_
            refine e_icmp_ne (tgt := 145) dX3_doNext_136 rfl (fun g13 => ?_) (fun g13 => ?_)
            ·
              refine e_aload dX3_doNext_145 rfl ?_
              refine e_ifnull (tgt := 175) dX3_doNext_147 rfl (fun z => ?_) (fun z => ?_)
              ·
                refine e_iload_n dX3_doNext_175 rfl ?_
                refine e_bipush (u := 12) dX3_doNext_176 (by decide) ?_
                refine e_icmp_lt (tgt := 190) dX3_doNext_178 rfl (fun g14 => ?_) (fun g14 => ?_)
                ·
                  refine e_aload_n dX3_doNext_190 rfl ?_
                  refine e_iload_n dX3_doNext_191 rfl ?_
                  refine e_aload_n dX3_doNext_192 rfl ?_
                  refine e_getN ff_4_4 h_r101_1_8_9.l0 w371 dX3_doNext_193 (w := aR (some (r101 + 2))) h_r101_1_8_9.f4 ?_
                  refine e_iload_n dX3_doNext_196 rfl ?_
                  refine e_lald h_r101_1_8_9.l2 (h_r101_1_8_9.b2 (b6 r101 q101 g3)) dX3_doNext_197 ?_
                  show E K_X3_doNext 198 [some (aR (some 18)), some (aR (some r101)), some (aI (mI M 22 (mI M 18 7).toNatClampNeg)), some (aI (mI M1 (r101 + 1) (mI M 22 (mI M 18 7).toNatClampNeg).toNatClampNeg)), some (aR none), some (aI x110)] [aJ (mJ (wrJ M9 18 11 ((mJ M8 18 11) + ((x112 : Int32).toInt64))) (r101 + 2) (mI M 22 (mI M 18 7).toNatClampNeg).toNatClampNeg), aI (mI M1 (r101 + 1) (mI M 22 (mI M 18 7).toNatClampNeg).toNatClampNeg), aR (some 18)] (wrI (wrJ M9 18 11 ((mJ M8 18 11) + ((x112 : Int32).toInt64))) 22 (mI M9 18 7).toNatClampNeg ((mI M 22 (mI M 18 7).toNatClampNeg) + 1)) v M'
                  refine e_callV (As := [aI (mI M1 (r101 + 1) (mI M 22 (mI M 18 7).toNatClampNeg).toNatClampNeg), aJ (mJ (wrJ M9 18 11 ((mJ M8 18 11) + ((x112 : Int32).toInt64))) (r101 + 2) (mI M 22 (mI M 18 7).toNatClampNeg).toNatClampNeg)]) (rest := []) vk_X3_handle hS_9.l18 w794 ⟨by decide, by decide⟩ (Nat.le_of_ble_eq_true rfl) dX3_doNext_198 (c20 r101 q101 g3 g4 g5 g11 g13 g14) ?_
                  show E K_X3_doNext 201 [some (aR (some 18)), some (aR (some r101)), some (aI (mI M 22 (mI M 18 7).toNatClampNeg)), some (aI (mI M1 (r101 + 1) (mI M 22 (mI M 18 7).toNatClampNeg).toNatClampNeg)), some (aR none), some (aI x110)] [] M10 v M'
                  have hS_10 : St M10 := St.sh (M := (wrI (wrJ M9 18 11 ((mJ M8 18 11) + ((x112 : Int32).toInt64))) 22 (mI M9 18 7).toNatClampNeg ((mI M 22 (mI M 18 7).toNatClampNeg) + 1))) (c20 r101 q101 g3 g4 g5 g11 g13 g14).2.1 hS_9
                  have h_r101_1_8_9_10 : Mt M10 r101 := Mt.sh (M := (wrI (wrJ M9 18 11 ((mJ M8 18 11) + ((x112 : Int32).toInt64))) 22 (mI M9 18 7).toNatClampNeg ((mI M 22 (mI M 18 7).toNatClampNeg) + 1))) (c20 r101 q101 g3 g4 g5 g11 g13 g14).2.1 h_r101_1_8_9
                  refine e_aload_n dX3_doNext_201 rfl ?_
                  refine e_callV (As := []) (rest := []) vk_X3_countWords hS_10.l18 w752 ⟨by decide, by decide⟩ (Nat.le_of_ble_eq_true rfl) dX3_doNext_202 (c21 r101 q101 g3 g4 g5 g11 g13 g14) ?_
                  show E K_X3_doNext 205 [some (aR (some 18)), some (aR (some r101)), some (aI (mI M 22 (mI M 18 7).toNatClampNeg)), some (aI (mI M1 (r101 + 1) (mI M 22 (mI M 18 7).toNatClampNeg).toNatClampNeg)), some (aR none), some (aI x110)] [] M11 v M'
                  have hS_11 : St M11 := St.sh (M := M10) (c21 r101 q101 g3 g4 g5 g11 g13 g14).2.1 hS_10
                  have h_r101_1_8_9_10_11 : Mt M11 r101 := Mt.sh (M := M10) (c21 r101 q101 g3 g4 g5 g11 g13 g14).2.1 h_r101_1_8_9_10
                  refine e_iconst (u := 0) dX3_doNext_205 (by decide) ?_
                  exact e_iret rfl dX3_doNext_206 (k22 r101 q101 g3 g4 g5 g11 g13 g14)
                ·
                  refine e_aload_n dX3_doNext_181 rfl ?_
                  refine e_aload_n dX3_doNext_182 rfl ?_
                  refine e_iload_n dX3_doNext_183 rfl ?_
                  refine e_callV (As := [aR (some r101), aI (mI M 22 (mI M 18 7).toNatClampNeg)]) (rest := []) vk_X3_flow hS_9.l18 w782 ⟨by decide, by decide⟩ (Nat.le_of_ble_eq_true rfl) dX3_doNext_184 (c23 r101 q101 g3 g4 g5 g11 g13 g14) ?_
                  show E K_X3_doNext 187 [some (aR (some 18)), some (aR (some r101)), some (aI (mI M 22 (mI M 18 7).toNatClampNeg)), some (aI (mI M1 (r101 + 1) (mI M 22 (mI M 18 7).toNatClampNeg).toNatClampNeg)), some (aR none), some (aI x110)] [] M12 v M'
                  have hS_12 : St M12 := St.sh (M := (wrI (wrJ M9 18 11 ((mJ M8 18 11) + ((x112 : Int32).toInt64))) 22 (mI M9 18 7).toNatClampNeg ((mI M 22 (mI M 18 7).toNatClampNeg) + 1))) (c23 r101 q101 g3 g4 g5 g11 g13 g14).2.1 hS_9
                  have h_r101_1_8_9_12 : Mt M12 r101 := Mt.sh (M := (wrI (wrJ M9 18 11 ((mJ M8 18 11) + ((x112 : Int32).toInt64))) 22 (mI M9 18 7).toNatClampNeg ((mI M 22 (mI M 18 7).toNatClampNeg) + 1))) (c23 r101 q101 g3 g4 g5 g11 g13 g14).2.1 h_r101_1_8_9
                  refine e_goto (tgt := 201) dX3_doNext_187 rfl ?_
                  refine e_aload_n dX3_doNext_201 rfl ?_
                  refine e_callV (As := []) (rest := []) vk_X3_countWords hS_12.l18 w752 ⟨by decide, by decide⟩ (Nat.le_of_ble_eq_true rfl) dX3_doNext_202 (c24 r101 q101 g3 g4 g5 g11 g13 g14) ?_
                  show E K_X3_doNext 205 [some (aR (some 18)), some (aR (some r101)), some (aI (mI M 22 (mI M 18 7).toNatClampNeg)), some (aI (mI M1 (r101 + 1) (mI M 22 (mI M 18 7).toNatClampNeg).toNatClampNeg)), some (aR none), some (aI x110)] [] M13 v M'
                  have hS_13 : St M13 := St.sh (M := M12) (c24 r101 q101 g3 g4 g5 g11 g13 g14).2.1 hS_12
                  have h_r101_1_8_9_12_13 : Mt M13 r101 := Mt.sh (M := M12) (c24 r101 q101 g3 g4 g5 g11 g13 g14).2.1 h_r101_1_8_9_12
                  refine e_iconst (u := 0) dX3_doNext_205 (by decide) ?_
                  exact e_iret rfl dX3_doNext_206 (k25 r101 q101 g3 g4 g5 g11 g13 g14)
              · exact absurd rfl z
            ·
              refine e_aload_n dX3_doNext_139 rfl ?_
              refine e_aload_n dX3_doNext_140 rfl ?_
              refine e_callV (As := [aR (some r101)]) (rest := []) vk_X3_leave hS_9.l18 w770 ⟨by decide, by decide⟩ (Nat.le_of_ble_eq_true rfl) dX3_doNext_141 (c26 r101 q101 g3 g4 g5 g11 g13) ?_
              show E K_X3_doNext 144 [some (aR (some 18)), some (aR (some r101)), some (aI (mI M 22 (mI M 18 7).toNatClampNeg)), some (aI (mI M1 (r101 + 1) (mI M 22 (mI M 18 7).toNatClampNeg).toNatClampNeg)), some (aR none), some (aI x110)] [aI x115] M14 v M'
              have hS_14 : St M14 := St.sh (M := (wrI (wrJ M9 18 11 ((mJ M8 18 11) + ((x112 : Int32).toInt64))) 22 (mI M9 18 7).toNatClampNeg ((mI M 22 (mI M 18 7).toNatClampNeg) + 1))) (c26 r101 q101 g3 g4 g5 g11 g13).2.1 hS_9
              have h_r101_1_8_9_14 : Mt M14 r101 := Mt.sh (M := (wrI (wrJ M9 18 11 ((mJ M8 18 11) + ((x112 : Int32).toInt64))) 22 (mI M9 18 7).toNatClampNeg ((mI M 22 (mI M 18 7).toNatClampNeg) + 1))) (c26 r101 q101 g3 g4 g5 g11 g13).2.1 h_r101_1_8_9
              exact e_iret rfl dX3_doNext_144 (k27 r101 q101 g3 g4 g5 g11 g13)
          ·
            refine e_iload dX3_doNext_90 rfl ?_
            exact e_iret rfl dX3_doNext_92 (k28 r101 q101 g3 g4 g5 g11)
      ·
        refine e_aload_n dX3_doNext_48 rfl ?_
        refine e_get ff_3_0 hS_1.l18 w192 dX3_doNext_49 (w := aR (some 4)) hS_1.f18_0 ?_
        refine e_aload_n dX3_doNext_52 rfl ?_
        refine e_getN ff_4_4 h_r101_1.l0 w371 dX3_doNext_53 (w := aR (some (r101 + 2))) h_r101_1.f4 ?_
        refine e_iload_n dX3_doNext_56 rfl ?_
        refine e_lald h_r101_1.l2 (h_r101_1.b2 (b6 r101 q101 g3)) dX3_doNext_57 ?_
        refine e_callV (As := [aJ (mJ M1 (r101 + 2) (mI M 22 (mI M 18 7).toNatClampNeg).toNatClampNeg)]) (rest := []) vk_X5_find hS_1.l4 w764 ⟨by decide, by decide⟩ (Nat.le_of_ble_eq_true rfl) dX3_doNext_58 (c29 r101 q101 g3 g4) ?_
        show E K_X3_doNext 61 [some (aR (some 18)), some (aR (some r101)), some (aI (mI M 22 (mI M 18 7).toNatClampNeg)), some (aI (mI M1 (r101 + 1) (mI M 22 (mI M 18 7).toNatClampNeg).toNatClampNeg)), none, none] [aR o116] M15 v M'
        have hS_15 : St M15 := St.sh (M := M1) (c29 r101 q101 g3 g4).2.1 hS_1
        have h_r101_1_15 : Mt M15 r101 := Mt.sh (M := M1) (c29 r101 q101 g3 g4).2.1 h_r101_1
        refine e_goto (tgt := 65) dX3_doNext_61 rfl ?_
        refine e_astore dX3_doNext_65 (Nat.le_of_ble_eq_true rfl) ?_
        show E K_X3_doNext 67 [some (aR (some 18)), some (aR (some r101)), some (aI (mI M 22 (mI M 18 7).toNatClampNeg)), some (aI (mI M1 (r101 + 1) (mI M 22 (mI M 18 7).toNatClampNeg).toNatClampNeg)), some (aR o116), none] [] M15 v M'
        refine e_iload_n dX3_doNext_67 rfl ?_
        refine e_bipush (u := 16) dX3_doNext_68 (by decide) ?_
        refine e_icmp_ne (tgt := 82) dX3_doNext_70 rfl (fun g17 => ?_) (fun g17 => ?_)
        ·
          refine e_iconst (u := 0) dX3_doNext_82 (by decide) ?_
          refine e_istore dX3_doNext_83 (Nat.le_of_ble_eq_true rfl) ?_
          show E K_X3_doNext 85 [some (aR (some 18)), some (aR (some r101)), some (aI (mI M 22 (mI M 18 7).toNatClampNeg)), some (aI (mI M1 (r101 + 1) (mI M 22 (mI M 18 7).toNatClampNeg).toNatClampNeg)), some (aR o116), some (aI 0)] [] M15 v M'
          refine e_iload dX3_doNext_85 rfl ?_
          refine e_if_eq (tgt := 93) dX3_doNext_87 rfl (fun z => ?_) (fun z => ?_)
          ·
            refine e_aload_n dX3_doNext_93 rfl ?_
            refine e_dupR dX3_doNext_94 ?_
            refine e_get ff_3_13 hS_15.l18 w205 dX3_doNext_95 (w := aI (mI M15 18 13)) rfl ?_
            refine e_iconst (u := 1) dX3_doNext_98 (by decide) ?_
            refine e_iadd dX3_doNext_99 ?_
            refine e_putI ff_3_13 rfl hS_15.l18 w205 dX3_doNext_100 ?_
            refine e_aload_n dX3_doNext_103 rfl ?_
            refine e_dupR dX3_doNext_104 ?_
            refine e_get ff_3_11 hS_15.l18 w203 dX3_doNext_105 (w := aJ (mJ M15 18 11)) rfl ?_
            refine e_aload_n dX3_doNext_108 rfl ?_
            refine e_get ff_3_0 hS_15.l18 w192 dX3_doNext_109 (w := aR (some 4)) hS_15.f18_0 ?_
            refine e_iload_n dX3_doNext_112 rfl ?_
            refine e_callV (As := [aI (mI M1 (r101 + 1) (mI M 22 (mI M 18 7).toNatClampNeg).toNatClampNeg)]) (rest := [aJ (mJ M15 18 11), aR (some 18)]) vk_X5_costOf hS_15.l4 w769 ⟨by decide, by decide⟩ (Nat.le_of_ble_eq_true rfl) dX3_doNext_113 (c30 r101 q101 g3 g4 g17) ?_
            show E K_X3_doNext 116 [some (aR (some 18)), some (aR (some r101)), some (aI (mI M 22 (mI M 18 7).toNatClampNeg)), some (aI (mI M1 (r101 + 1) (mI M 22 (mI M 18 7).toNatClampNeg).toNatClampNeg)), some (aR o116), some (aI 0)] [aI x118, aJ (mJ M15 18 11), aR (some 18)] M16 v M'
            have hS_16 : St M16 := St.sh (M := (wrI M15 18 13 ((mI M15 18 13) + 1))) (c30 r101 q101 g3 g4 g17).2.1 hS_15
            have h_r101_1_15_16 : Mt M16 r101 := Mt.sh (M := (wrI M15 18 13 ((mI M15 18 13) + 1))) (c30 r101 q101 g3 g4 g17).2.1 h_r101_1_15
            refine e_i2l dX3_doNext_116 ?_
            refine e_ladd dX3_doNext_117 ?_
            refine e_putJ ff_3_11 rfl hS_16.l18 w203 dX3_doNext_118 ?_
            refine e_aload_n dX3_doNext_121 rfl ?_
            refine e_get ff_3_4 hS_16.l18 w196 dX3_doNext_122 (w := aR (some 22)) hS_16.f18_4 ?_
            refine e_aload_n dX3_doNext_125 rfl ?_
            refine e_get ff_3_7 hS_16.l18 w199 dX3_doNext_126 (w := aI (mI M16 18 7)) rfl ?_
            refine e_iload_n dX3_doNext_129 rfl ?_
            refine e_iconst (u := 1) dX3_doNext_130 (by decide) ?_
            refine e_iadd dX3_doNext_131 ?_
            refine e_iast hS_16.l22 (hS_16.b22 (b31 r101 q101 g3 g4 g17)) dX3_doNext_132 ?_
            refine e_iload_n dX3_doNext_133 rfl ?_
            refine e_bipush (u := 17) dX3_doNext_134 (by decide) ?_
            refine e_icmp_ne (tgt := 145) dX3_doNext_136 rfl (fun g19 => ?_) (fun g19 => ?_)
            ·
              refine e_aload dX3_doNext_145 rfl ?_
              refine e_ifnull (tgt := 175) dX3_doNext_147 rfl (fun z => ?_) (fun z => ?_)
              ·
                have q116 : o116 = none := z
                refine e_iload_n dX3_doNext_175 rfl ?_
                refine e_bipush (u := 12) dX3_doNext_176 (by decide) ?_
                refine e_icmp_lt (tgt := 190) dX3_doNext_178 rfl (fun g20 => ?_) (fun g20 => ?_)
                ·
                  refine e_aload_n dX3_doNext_190 rfl ?_
                  refine e_iload_n dX3_doNext_191 rfl ?_
                  refine e_aload_n dX3_doNext_192 rfl ?_
                  refine e_getN ff_4_4 h_r101_1_15_16.l0 w371 dX3_doNext_193 (w := aR (some (r101 + 2))) h_r101_1_15_16.f4 ?_
                  refine e_iload_n dX3_doNext_196 rfl ?_
                  refine e_lald h_r101_1_15_16.l2 (h_r101_1_15_16.b2 (b6 r101 q101 g3)) dX3_doNext_197 ?_
                  show E K_X3_doNext 198 [some (aR (some 18)), some (aR (some r101)), some (aI (mI M 22 (mI M 18 7).toNatClampNeg)), some (aI (mI M1 (r101 + 1) (mI M 22 (mI M 18 7).toNatClampNeg).toNatClampNeg)), some (aR o116), some (aI 0)] [aJ (mJ (wrJ M16 18 11 ((mJ M15 18 11) + ((x118 : Int32).toInt64))) (r101 + 2) (mI M 22 (mI M 18 7).toNatClampNeg).toNatClampNeg), aI (mI M1 (r101 + 1) (mI M 22 (mI M 18 7).toNatClampNeg).toNatClampNeg), aR (some 18)] (wrI (wrJ M16 18 11 ((mJ M15 18 11) + ((x118 : Int32).toInt64))) 22 (mI M16 18 7).toNatClampNeg ((mI M 22 (mI M 18 7).toNatClampNeg) + 1)) v M'
                  refine e_callV (As := [aI (mI M1 (r101 + 1) (mI M 22 (mI M 18 7).toNatClampNeg).toNatClampNeg), aJ (mJ (wrJ M16 18 11 ((mJ M15 18 11) + ((x118 : Int32).toInt64))) (r101 + 2) (mI M 22 (mI M 18 7).toNatClampNeg).toNatClampNeg)]) (rest := []) vk_X3_handle hS_16.l18 w794 ⟨by decide, by decide⟩ (Nat.le_of_ble_eq_true rfl) dX3_doNext_198 (c32 r101 q101 g3 g4 g17 g19 q116 g20) ?_
                  show E K_X3_doNext 201 [some (aR (some 18)), some (aR (some r101)), some (aI (mI M 22 (mI M 18 7).toNatClampNeg)), some (aI (mI M1 (r101 + 1) (mI M 22 (mI M 18 7).toNatClampNeg).toNatClampNeg)), some (aR o116), some (aI 0)] [] M17 v M'
                  have hS_17 : St M17 := St.sh (M := (wrI (wrJ M16 18 11 ((mJ M15 18 11) + ((x118 : Int32).toInt64))) 22 (mI M16 18 7).toNatClampNeg ((mI M 22 (mI M 18 7).toNatClampNeg) + 1))) (c32 r101 q101 g3 g4 g17 g19 q116 g20).2.1 hS_16
                  have h_r101_1_15_16_17 : Mt M17 r101 := Mt.sh (M := (wrI (wrJ M16 18 11 ((mJ M15 18 11) + ((x118 : Int32).toInt64))) 22 (mI M16 18 7).toNatClampNeg ((mI M 22 (mI M 18 7).toNatClampNeg) + 1))) (c32 r101 q101 g3 g4 g17 g19 q116 g20).2.1 h_r101_1_15_16
                  refine e_aload_n dX3_doNext_201 rfl ?_
                  refine e_callV (As := []) (rest := []) vk_X3_countWords hS_17.l18 w752 ⟨by decide, by decide⟩ (Nat.le_of_ble_eq_true rfl) dX3_doNext_202 (c33 r101 q101 g3 g4 g17 g19 q116 g20) ?_
                  show E K_X3_doNext 205 [some (aR (some 18)), some (aR (some r101)), some (aI (mI M 22 (mI M 18 7).toNatClampNeg)), some (aI (mI M1 (r101 + 1) (mI M 22 (mI M 18 7).toNatClampNeg).toNatClampNeg)), some (aR o116), some (aI 0)] [] M18 v M'
                  have hS_18 : St M18 := St.sh (M := M17) (c33 r101 q101 g3 g4 g17 g19 q116 g20).2.1 hS_17
                  have h_r101_1_15_16_17_18 : Mt M18 r101 := Mt.sh (M := M17) (c33 r101 q101 g3 g4 g17 g19 q116 g20).2.1 h_r101_1_15_16_17
                  refine e_iconst (u := 0) dX3_doNext_205 (by decide) ?_
                  exact e_iret rfl dX3_doNext_206 (k34 r101 q101 g3 g4 g17 g19 q116 g20)
                ·
                  refine e_aload_n dX3_doNext_181 rfl ?_
                  refine e_aload_n dX3_doNext_182 rfl ?_
                  refine e_iload_n dX3_doNext_183 rfl ?_
                  refine e_callV (As := [aR (some r101), aI (mI M 22 (mI M 18 7).toNatClampNeg)]) (rest := []) vk_X3_flow hS_16.l18 w782 ⟨by decide, by decide⟩ (Nat.le_of_ble_eq_true rfl) dX3_doNext_184 (c35 r101 q101 g3 g4 g17 g19 q116 g20) ?_
                  show E K_X3_doNext 187 [some (aR (some 18)), some (aR (some r101)), some (aI (mI M 22 (mI M 18 7).toNatClampNeg)), some (aI (mI M1 (r101 + 1) (mI M 22 (mI M 18 7).toNatClampNeg).toNatClampNeg)), some (aR o116), some (aI 0)] [] M19 v M'
                  have hS_19 : St M19 := St.sh (M := (wrI (wrJ M16 18 11 ((mJ M15 18 11) + ((x118 : Int32).toInt64))) 22 (mI M16 18 7).toNatClampNeg ((mI M 22 (mI M 18 7).toNatClampNeg) + 1))) (c35 r101 q101 g3 g4 g17 g19 q116 g20).2.1 hS_16
                  have h_r101_1_15_16_19 : Mt M19 r101 := Mt.sh (M := (wrI (wrJ M16 18 11 ((mJ M15 18 11) + ((x118 : Int32).toInt64))) 22 (mI M16 18 7).toNatClampNeg ((mI M 22 (mI M 18 7).toNatClampNeg) + 1))) (c35 r101 q101 g3 g4 g17 g19 q116 g20).2.1 h_r101_1_15_16
                  refine e_goto (tgt := 201) dX3_doNext_187 rfl ?_
                  refine e_aload_n dX3_doNext_201 rfl ?_
                  refine e_callV (As := []) (rest := []) vk_X3_countWords hS_19.l18 w752 ⟨by decide, by decide⟩ (Nat.le_of_ble_eq_true rfl) dX3_doNext_202 (c36 r101 q101 g3 g4 g17 g19 q116 g20) ?_
                  show E K_X3_doNext 205 [some (aR (some 18)), some (aR (some r101)), some (aI (mI M 22 (mI M 18 7).toNatClampNeg)), some (aI (mI M1 (r101 + 1) (mI M 22 (mI M 18 7).toNatClampNeg).toNatClampNeg)), some (aR o116), some (aI 0)] [] M20 v M'
                  have hS_20 : St M20 := St.sh (M := M19) (c36 r101 q101 g3 g4 g17 g19 q116 g20).2.1 hS_19
                  have h_r101_1_15_16_19_20 : Mt M20 r101 := Mt.sh (M := M19) (c36 r101 q101 g3 g4 g17 g19 q116 g20).2.1 h_r101_1_15_16_19
                  refine e_iconst (u := 0) dX3_doNext_205 (by decide) ?_
                  exact e_iret rfl dX3_doNext_206 (k37 r101 q101 g3 g4 g17 g19 q116 g20)
              ·
                obtain ⟨r116, q116⟩ : ∃ r, o116 = some r := by cases o116 with | none => exact absurd rfl z | some r => exact ⟨r, rfl⟩
                have h_r116 : Mt (wrI (wrJ M16 18 11 ((mJ M15 18 11) + ((x118 : Int32).toInt64))) 22 (mI M16 18 7).toNatClampNeg ((mI M 22 (mI M 18 7).toNatClampNeg) + 1)) r116 := (h38 r101 q101 g3 g4 g17 g19 r116 q116)
                rw [q116]
                refine e_aload_n dX3_doNext_150 rfl ?_
                refine e_dupR dX3_doNext_151 ?_
                refine e_get ff_3_14 hS_16.l18 w206 dX3_doNext_152 (w := aI (mI M16 18 14)) rfl ?_
                refine e_iconst (u := 1) dX3_doNext_155 (by decide) ?_
                refine e_iadd dX3_doNext_156 ?_
                refine e_putI ff_3_14 rfl hS_16.l18 w206 dX3_doNext_157 ?_
                refine e_aload_n dX3_doNext_160 rfl ?_
                refine e_aload dX3_doNext_161 rfl ?_
                refine e_aload_n dX3_doNext_163 rfl ?_
                refine e_get ff_3_7 hS_16.l18 w199 dX3_doNext_164 (w := aI (mI M16 18 7)) rfl ?_
                refine e_iconst (u := 1) dX3_doNext_167 (by decide) ?_
                refine e_iadd dX3_doNext_168 ?_
                refine e_callV (As := [aR (some r116), aI ((mI M16 18 7) + 1)]) (rest := []) vk_X3_enter hS_16.l18 w748 ⟨by decide, by decide⟩ (Nat.le_of_ble_eq_true rfl) dX3_doNext_169 (c39 r101 q101 g3 g4 g17 g19 r116 q116) ?_
                show E K_X3_doNext 172 [some (aR (some 18)), some (aR (some r101)), some (aI (mI M 22 (mI M 18 7).toNatClampNeg)), some (aI (mI M1 (r101 + 1) (mI M 22 (mI M 18 7).toNatClampNeg).toNatClampNeg)), some (aR (some r116)), some (aI 0)] [] M21 v M'
                have hS_21 : St M21 := St.sh (M := (wrI (wrI (wrJ M16 18 11 ((mJ M15 18 11) + ((x118 : Int32).toInt64))) 22 (mI M16 18 7).toNatClampNeg ((mI M 22 (mI M 18 7).toNatClampNeg) + 1)) 18 14 ((mI M16 18 14) + 1))) (c39 r101 q101 g3 g4 g17 g19 r116 q116).2.1 hS_16
                have h_r101_1_15_16_21 : Mt M21 r101 := Mt.sh (M := (wrI (wrI (wrJ M16 18 11 ((mJ M15 18 11) + ((x118 : Int32).toInt64))) 22 (mI M16 18 7).toNatClampNeg ((mI M 22 (mI M 18 7).toNatClampNeg) + 1)) 18 14 ((mI M16 18 14) + 1))) (c39 r101 q101 g3 g4 g17 g19 r116 q116).2.1 h_r101_1_15_16
                have h_r116_21 : Mt M21 r116 := Mt.sh (M := (wrI (wrI (wrJ M16 18 11 ((mJ M15 18 11) + ((x118 : Int32).toInt64))) 22 (mI M16 18 7).toNatClampNeg ((mI M 22 (mI M 18 7).toNatClampNeg) + 1)) 18 14 ((mI M16 18 14) + 1))) (c39 r101 q101 g3 g4 g17 g19 r116 q116).2.1 h_r116
                refine e_goto (tgt := 201) dX3_doNext_172 rfl ?_
                refine e_aload_n dX3_doNext_201 rfl ?_
                refine e_callV (As := []) (rest := []) vk_X3_countWords hS_21.l18 w752 ⟨by decide, by decide⟩ (Nat.le_of_ble_eq_true rfl) dX3_doNext_202 (c40 r101 q101 g3 g4 g17 g19 r116 q116) ?_
                show E K_X3_doNext 205 [some (aR (some 18)), some (aR (some r101)), some (aI (mI M 22 (mI M 18 7).toNatClampNeg)), some (aI (mI M1 (r101 + 1) (mI M 22 (mI M 18 7).toNatClampNeg).toNatClampNeg)), some (aR (some r116)), some (aI 0)] [] M22 v M'
                have hS_22 : St M22 := St.sh (M := M21) (c40 r101 q101 g3 g4 g17 g19 r116 q116).2.1 hS_21
                have h_r101_1_15_16_21_22 : Mt M22 r101 := Mt.sh (M := M21) (c40 r101 q101 g3 g4 g17 g19 r116 q116).2.1 h_r101_1_15_16_21
                have h_r116_21_22 : Mt M22 r116 := Mt.sh (M := M21) (c40 r101 q101 g3 g4 g17 g19 r116 q116).2.1 h_r116_21
                refine e_iconst (u := 0) dX3_doNext_205 (by decide) ?_
                exact e_iret rfl dX3_doNext_206 (k41 r101 q101 g3 g4 g17 g19 r116 q116)
            ·
              refine e_aload_n dX3_doNext_139 rfl ?_
              refine e_aload_n dX3_doNext_140 rfl ?_
              refine e_callV (As := [aR (some r101)]) (rest := []) vk_X3_leave hS_16.l18 w770 ⟨by decide, by decide⟩ (Nat.le_of_ble_eq_true rfl) dX3_doNext_141 (c42 r101 q101 g3 g4 g17 g19) ?_
              show E K_X3_doNext 144 [some (aR (some 18)), some (aR (some r101)), some (aI (mI M 22 (mI M 18 7).toNatClampNeg)), some (aI (mI M1 (r101 + 1) (mI M 22 (mI M 18 7).toNatClampNeg).toNatClampNeg)), some (aR o116), some (aI 0)] [aI x121] M23 v M'
              have hS_23 : St M23 := St.sh (M := (wrI (wrJ M16 18 11 ((mJ M15 18 11) + ((x118 : Int32).toInt64))) 22 (mI M16 18 7).toNatClampNeg ((mI M 22 (mI M 18 7).toNatClampNeg) + 1))) (c42 r101 q101 g3 g4 g17 g19).2.1 hS_16
              have h_r101_1_15_16_23 : Mt M23 r101 := Mt.sh (M := (wrI (wrJ M16 18 11 ((mJ M15 18 11) + ((x118 : Int32).toInt64))) 22 (mI M16 18 7).toNatClampNeg ((mI M 22 (mI M 18 7).toNatClampNeg) + 1))) (c42 r101 q101 g3 g4 g17 g19).2.1 h_r101_1_15_16
              exact e_iret rfl dX3_doNext_144 (k43 r101 q101 g3 g4 g17 g19)
          · exact absurd z (by decide)
        ·
          refine e_aload_n dX3_doNext_73 rfl ?_
          refine e_aload dX3_doNext_74 rfl ?_
          refine e_callV (As := [aR o116]) (rest := []) vk_X3_refuse hS_15.l18 w765 ⟨by decide, by decide⟩ (Nat.le_of_ble_eq_true rfl) dX3_doNext_76 (c44 r101 q101 g3 g4 g17) ?_
          show E K_X3_doNext 79 [some (aR (some 18)), some (aR (some r101)), some (aI (mI M 22 (mI M 18 7).toNatClampNeg)), some (aI (mI M1 (r101 + 1) (mI M 22 (mI M 18 7).toNatClampNeg).toNatClampNeg)), some (aR o116), none] [aI x122] M24 v M'
          have hS_24 : St M24 := St.sh (M := M15) (c44 r101 q101 g3 g4 g17).2.1 hS_15
          have h_r101_1_15_24 : Mt M24 r101 := Mt.sh (M := M15) (c44 r101 q101 g3 g4 g17).2.1 h_r101_1_15
          refine e_goto (tgt := 83) dX3_doNext_79 rfl ?_
          refine e_istore dX3_doNext_83 (Nat.le_of_ble_eq_true rfl) ?_
          show E K_X3_doNext 85 [some (aR (some 18)), some (aR (some r101)), some (aI (mI M 22 (mI M 18 7).toNatClampNeg)), some (aI (mI M1 (r101 + 1) (mI M 22 (mI M 18 7).toNatClampNeg).toNatClampNeg)), some (aR o116), some (aI x122)] [] M24 v M'
          refine e_iload dX3_doNext_85 rfl ?_
          refine e_if_eq (tgt := 93) dX3_doNext_87 rfl (fun g23 => ?_) (fun g23 => ?_)
          ·
            refine e_aload_n dX3_doNext_93 rfl ?_
            refine e_dupR dX3_doNext_94 ?_
            refine e_get ff_3_13 hS_24.l18 w205 dX3_doNext_95 (w := aI (mI M24 18 13)) rfl ?_
            refine e_iconst (u := 1) dX3_doNext_98 (by decide) ?_
            refine e_iadd dX3_doNext_99 ?_
            refine e_putI ff_3_13 rfl hS_24.l18 w205 dX3_doNext_100 ?_
            refine e_aload_n dX3_doNext_103 rfl ?_
            refine e_dupR dX3_doNext_104 ?_
            refine e_get ff_3_11 hS_24.l18 w203 dX3_doNext_105 (w := aJ (mJ M24 18 11)) rfl ?_
            refine e_aload_n dX3_doNext_108 rfl ?_
            refine e_get ff_3_0 hS_24.l18 w192 dX3_doNext_109 (w := aR (some 4)) hS_24.f18_0 ?_
            refine e_iload_n dX3_doNext_112 rfl ?_
            refine e_callV (As := [aI (mI M1 (r101 + 1) (mI M 22 (mI M 18 7).toNatClampNeg).toNatClampNeg)]) (rest := [aJ (mJ M24 18 11), aR (some 18)]) vk_X5_costOf hS_24.l4 w769 ⟨by decide, by decide⟩ (Nat.le_of_ble_eq_true rfl) dX3_doNext_113 (c45 r101 q101 g3 g4 g17 g23) ?_
            show E K_X3_doNext 116 [some (aR (some 18)), some (aR (some r101)), some (aI (mI M 22 (mI M 18 7).toNatClampNeg)), some (aI (mI M1 (r101 + 1) (mI M 22 (mI M 18 7).toNatClampNeg).toNatClampNeg)), some (aR o116), some (aI x122)] [aI x124, aJ (mJ M24 18 11), aR (some 18)] M25 v M'
            have hS_25 : St M25 := St.sh (M := (wrI M24 18 13 ((mI M24 18 13) + 1))) (c45 r101 q101 g3 g4 g17 g23).2.1 hS_24
            have h_r101_1_15_24_25 : Mt M25 r101 := Mt.sh (M := (wrI M24 18 13 ((mI M24 18 13) + 1))) (c45 r101 q101 g3 g4 g17 g23).2.1 h_r101_1_15_24
            refine e_i2l dX3_doNext_116 ?_
            refine e_ladd dX3_doNext_117 ?_
            refine e_putJ ff_3_11 rfl hS_25.l18 w203 dX3_doNext_118 ?_
            refine e_aload_n dX3_doNext_121 rfl ?_
            refine e_get ff_3_4 hS_25.l18 w196 dX3_doNext_122 (w := aR (some 22)) hS_25.f18_4 ?_
            refine e_aload_n dX3_doNext_125 rfl ?_
            refine e_get ff_3_7 hS_25.l18 w199 dX3_doNext_126 (w := aI (mI M25 18 7)) rfl ?_
            refine e_iload_n dX3_doNext_129 rfl ?_
            refine e_iconst (u := 1) dX3_doNext_130 (by decide) ?_
            refine e_iadd dX3_doNext_131 ?_
            refine e_iast hS_25.l22 (hS_25.b22 (b46 r101 q101 g3 g4 g17 g23)) dX3_doNext_132 ?_
            refine e_iload_n dX3_doNext_133 rfl ?_
            refine e_bipush (u := 17) dX3_doNext_134 (by decide) ?_
            refine e_icmp_ne (tgt := 145) dX3_doNext_136 rfl (fun g25 => ?_) (fun g25 => ?_)
            ·
              refine e_aload dX3_doNext_145 rfl ?_
              refine e_ifnull (tgt := 175) dX3_doNext_147 rfl (fun z => ?_) (fun z => ?_)
              ·
                have q116 : o116 = none := z
                refine e_iload_n dX3_doNext_175 rfl ?_
                refine e_bipush (u := 12) dX3_doNext_176 (by decide) ?_
                refine e_icmp_lt (tgt := 190) dX3_doNext_178 rfl (fun g26 => ?_) (fun g26 => ?_)
                ·
                  refine e_aload_n dX3_doNext_190 rfl ?_
                  refine e_iload_n dX3_doNext_191 rfl ?_
                  refine e_aload_n dX3_doNext_192 rfl ?_
                  refine e_getN ff_4_4 h_r101_1_15_24_25.l0 w371 dX3_doNext_193 (w := aR (some (r101 + 2))) h_r101_1_15_24_25.f4 ?_
                  refine e_iload_n dX3_doNext_196 rfl ?_
                  refine e_lald h_r101_1_15_24_25.l2 (h_r101_1_15_24_25.b2 (b6 r101 q101 g3)) dX3_doNext_197 ?_
                  show E K_X3_doNext 198 [some (aR (some 18)), some (aR (some r101)), some (aI (mI M 22 (mI M 18 7).toNatClampNeg)), some (aI (mI M1 (r101 + 1) (mI M 22 (mI M 18 7).toNatClampNeg).toNatClampNeg)), some (aR o116), some (aI x122)] [aJ (mJ (wrJ M25 18 11 ((mJ M24 18 11) + ((x124 : Int32).toInt64))) (r101 + 2) (mI M 22 (mI M 18 7).toNatClampNeg).toNatClampNeg), aI (mI M1 (r101 + 1) (mI M 22 (mI M 18 7).toNatClampNeg).toNatClampNeg), aR (some 18)] (wrI (wrJ M25 18 11 ((mJ M24 18 11) + ((x124 : Int32).toInt64))) 22 (mI M25 18 7).toNatClampNeg ((mI M 22 (mI M 18 7).toNatClampNeg) + 1)) v M'
                  refine e_callV (As := [aI (mI M1 (r101 + 1) (mI M 22 (mI M 18 7).toNatClampNeg).toNatClampNeg), aJ (mJ (wrJ M25 18 11 ((mJ M24 18 11) + ((x124 : Int32).toInt64))) (r101 + 2) (mI M 22 (mI M 18 7).toNatClampNeg).toNatClampNeg)]) (rest := []) vk_X3_handle hS_25.l18 w794 ⟨by decide, by decide⟩ (Nat.le_of_ble_eq_true rfl) dX3_doNext_198 (c47 r101 q101 g3 g4 g17 g23 g25 q116 g26) ?_
                  show E K_X3_doNext 201 [some (aR (some 18)), some (aR (some r101)), some (aI (mI M 22 (mI M 18 7).toNatClampNeg)), some (aI (mI M1 (r101 + 1) (mI M 22 (mI M 18 7).toNatClampNeg).toNatClampNeg)), some (aR o116), some (aI x122)] [] M26 v M'
                  have hS_26 : St M26 := St.sh (M := (wrI (wrJ M25 18 11 ((mJ M24 18 11) + ((x124 : Int32).toInt64))) 22 (mI M25 18 7).toNatClampNeg ((mI M 22 (mI M 18 7).toNatClampNeg) + 1))) (c47 r101 q101 g3 g4 g17 g23 g25 q116 g26).2.1 hS_25
                  have h_r101_1_15_24_25_26 : Mt M26 r101 := Mt.sh (M := (wrI (wrJ M25 18 11 ((mJ M24 18 11) + ((x124 : Int32).toInt64))) 22 (mI M25 18 7).toNatClampNeg ((mI M 22 (mI M 18 7).toNatClampNeg) + 1))) (c47 r101 q101 g3 g4 g17 g23 g25 q116 g26).2.1 h_r101_1_15_24_25
                  refine e_aload_n dX3_doNext_201 rfl ?_
                  refine e_callV (As := []) (rest := []) vk_X3_countWords hS_26.l18 w752 ⟨by decide, by decide⟩ (Nat.le_of_ble_eq_true rfl) dX3_doNext_202 (c48 r101 q101 g3 g4 g17 g23 g25 q116 g26) ?_
                  show E K_X3_doNext 205 [some (aR (some 18)), some (aR (some r101)), some (aI (mI M 22 (mI M 18 7).toNatClampNeg)), some (aI (mI M1 (r101 + 1) (mI M 22 (mI M 18 7).toNatClampNeg).toNatClampNeg)), some (aR o116), some (aI x122)] [] M27 v M'
                  have hS_27 : St M27 := St.sh (M := M26) (c48 r101 q101 g3 g4 g17 g23 g25 q116 g26).2.1 hS_26
                  have h_r101_1_15_24_25_26_27 : Mt M27 r101 := Mt.sh (M := M26) (c48 r101 q101 g3 g4 g17 g23 g25 q116 g26).2.1 h_r101_1_15_24_25_26
                  refine e_iconst (u := 0) dX3_doNext_205 (by decide) ?_
                  exact e_iret rfl dX3_doNext_206 (k49 r101 q101 g3 g4 g17 g23 g25 q116 g26)
                ·
                  refine e_aload_n dX3_doNext_181 rfl ?_
                  refine e_aload_n dX3_doNext_182 rfl ?_
                  refine e_iload_n dX3_doNext_183 rfl ?_
                  refine e_callV (As := [aR (some r101), aI (mI M 22 (mI M 18 7).toNatClampNeg)]) (rest := []) vk_X3_flow hS_25.l18 w782 ⟨by decide, by decide⟩ (Nat.le_of_ble_eq_true rfl) dX3_doNext_184 (c50 r101 q101 g3 g4 g17 g23 g25 q116 g26) ?_
                  show E K_X3_doNext 187 [some (aR (some 18)), some (aR (some r101)), some (aI (mI M 22 (mI M 18 7).toNatClampNeg)), some (aI (mI M1 (r101 + 1) (mI M 22 (mI M 18 7).toNatClampNeg).toNatClampNeg)), some (aR o116), some (aI x122)] [] M28 v M'
                  have hS_28 : St M28 := St.sh (M := (wrI (wrJ M25 18 11 ((mJ M24 18 11) + ((x124 : Int32).toInt64))) 22 (mI M25 18 7).toNatClampNeg ((mI M 22 (mI M 18 7).toNatClampNeg) + 1))) (c50 r101 q101 g3 g4 g17 g23 g25 q116 g26).2.1 hS_25
                  have h_r101_1_15_24_25_28 : Mt M28 r101 := Mt.sh (M := (wrI (wrJ M25 18 11 ((mJ M24 18 11) + ((x124 : Int32).toInt64))) 22 (mI M25 18 7).toNatClampNeg ((mI M 22 (mI M 18 7).toNatClampNeg) + 1))) (c50 r101 q101 g3 g4 g17 g23 g25 q116 g26).2.1 h_r101_1_15_24_25
                  refine e_goto (tgt := 201) dX3_doNext_187 rfl ?_
                  refine e_aload_n dX3_doNext_201 rfl ?_
                  refine e_callV (As := []) (rest := []) vk_X3_countWords hS_28.l18 w752 ⟨by decide, by decide⟩ (Nat.le_of_ble_eq_true rfl) dX3_doNext_202 (c51 r101 q101 g3 g4 g17 g23 g25 q116 g26) ?_
                  show E K_X3_doNext 205 [some (aR (some 18)), some (aR (some r101)), some (aI (mI M 22 (mI M 18 7).toNatClampNeg)), some (aI (mI M1 (r101 + 1) (mI M 22 (mI M 18 7).toNatClampNeg).toNatClampNeg)), some (aR o116), some (aI x122)] [] M29 v M'
                  have hS_29 : St M29 := St.sh (M := M28) (c51 r101 q101 g3 g4 g17 g23 g25 q116 g26).2.1 hS_28
                  have h_r101_1_15_24_25_28_29 : Mt M29 r101 := Mt.sh (M := M28) (c51 r101 q101 g3 g4 g17 g23 g25 q116 g26).2.1 h_r101_1_15_24_25_28
                  refine e_iconst (u := 0) dX3_doNext_205 (by decide) ?_
                  exact e_iret rfl dX3_doNext_206 (k52 r101 q101 g3 g4 g17 g23 g25 q116 g26)
              ·
                obtain ⟨r116, q116⟩ : ∃ r, o116 = some r := by cases o116 with | none => exact absurd rfl z | some r => exact ⟨r, rfl⟩
                have h_r116 : Mt (wrI (wrJ M25 18 11 ((mJ M24 18 11) + ((x124 : Int32).toInt64))) 22 (mI M25 18 7).toNatClampNeg ((mI M 22 (mI M 18 7).toNatClampNeg) + 1)) r116 := (h53 r101 q101 g3 g4 g17 g23 g25 r116 q116)
                rw [q116]
                refine e_aload_n dX3_doNext_150 rfl ?_
                refine e_dupR dX3_doNext_151 ?_
                refine e_get ff_3_14 hS_25.l18 w206 dX3_doNext_152 (w := aI (mI M25 18 14)) rfl ?_
                refine e_iconst (u := 1) dX3_doNext_155 (by decide) ?_
                refine e_iadd dX3_doNext_156 ?_
                refine e_putI ff_3_14 rfl hS_25.l18 w206 dX3_doNext_157 ?_
                refine e_aload_n dX3_doNext_160 rfl ?_
                refine e_aload dX3_doNext_161 rfl ?_
                refine e_aload_n dX3_doNext_163 rfl ?_
                refine e_get ff_3_7 hS_25.l18 w199 dX3_doNext_164 (w := aI (mI M25 18 7)) rfl ?_
                refine e_iconst (u := 1) dX3_doNext_167 (by decide) ?_
                refine e_iadd dX3_doNext_168 ?_
                refine e_callV (As := [aR (some r116), aI ((mI M25 18 7) + 1)]) (rest := []) vk_X3_enter hS_25.l18 w748 ⟨by decide, by decide⟩ (Nat.le_of_ble_eq_true rfl) dX3_doNext_169 (c54 r101 q101 g3 g4 g17 g23 g25 r116 q116) ?_
                show E K_X3_doNext 172 [some (aR (some 18)), some (aR (some r101)), some (aI (mI M 22 (mI M 18 7).toNatClampNeg)), some (aI (mI M1 (r101 + 1) (mI M 22 (mI M 18 7).toNatClampNeg).toNatClampNeg)), some (aR (some r116)), some (aI x122)] [] M30 v M'
                have hS_30 : St M30 := St.sh (M := (wrI (wrI (wrJ M25 18 11 ((mJ M24 18 11) + ((x124 : Int32).toInt64))) 22 (mI M25 18 7).toNatClampNeg ((mI M 22 (mI M 18 7).toNatClampNeg) + 1)) 18 14 ((mI M25 18 14) + 1))) (c54 r101 q101 g3 g4 g17 g23 g25 r116 q116).2.1 hS_25
                have h_r101_1_15_24_25_30 : Mt M30 r101 := Mt.sh (M := (wrI (wrI (wrJ M25 18 11 ((mJ M24 18 11) + ((x124 : Int32).toInt64))) 22 (mI M25 18 7).toNatClampNeg ((mI M 22 (mI M 18 7).toNatClampNeg) + 1)) 18 14 ((mI M25 18 14) + 1))) (c54 r101 q101 g3 g4 g17 g23 g25 r116 q116).2.1 h_r101_1_15_24_25
                have h_r116_30 : Mt M30 r116 := Mt.sh (M := (wrI (wrI (wrJ M25 18 11 ((mJ M24 18 11) + ((x124 : Int32).toInt64))) 22 (mI M25 18 7).toNatClampNeg ((mI M 22 (mI M 18 7).toNatClampNeg) + 1)) 18 14 ((mI M25 18 14) + 1))) (c54 r101 q101 g3 g4 g17 g23 g25 r116 q116).2.1 h_r116
                refine e_goto (tgt := 201) dX3_doNext_172 rfl ?_
                refine e_aload_n dX3_doNext_201 rfl ?_
                refine e_callV (As := []) (rest := []) vk_X3_countWords hS_30.l18 w752 ⟨by decide, by decide⟩ (Nat.le_of_ble_eq_true rfl) dX3_doNext_202 (c55 r101 q101 g3 g4 g17 g23 g25 r116 q116) ?_
                show E K_X3_doNext 205 [some (aR (some 18)), some (aR (some r101)), some (aI (mI M 22 (mI M 18 7).toNatClampNeg)), some (aI (mI M1 (r101 + 1) (mI M 22 (mI M 18 7).toNatClampNeg).toNatClampNeg)), some (aR (some r116)), some (aI x122)] [] M31 v M'
                have hS_31 : St M31 := St.sh (M := M30) (c55 r101 q101 g3 g4 g17 g23 g25 r116 q116).2.1 hS_30
                have h_r101_1_15_24_25_30_31 : Mt M31 r101 := Mt.sh (M := M30) (c55 r101 q101 g3 g4 g17 g23 g25 r116 q116).2.1 h_r101_1_15_24_25_30
                have h_r116_30_31 : Mt M31 r116 := Mt.sh (M := M30) (c55 r101 q101 g3 g4 g17 g23 g25 r116 q116).2.1 h_r116_30
                refine e_iconst (u := 0) dX3_doNext_205 (by decide) ?_
                exact e_iret rfl dX3_doNext_206 (k56 r101 q101 g3 g4 g17 g23 g25 r116 q116)
            ·
              refine e_aload_n dX3_doNext_139 rfl ?_
              refine e_aload_n dX3_doNext_140 rfl ?_
              refine e_callV (As := [aR (some r101)]) (rest := []) vk_X3_leave hS_25.l18 w770 ⟨by decide, by decide⟩ (Nat.le_of_ble_eq_true rfl) dX3_doNext_141 (c57 r101 q101 g3 g4 g17 g23 g25) ?_
              show E K_X3_doNext 144 [some (aR (some 18)), some (aR (some r101)), some (aI (mI M 22 (mI M 18 7).toNatClampNeg)), some (aI (mI M1 (r101 + 1) (mI M 22 (mI M 18 7).toNatClampNeg).toNatClampNeg)), some (aR o116), some (aI x122)] [aI x127] M32 v M'
              have hS_32 : St M32 := St.sh (M := (wrI (wrJ M25 18 11 ((mJ M24 18 11) + ((x124 : Int32).toInt64))) 22 (mI M25 18 7).toNatClampNeg ((mI M 22 (mI M 18 7).toNatClampNeg) + 1))) (c57 r101 q101 g3 g4 g17 g23 g25).2.1 hS_25
              have h_r101_1_15_24_25_32 : Mt M32 r101 := Mt.sh (M := (wrI (wrJ M25 18 11 ((mJ M24 18 11) + ((x124 : Int32).toInt64))) 22 (mI M25 18 7).toNatClampNeg ((mI M 22 (mI M 18 7).toNatClampNeg) + 1))) (c57 r101 q101 g3 g4 g17 g23 g25).2.1 h_r101_1_15_24_25
              exact e_iret rfl dX3_doNext_144 (k58 r101 q101 g3 g4 g17 g23 g25)
          ·
            refine e_iload dX3_doNext_90 rfl ?_
            exact e_iret rfl dX3_doNext_92 (k59 r101 q101 g3 g4 g17 g23)
    ·
      refine e_iconst (u := 4) dX3_doNext_33 (by decide) ?_
      exact e_iret rfl dX3_doNext_34 (k60 r101 q101 g3)

set_option maxRecDepth 20000 in
theorem s_X3_refuse_0 {M M' : AM} {v : Option AV} {m1 : Nat} {M1 : AM} {x101 : Int32} (hS : St M) (h_m1 : Mt M m1)
    (c1 : Ev K_X4_isSound [aR (some m1)] M (some (aI x101)) M1)
    (k2 : ∀ (g2 : ¬ x101 = 0) (g3 : ((mI M1 18 7) + 1) < 100), some (aI 0) = v ∧ M1 = M')
    (k3 : ∀ (g2 : ¬ x101 = 0) (g3 : ¬ (((mI M1 18 7) + 1) < 100)), some (aI 3) = v ∧ M1 = M')
    (k4 : ∀ (g2 : x101 = 0), some (aI 4) = v ∧ M1 = M') :
    Ev K_X3_refuse [aR (some 18), aR (some m1)] M v M' := by
  refine ⟨Nat.le_of_ble_eq_true rfl, ?_⟩
  show E K_X3_refuse 0 [some (aR (some 18)), some (aR (some m1))] [] M v M'
  refine e_aload_n dX3_refuse_0 rfl ?_
  refine e_ifnull (tgt := 11) dX3_refuse_1 rfl (fun z => ?_) (fun z => ?_)
  · cases z
  ·
    refine e_aload_n dX3_refuse_4 rfl ?_
    refine e_callV (As := []) (rest := []) vk_X4_isSound h_m1.l0 w739 ⟨by decide, by decide⟩ (Nat.le_of_ble_eq_true rfl) dX3_refuse_5 c1 ?_
    show E K_X3_refuse 8 [some (aR (some 18)), some (aR (some m1))] [aI x101] M1 v M'
    have hS_1 : St M1 := St.sh (M := M) c1.2.1 hS
    have h_m1_1 : Mt M1 m1 := Mt.sh (M := M) c1.2.1 h_m1
    refine e_if_ne (tgt := 13) dX3_refuse_8 rfl (fun g2 => ?_) (fun g2 => ?_)
    ·
      refine e_aload_n dX3_refuse_13 rfl ?_
      refine e_get ff_3_7 hS_1.l18 w199 dX3_refuse_14 (w := aI (mI M1 18 7)) rfl ?_
      refine e_iconst (u := 1) dX3_refuse_17 (by decide) ?_
      refine e_iadd dX3_refuse_18 ?_
      refine e_bipush (u := 100) dX3_refuse_19 (by decide) ?_
      refine e_icmp_lt (tgt := 28) dX3_refuse_21 rfl (fun g3 => ?_) (fun g3 => ?_)
      ·
        refine e_iconst (u := 0) dX3_refuse_28 (by decide) ?_
        exact e_iret rfl dX3_refuse_29 (k2 g2 g3)
      ·
        refine e_iconst (u := 3) dX3_refuse_24 (by decide) ?_
        refine e_goto (tgt := 29) dX3_refuse_25 rfl ?_
        exact e_iret rfl dX3_refuse_29 (k3 g2 g3)
    ·
      refine e_iconst (u := 4) dX3_refuse_11 (by decide) ?_
      exact e_iret rfl dX3_refuse_12 (k4 g2)

set_option maxRecDepth 20000 in
theorem s_X3_enter_0 {M M' : AM} {v : Option AV} {m1 : Nat} {x2 : Int32} (hS : St M) (h_m1 : Mt M m1)
    (b1 : vp_in x2 100)
    (k2 : E K_X3_enter 61 [some (aR (some 18)), some (aR (some m1)), some (aI x2), some (aI (mI (wrI (wrI (wrI (wrR (wrI M 18 7 x2) 21 x2.toNatClampNeg (some m1)) 22 x2.toNatClampNeg 0) 23 x2.toNatClampNeg ((mI M 18 8) - (mI (wrI (wrR (wrI M 18 7 x2) 21 x2.toNatClampNeg (some m1)) 22 x2.toNatClampNeg 0) m1 0))) 24 x2.toNatClampNeg (mI M 18 9)) m1 0))] [] (wrI (wrI (wrI (wrR (wrI M 18 7 x2) 21 x2.toNatClampNeg (some m1)) 22 x2.toNatClampNeg 0) 23 x2.toNatClampNeg ((mI M 18 8) - (mI (wrI (wrR (wrI M 18 7 x2) 21 x2.toNatClampNeg (some m1)) 22 x2.toNatClampNeg 0) m1 0))) 24 x2.toNatClampNeg (mI M 18 9)) v M') :
    Ev K_X3_enter [aR (some 18), aR (some m1), aI x2] M v M' := by
  refine ⟨Nat.le_of_ble_eq_true rfl, ?_⟩
  show E K_X3_enter 0 [some (aR (some 18)), some (aR (some m1)), some (aI x2), none] [] M v M'
  refine e_aload_n dX3_enter_0 rfl ?_
  refine e_iload_n dX3_enter_1 rfl ?_
  refine e_putI ff_3_7 rfl hS.l18 w199 dX3_enter_2 ?_
  refine e_aload_n dX3_enter_5 rfl ?_
  refine e_get ff_3_3 hS.l18 w195 dX3_enter_6 (w := aR (some 21)) hS.f18_3 ?_
  refine e_aload_n dX3_enter_9 rfl ?_
  refine e_get ff_3_7 hS.l18 w199 dX3_enter_10 (w := aI x2) rfl ?_
  refine e_aload_n dX3_enter_13 rfl ?_
  refine e_aast hS.l21 h_m1.l0 (hS.b21 b1) dX3_enter_14 ?_
  have hS_1 : St (wrR (wrI M 18 7 x2) 21 x2.toNatClampNeg (some m1)) := hS.sh (Sh.wR hS.l21.2.2)
  have h_m1_1 : Mt (wrR (wrI M 18 7 x2) 21 x2.toNatClampNeg (some m1)) m1 := h_m1.sh (Sh.wR hS.l21.2.2)
  refine e_aload_n dX3_enter_15 rfl ?_
  refine e_get ff_3_4 hS_1.l18 w196 dX3_enter_16 (w := aR (some 22)) hS_1.f18_4 ?_
  refine e_aload_n dX3_enter_19 rfl ?_
  refine e_get ff_3_7 hS_1.l18 w199 dX3_enter_20 (w := aI x2) rfl ?_
  refine e_iconst (u := 0) dX3_enter_23 (by decide) ?_
  refine e_iast hS_1.l22 (hS_1.b22 b1) dX3_enter_24 ?_
  refine e_aload_n dX3_enter_25 rfl ?_
  refine e_get ff_3_5 hS_1.l18 w197 dX3_enter_26 (w := aR (some 23)) hS_1.f18_5 ?_
  refine e_aload_n dX3_enter_29 rfl ?_
  refine e_get ff_3_7 hS_1.l18 w199 dX3_enter_30 (w := aI x2) rfl ?_
  refine e_aload_n dX3_enter_33 rfl ?_
  refine e_get ff_3_8 hS_1.l18 w200 dX3_enter_34 (w := aI (mI M 18 8)) rfl ?_
  refine e_aload_n dX3_enter_37 rfl ?_
  refine e_getN ff_4_0 h_m1_1.l0 w353 dX3_enter_38 (w := aI (mI (wrI (wrR (wrI M 18 7 x2) 21 x2.toNatClampNeg (some m1)) 22 x2.toNatClampNeg 0) m1 0)) rfl ?_
  refine e_isub dX3_enter_41 ?_
  refine e_iast hS_1.l23 (hS_1.b23 b1) dX3_enter_42 ?_
  refine e_aload_n dX3_enter_43 rfl ?_
  refine e_get ff_3_6 hS_1.l18 w198 dX3_enter_44 (w := aR (some 24)) hS_1.f18_6 ?_
  refine e_aload_n dX3_enter_47 rfl ?_
  refine e_get ff_3_7 hS_1.l18 w199 dX3_enter_48 (w := aI x2) rfl ?_
  refine e_aload_n dX3_enter_51 rfl ?_
  refine e_get ff_3_9 hS_1.l18 w201 dX3_enter_52 (w := aI (mI M 18 9)) rfl ?_
  refine e_iast hS_1.l24 (hS_1.b24 b1) dX3_enter_55 ?_
  refine e_aload_n dX3_enter_56 rfl ?_
  refine e_getN ff_4_0 h_m1_1.l0 w353 dX3_enter_57 (w := aI (mI (wrI (wrI (wrI (wrR (wrI M 18 7 x2) 21 x2.toNatClampNeg (some m1)) 22 x2.toNatClampNeg 0) 23 x2.toNatClampNeg ((mI M 18 8) - (mI (wrI (wrR (wrI M 18 7 x2) 21 x2.toNatClampNeg (some m1)) 22 x2.toNatClampNeg 0) m1 0))) 24 x2.toNatClampNeg (mI M 18 9)) m1 0)) rfl ?_
  refine e_istore_n dX3_enter_60 (Nat.le_of_ble_eq_true rfl) ?_
  show E K_X3_enter 61 [some (aR (some 18)), some (aR (some m1)), some (aI x2), some (aI (mI (wrI (wrI (wrI (wrR (wrI M 18 7 x2) 21 x2.toNatClampNeg (some m1)) 22 x2.toNatClampNeg 0) 23 x2.toNatClampNeg ((mI M 18 8) - (mI (wrI (wrR (wrI M 18 7 x2) 21 x2.toNatClampNeg (some m1)) 22 x2.toNatClampNeg 0) m1 0))) 24 x2.toNatClampNeg (mI M 18 9)) m1 0))] [] (wrI (wrI (wrI (wrR (wrI M 18 7 x2) 21 x2.toNatClampNeg (some m1)) 22 x2.toNatClampNeg 0) 23 x2.toNatClampNeg ((mI M 18 8) - (mI (wrI (wrR (wrI M 18 7 x2) 21 x2.toNatClampNeg (some m1)) 22 x2.toNatClampNeg 0) m1 0))) 24 x2.toNatClampNeg (mI M 18 9)) v M'
  exact k2

set_option maxRecDepth 20000 in
theorem s_X3_enter_61 {M M' : AM} {v : Option AV} {m1 : Nat} {x2 : Int32} {x3 : Int32} {M1 : AM} {M2 : AM} (hS : St M) (h_m1 : Mt M m1)
    (c1 : ∀ (g1 : (mI M m1 2) ≤ x3), Ev K_X3_countWords [aR (some 18)] M (none) M1)
    (k2 : ∀ (g1 : (mI M m1 2) ≤ x3), none = v ∧ M1 = M')
    (c3 : ∀ (g1 : ¬ ((mI M m1 2) ≤ x3)), Ev K_X3_push [aR (some 18), aJ 0] M (none) M2)
    (k4 : ∀ (g1 : ¬ ((mI M m1 2) ≤ x3)), E K_X3_enter 61 [some (aR (some 18)), some (aR (some m1)), some (aI x2), some (aI (x3 + 1))] [] M2 v M') :
    E K_X3_enter 61 [some (aR (some 18)), some (aR (some m1)), some (aI x2), some (aI x3)] [] M v M' := by
  refine e_iload_n dX3_enter_61 rfl ?_
  refine e_aload_n dX3_enter_62 rfl ?_
  refine e_getN ff_4_2 h_m1.l0 w362 dX3_enter_63 (w := aI (mI M m1 2)) rfl ?_
  refine e_icmp_ge (tgt := 80) dX3_enter_66 rfl (fun g1 => ?_) (fun g1 => ?_)
  ·
    refine e_aload_n dX3_enter_80 rfl ?_
    refine e_callV (As := []) (rest := []) vk_X3_countWords hS.l18 w752 ⟨by decide, by decide⟩ (Nat.le_of_ble_eq_true rfl) dX3_enter_81 (c1 g1) ?_
    show E K_X3_enter 84 [some (aR (some 18)), some (aR (some m1)), some (aI x2), some (aI x3)] [] M1 v M'
    have hS_1 : St M1 := St.sh (M := M) (c1 g1).2.1 hS
    have h_m1_1 : Mt M1 m1 := Mt.sh (M := M) (c1 g1).2.1 h_m1
    exact e_vret rfl dX3_enter_84 (k2 g1)
  ·
    refine e_aload_n dX3_enter_69 rfl ?_
    refine e_lconst (u := 0) dX3_enter_70 (by decide) ?_
    refine e_callV (As := [aJ 0]) (rest := []) vk_X3_push hS.l18 w740 ⟨by decide, by decide⟩ (Nat.le_of_ble_eq_true rfl) dX3_enter_71 (c3 g1) ?_
    show E K_X3_enter 74 [some (aR (some 18)), some (aR (some m1)), some (aI x2), some (aI x3)] [] M2 v M'
    have hS_2 : St M2 := St.sh (M := M) (c3 g1).2.1 hS
    have h_m1_2 : Mt M2 m1 := Mt.sh (M := M) (c3 g1).2.1 h_m1
    refine e_iinc dX3_enter_74 rfl ?_
    show E K_X3_enter 77 [some (aR (some 18)), some (aR (some m1)), some (aI x2), some (aI (x3 + 1))] [] M2 v M'
    refine e_goto (tgt := 61) dX3_enter_77 rfl ?_
    exact (k4 g1)

set_option maxRecDepth 20000 in
theorem s_X3_leave_0 {M M' : AM} {v : Option AV} {m1 : Nat} {M1 : AM} {M2 : AM} {x104 : Int64} {M3 : AM} (hS : St M) (h_m1 : Mt M m1)
    (b1 : ∀ (g1 : (mI M m1 1) ≤ 0), vp_in (mI M 18 7) 100)
    (k2 : ∀ (g1 : (mI M m1 1) ≤ 0) (g2 : ¬ (mI M 18 7) = 0) (g3 : (mI (wrI (wrI (wrI M 18 8 (mI M 23 (mI M 18 7).toNatClampNeg)) 18 9 (mI M 24 (mI M 18 7).toNatClampNeg)) 18 7 ((mI M 18 7) - 1)) m1 1) ≤ 0), some (aI 0) = v ∧ (wrI (wrI (wrI M 18 8 (mI M 23 (mI M 18 7).toNatClampNeg)) 18 9 (mI M 24 (mI M 18 7).toNatClampNeg)) 18 7 ((mI M 18 7) - 1)) = M')
    (c3 : ∀ (g1 : (mI M m1 1) ≤ 0) (g2 : ¬ (mI M 18 7) = 0) (g3 : ¬ ((mI (wrI (wrI (wrI M 18 8 (mI M 23 (mI M 18 7).toNatClampNeg)) 18 9 (mI M 24 (mI M 18 7).toNatClampNeg)) 18 7 ((mI M 18 7) - 1)) m1 1) ≤ 0)), Ev K_X3_push [aR (some 18), aJ 0] (wrI (wrI (wrI M 18 8 (mI M 23 (mI M 18 7).toNatClampNeg)) 18 9 (mI M 24 (mI M 18 7).toNatClampNeg)) 18 7 ((mI M 18 7) - 1)) (none) M1)
    (k4 : ∀ (g1 : (mI M m1 1) ≤ 0) (g2 : ¬ (mI M 18 7) = 0) (g3 : ¬ ((mI (wrI (wrI (wrI M 18 8 (mI M 23 (mI M 18 7).toNatClampNeg)) 18 9 (mI M 24 (mI M 18 7).toNatClampNeg)) 18 7 ((mI M 18 7) - 1)) m1 1) ≤ 0)), some (aI 0) = v ∧ M1 = M')
    (k5 : ∀ (g1 : (mI M m1 1) ≤ 0) (g2 : (mI M 18 7) = 0), some (aI 1) = v ∧ (wrJ (wrI (wrI M 18 8 (mI M 23 (mI M 18 7).toNatClampNeg)) 18 9 (mI M 24 (mI M 18 7).toNatClampNeg)) 18 10 0) = M')
    (c6 : ∀ (g1 : ¬ ((mI M m1 1) ≤ 0)), Ev K_X3_pop [aR (some 18)] M (some (aJ x104)) M2)
    (b7 : ∀ (g1 : ¬ ((mI M m1 1) ≤ 0)), vp_in (mI M2 18 7) 100)
    (k8 : ∀ (g1 : ¬ ((mI M m1 1) ≤ 0)) (g5 : ¬ (mI M2 18 7) = 0) (g6 : (mI (wrI (wrI (wrI M2 18 8 (mI M2 23 (mI M2 18 7).toNatClampNeg)) 18 9 (mI M2 24 (mI M2 18 7).toNatClampNeg)) 18 7 ((mI M2 18 7) - 1)) m1 1) ≤ 0), some (aI 0) = v ∧ (wrI (wrI (wrI M2 18 8 (mI M2 23 (mI M2 18 7).toNatClampNeg)) 18 9 (mI M2 24 (mI M2 18 7).toNatClampNeg)) 18 7 ((mI M2 18 7) - 1)) = M')
    (c9 : ∀ (g1 : ¬ ((mI M m1 1) ≤ 0)) (g5 : ¬ (mI M2 18 7) = 0) (g6 : ¬ ((mI (wrI (wrI (wrI M2 18 8 (mI M2 23 (mI M2 18 7).toNatClampNeg)) 18 9 (mI M2 24 (mI M2 18 7).toNatClampNeg)) 18 7 ((mI M2 18 7) - 1)) m1 1) ≤ 0)), Ev K_X3_push [aR (some 18), aJ x104] (wrI (wrI (wrI M2 18 8 (mI M2 23 (mI M2 18 7).toNatClampNeg)) 18 9 (mI M2 24 (mI M2 18 7).toNatClampNeg)) 18 7 ((mI M2 18 7) - 1)) (none) M3)
    (k10 : ∀ (g1 : ¬ ((mI M m1 1) ≤ 0)) (g5 : ¬ (mI M2 18 7) = 0) (g6 : ¬ ((mI (wrI (wrI (wrI M2 18 8 (mI M2 23 (mI M2 18 7).toNatClampNeg)) 18 9 (mI M2 24 (mI M2 18 7).toNatClampNeg)) 18 7 ((mI M2 18 7) - 1)) m1 1) ≤ 0)), some (aI 0) = v ∧ M3 = M')
    (k11 : ∀ (g1 : ¬ ((mI M m1 1) ≤ 0)) (g5 : (mI M2 18 7) = 0), some (aI 1) = v ∧ (wrJ (wrI (wrI M2 18 8 (mI M2 23 (mI M2 18 7).toNatClampNeg)) 18 9 (mI M2 24 (mI M2 18 7).toNatClampNeg)) 18 10 x104) = M') :
    Ev K_X3_leave [aR (some 18), aR (some m1)] M v M' := by
  refine ⟨Nat.le_of_ble_eq_true rfl, ?_⟩
  show E K_X3_leave 0 [some (aR (some 18)), some (aR (some m1)), none, none] [] M v M'
  refine e_aload_n dX3_leave_0 rfl ?_
  refine e_getN ff_4_1 h_m1.l0 w358 dX3_leave_1 (w := aI (mI M m1 1)) rfl ?_
  refine e_if_le (tgt := 14) dX3_leave_4 rfl (fun g1 => ?_) (fun g1 => ?_)
  ·
    refine e_lconst (u := 0) dX3_leave_14 (by decide) ?_
    refine e_lstore_n dX3_leave_15 (Nat.le_of_ble_eq_true rfl) ?_
    show E K_X3_leave 16 [some (aR (some 18)), some (aR (some m1)), some (aJ 0), none] [] M v M'
    refine e_aload_n dX3_leave_16 rfl ?_
    refine e_aload_n dX3_leave_17 rfl ?_
    refine e_get ff_3_5 hS.l18 w197 dX3_leave_18 (w := aR (some 23)) hS.f18_5 ?_
    refine e_aload_n dX3_leave_21 rfl ?_
    refine e_get ff_3_7 hS.l18 w199 dX3_leave_22 (w := aI (mI M 18 7)) rfl ?_
    refine e_iald hS.l23 (hS.b23 (b1 g1)) dX3_leave_25 ?_
    refine e_putI ff_3_8 rfl hS.l18 w200 dX3_leave_26 ?_
    refine e_aload_n dX3_leave_29 rfl ?_
    refine e_aload_n dX3_leave_30 rfl ?_
    refine e_get ff_3_6 hS.l18 w198 dX3_leave_31 (w := aR (some 24)) hS.f18_6 ?_
    refine e_aload_n dX3_leave_34 rfl ?_
    refine e_get ff_3_7 hS.l18 w199 dX3_leave_35 (w := aI (mI M 18 7)) rfl ?_
    refine e_iald hS.l24 (hS.b24 (b1 g1)) dX3_leave_38 ?_
    show E K_X3_leave 39 [some (aR (some 18)), some (aR (some m1)), some (aJ 0), none] [aI (mI M 24 (mI M 18 7).toNatClampNeg), aR (some 18)] (wrI M 18 8 (mI M 23 (mI M 18 7).toNatClampNeg)) v M'
    refine e_putI ff_3_9 rfl hS.l18 w201 dX3_leave_39 ?_
    refine e_aload_n dX3_leave_42 rfl ?_
    refine e_get ff_3_7 hS.l18 w199 dX3_leave_43 (w := aI (mI M 18 7)) rfl ?_
    refine e_if_ne (tgt := 56) dX3_leave_46 rfl (fun g2 => ?_) (fun g2 => ?_)
    ·
      refine e_aload_n dX3_leave_56 rfl ?_
      refine e_dupR dX3_leave_57 ?_
      refine e_get ff_3_7 hS.l18 w199 dX3_leave_58 (w := aI (mI M 18 7)) rfl ?_
      refine e_iconst (u := 1) dX3_leave_61 (by decide) ?_
      refine e_isub dX3_leave_62 ?_
      refine e_putI ff_3_7 rfl hS.l18 w199 dX3_leave_63 ?_
      refine e_aload_n dX3_leave_66 rfl ?_
      refine e_getN ff_4_1 h_m1.l0 w358 dX3_leave_67 (w := aI (mI (wrI (wrI (wrI M 18 8 (mI M 23 (mI M 18 7).toNatClampNeg)) 18 9 (mI M 24 (mI M 18 7).toNatClampNeg)) 18 7 ((mI M 18 7) - 1)) m1 1)) rfl ?_
      refine e_if_le (tgt := 78) dX3_leave_70 rfl (fun g3 => ?_) (fun g3 => ?_)
      ·
        refine e_iconst (u := 0) dX3_leave_78 (by decide) ?_
        exact e_iret rfl dX3_leave_79 (k2 g1 g2 g3)
      ·
        refine e_aload_n dX3_leave_73 rfl ?_
        refine e_lload_n dX3_leave_74 rfl ?_
        refine e_callV (As := [aJ 0]) (rest := []) vk_X3_push hS.l18 w740 ⟨by decide, by decide⟩ (Nat.le_of_ble_eq_true rfl) dX3_leave_75 (c3 g1 g2 g3) ?_
        show E K_X3_leave 78 [some (aR (some 18)), some (aR (some m1)), some (aJ 0), none] [] M1 v M'
        have hS_1 : St M1 := St.sh (M := (wrI (wrI (wrI M 18 8 (mI M 23 (mI M 18 7).toNatClampNeg)) 18 9 (mI M 24 (mI M 18 7).toNatClampNeg)) 18 7 ((mI M 18 7) - 1))) (c3 g1 g2 g3).2.1 hS
        have h_m1_1 : Mt M1 m1 := Mt.sh (M := (wrI (wrI (wrI M 18 8 (mI M 23 (mI M 18 7).toNatClampNeg)) 18 9 (mI M 24 (mI M 18 7).toNatClampNeg)) 18 7 ((mI M 18 7) - 1))) (c3 g1 g2 g3).2.1 h_m1
        refine e_iconst (u := 0) dX3_leave_78 (by decide) ?_
        exact e_iret rfl dX3_leave_79 (k4 g1 g2 g3)
    ·
      refine e_aload_n dX3_leave_49 rfl ?_
      refine e_lload_n dX3_leave_50 rfl ?_
      refine e_putJ ff_3_10 rfl hS.l18 w202 dX3_leave_51 ?_
      refine e_iconst (u := 1) dX3_leave_54 (by decide) ?_
      exact e_iret rfl dX3_leave_55 (k5 g1 g2)
  ·
    refine e_aload_n dX3_leave_7 rfl ?_
    refine e_callV (As := []) (rest := []) vk_X3_pop hS.l18 w774 ⟨by decide, by decide⟩ (Nat.le_of_ble_eq_true rfl) dX3_leave_8 (c6 g1) ?_
    show E K_X3_leave 11 [some (aR (some 18)), some (aR (some m1)), none, none] [aJ x104] M2 v M'
    have hS_2 : St M2 := St.sh (M := M) (c6 g1).2.1 hS
    have h_m1_2 : Mt M2 m1 := Mt.sh (M := M) (c6 g1).2.1 h_m1
    refine e_goto (tgt := 15) dX3_leave_11 rfl ?_
    refine e_lstore_n dX3_leave_15 (Nat.le_of_ble_eq_true rfl) ?_
    show E K_X3_leave 16 [some (aR (some 18)), some (aR (some m1)), some (aJ x104), none] [] M2 v M'
    refine e_aload_n dX3_leave_16 rfl ?_
    refine e_aload_n dX3_leave_17 rfl ?_
    refine e_get ff_3_5 hS_2.l18 w197 dX3_leave_18 (w := aR (some 23)) hS_2.f18_5 ?_
    refine e_aload_n dX3_leave_21 rfl ?_
    refine e_get ff_3_7 hS_2.l18 w199 dX3_leave_22 (w := aI (mI M2 18 7)) rfl ?_
    refine e_iald hS_2.l23 (hS_2.b23 (b7 g1)) dX3_leave_25 ?_
    refine e_putI ff_3_8 rfl hS_2.l18 w200 dX3_leave_26 ?_
    refine e_aload_n dX3_leave_29 rfl ?_
    refine e_aload_n dX3_leave_30 rfl ?_
    refine e_get ff_3_6 hS_2.l18 w198 dX3_leave_31 (w := aR (some 24)) hS_2.f18_6 ?_
    refine e_aload_n dX3_leave_34 rfl ?_
    refine e_get ff_3_7 hS_2.l18 w199 dX3_leave_35 (w := aI (mI M2 18 7)) rfl ?_
    refine e_iald hS_2.l24 (hS_2.b24 (b7 g1)) dX3_leave_38 ?_
    show E K_X3_leave 39 [some (aR (some 18)), some (aR (some m1)), some (aJ x104), none] [aI (mI M2 24 (mI M2 18 7).toNatClampNeg), aR (some 18)] (wrI M2 18 8 (mI M2 23 (mI M2 18 7).toNatClampNeg)) v M'
    refine e_putI ff_3_9 rfl hS_2.l18 w201 dX3_leave_39 ?_
    refine e_aload_n dX3_leave_42 rfl ?_
    refine e_get ff_3_7 hS_2.l18 w199 dX3_leave_43 (w := aI (mI M2 18 7)) rfl ?_
    refine e_if_ne (tgt := 56) dX3_leave_46 rfl (fun g5 => ?_) (fun g5 => ?_)
    ·
      refine e_aload_n dX3_leave_56 rfl ?_
      refine e_dupR dX3_leave_57 ?_
      refine e_get ff_3_7 hS_2.l18 w199 dX3_leave_58 (w := aI (mI M2 18 7)) rfl ?_
      refine e_iconst (u := 1) dX3_leave_61 (by decide) ?_
      refine e_isub dX3_leave_62 ?_
      refine e_putI ff_3_7 rfl hS_2.l18 w199 dX3_leave_63 ?_
      refine e_aload_n dX3_leave_66 rfl ?_
      refine e_getN ff_4_1 h_m1_2.l0 w358 dX3_leave_67 (w := aI (mI (wrI (wrI (wrI M2 18 8 (mI M2 23 (mI M2 18 7).toNatClampNeg)) 18 9 (mI M2 24 (mI M2 18 7).toNatClampNeg)) 18 7 ((mI M2 18 7) - 1)) m1 1)) rfl ?_
      refine e_if_le (tgt := 78) dX3_leave_70 rfl (fun g6 => ?_) (fun g6 => ?_)
      ·
        refine e_iconst (u := 0) dX3_leave_78 (by decide) ?_
        exact e_iret rfl dX3_leave_79 (k8 g1 g5 g6)
      ·
        refine e_aload_n dX3_leave_73 rfl ?_
        refine e_lload_n dX3_leave_74 rfl ?_
        refine e_callV (As := [aJ x104]) (rest := []) vk_X3_push hS_2.l18 w740 ⟨by decide, by decide⟩ (Nat.le_of_ble_eq_true rfl) dX3_leave_75 (c9 g1 g5 g6) ?_
        show E K_X3_leave 78 [some (aR (some 18)), some (aR (some m1)), some (aJ x104), none] [] M3 v M'
        have hS_3 : St M3 := St.sh (M := (wrI (wrI (wrI M2 18 8 (mI M2 23 (mI M2 18 7).toNatClampNeg)) 18 9 (mI M2 24 (mI M2 18 7).toNatClampNeg)) 18 7 ((mI M2 18 7) - 1))) (c9 g1 g5 g6).2.1 hS_2
        have h_m1_2_3 : Mt M3 m1 := Mt.sh (M := (wrI (wrI (wrI M2 18 8 (mI M2 23 (mI M2 18 7).toNatClampNeg)) 18 9 (mI M2 24 (mI M2 18 7).toNatClampNeg)) 18 7 ((mI M2 18 7) - 1))) (c9 g1 g5 g6).2.1 h_m1_2
        refine e_iconst (u := 0) dX3_leave_78 (by decide) ?_
        exact e_iret rfl dX3_leave_79 (k10 g1 g5 g6)
    ·
      refine e_aload_n dX3_leave_49 rfl ?_
      refine e_lload_n dX3_leave_50 rfl ?_
      refine e_putJ ff_3_10 rfl hS_2.l18 w202 dX3_leave_51 ?_
      refine e_iconst (u := 1) dX3_leave_54 (by decide) ?_
      exact e_iret rfl dX3_leave_55 (k11 g1 g5)

set_option maxRecDepth 20000 in
theorem s_X3_flow_0 {M M' : AM} {v : Option AV} {m1 : Nat} {x2 : Int32} {M1 : AM} {x103 : Int64} {M2 : AM} {x106 : Int32} {M3 : AM} {x108 : Int32} (hS : St M) (h_m1 : Mt M m1)
    (b1 : vp_in x2 120)
    (b2 : ∀ (g1 : (mI M (m1 + 1) x2.toNatClampNeg) = 12), vp_in (mI M 18 7) 100)
    (k3 : ∀ (g1 : (mI M (m1 + 1) x2.toNatClampNeg) = 12), none = v ∧ (wrI M 22 (mI M 18 7).toNatClampNeg ((mJ M (m1 + 2) x2.toNatClampNeg : Int64).toInt32)) = M')
    (c4 : ∀ (g1 : ¬ ((mI M (m1 + 1) x2.toNatClampNeg) = 12)) (g2 : (mI M (m1 + 1) x2.toNatClampNeg) = 13), Ev K_X3_pop [aR (some 18)] M (some (aJ x103)) M1)
    (b5 : ∀ (g1 : ¬ ((mI M (m1 + 1) x2.toNatClampNeg) = 12)) (g2 : (mI M (m1 + 1) x2.toNatClampNeg) = 13) (g4 : ¬ (x103 = 0)), vp_in (mI M 18 7) 100)
    (k6 : ∀ (g1 : ¬ ((mI M (m1 + 1) x2.toNatClampNeg) = 12)) (g2 : (mI M (m1 + 1) x2.toNatClampNeg) = 13) (g4 : ¬ (x103 = 0)), none = v ∧ (wrI M1 22 (mI M 18 7).toNatClampNeg (x2 + 1)) = M')
    (b7 : ∀ (g1 : ¬ ((mI M (m1 + 1) x2.toNatClampNeg) = 12)) (g2 : (mI M (m1 + 1) x2.toNatClampNeg) = 13) (g4 : x103 = 0), vp_in (mI M 18 7) 100)
    (k8 : ∀ (g1 : ¬ ((mI M (m1 + 1) x2.toNatClampNeg) = 12)) (g2 : (mI M (m1 + 1) x2.toNatClampNeg) = 13) (g4 : x103 = 0), none = v ∧ (wrI M1 22 (mI M 18 7).toNatClampNeg ((mJ M (m1 + 2) x2.toNatClampNeg : Int64).toInt32)) = M')
    (c9 : ∀ (g1 : ¬ ((mI M (m1 + 1) x2.toNatClampNeg) = 12)) (g2 : ¬ ((mI M (m1 + 1) x2.toNatClampNeg) = 13)) (g5 : (mI M (m1 + 1) x2.toNatClampNeg) = 14), Ev K_X3_opensLoop [aR (some 18), aI ((mJ M (m1 + 2) x2.toNatClampNeg : Int64).toInt32)] M (some (aI x106)) M2)
    (b10 : ∀ (g1 : ¬ ((mI M (m1 + 1) x2.toNatClampNeg) = 12)) (g2 : ¬ ((mI M (m1 + 1) x2.toNatClampNeg) = 13)) (g5 : (mI M (m1 + 1) x2.toNatClampNeg) = 14) (g7 : x106 = 0), vp_in (mI M 18 7) 100)
    (k11 : ∀ (g1 : ¬ ((mI M (m1 + 1) x2.toNatClampNeg) = 12)) (g2 : ¬ ((mI M (m1 + 1) x2.toNatClampNeg) = 13)) (g5 : (mI M (m1 + 1) x2.toNatClampNeg) = 14) (g7 : x106 = 0), none = v ∧ (wrI M2 22 (mI M 18 7).toNatClampNeg ((mI M (m1 + 3) x2.toNatClampNeg) + 1)) = M')
    (b12 : ∀ (g1 : ¬ ((mI M (m1 + 1) x2.toNatClampNeg) = 12)) (g2 : ¬ ((mI M (m1 + 1) x2.toNatClampNeg) = 13)) (g5 : (mI M (m1 + 1) x2.toNatClampNeg) = 14) (g7 : ¬ x106 = 0), vp_in (mI M 18 7) 100)
    (k13 : ∀ (g1 : ¬ ((mI M (m1 + 1) x2.toNatClampNeg) = 12)) (g2 : ¬ ((mI M (m1 + 1) x2.toNatClampNeg) = 13)) (g5 : (mI M (m1 + 1) x2.toNatClampNeg) = 14) (g7 : ¬ x106 = 0), none = v ∧ (wrI M2 22 (mI M 18 7).toNatClampNeg (x2 + 1)) = M')
    (c14 : ∀ (g1 : ¬ ((mI M (m1 + 1) x2.toNatClampNeg) = 12)) (g2 : ¬ ((mI M (m1 + 1) x2.toNatClampNeg) = 13)) (g5 : ¬ ((mI M (m1 + 1) x2.toNatClampNeg) = 14)), Ev K_X3_goesRound [aR (some 18)] M (some (aI x108)) M3)
    (b15 : ∀ (g1 : ¬ ((mI M (m1 + 1) x2.toNatClampNeg) = 12)) (g2 : ¬ ((mI M (m1 + 1) x2.toNatClampNeg) = 13)) (g5 : ¬ ((mI M (m1 + 1) x2.toNatClampNeg) = 14)) (g9 : x108 = 0), vp_in (mI M 18 7) 100)
    (k16 : ∀ (g1 : ¬ ((mI M (m1 + 1) x2.toNatClampNeg) = 12)) (g2 : ¬ ((mI M (m1 + 1) x2.toNatClampNeg) = 13)) (g5 : ¬ ((mI M (m1 + 1) x2.toNatClampNeg) = 14)) (g9 : x108 = 0), none = v ∧ (wrI M3 22 (mI M 18 7).toNatClampNeg (x2 + 1)) = M')
    (b17 : ∀ (g1 : ¬ ((mI M (m1 + 1) x2.toNatClampNeg) = 12)) (g2 : ¬ ((mI M (m1 + 1) x2.toNatClampNeg) = 13)) (g5 : ¬ ((mI M (m1 + 1) x2.toNatClampNeg) = 14)) (g9 : ¬ x108 = 0), vp_in (mI M 18 7) 100)
    (k18 : ∀ (g1 : ¬ ((mI M (m1 + 1) x2.toNatClampNeg) = 12)) (g2 : ¬ ((mI M (m1 + 1) x2.toNatClampNeg) = 13)) (g5 : ¬ ((mI M (m1 + 1) x2.toNatClampNeg) = 14)) (g9 : ¬ x108 = 0), none = v ∧ (wrI M3 22 (mI M 18 7).toNatClampNeg ((mI M (m1 + 3) x2.toNatClampNeg) + 1)) = M') :
    Ev K_X3_flow [aR (some 18), aR (some m1), aI x2] M v M' := by
  refine ⟨Nat.le_of_ble_eq_true rfl, ?_⟩
  show E K_X3_flow 0 [some (aR (some 18)), some (aR (some m1)), some (aI x2), none, none] [] M v M'
  refine e_aload_n dX3_flow_0 rfl ?_
  refine e_getN ff_4_4 h_m1.l0 w371 dX3_flow_1 (w := aR (some (m1 + 2))) h_m1.f4 ?_
  refine e_iload_n dX3_flow_4 rfl ?_
  refine e_lald h_m1.l2 (h_m1.b2 b1) dX3_flow_5 ?_
  refine e_l2i dX3_flow_6 ?_
  refine e_istore_n dX3_flow_7 (Nat.le_of_ble_eq_true rfl) ?_
  show E K_X3_flow 8 [some (aR (some 18)), some (aR (some m1)), some (aI x2), some (aI ((mJ M (m1 + 2) x2.toNatClampNeg : Int64).toInt32)), none] [] M v M'
  refine e_aload_n dX3_flow_8 rfl ?_
  refine e_getN ff_4_5 h_m1.l0 w377 dX3_flow_9 (w := aR (some (m1 + 3))) h_m1.f5 ?_
  refine e_iload_n dX3_flow_12 rfl ?_
  refine e_iald h_m1.l3 (h_m1.b3 b1) dX3_flow_13 ?_
  refine e_iconst (u := 1) dX3_flow_14 (by decide) ?_
  refine e_iadd dX3_flow_15 ?_
  refine e_istore dX3_flow_16 (Nat.le_of_ble_eq_true rfl) ?_
  show E K_X3_flow 18 [some (aR (some 18)), some (aR (some m1)), some (aI x2), some (aI ((mJ M (m1 + 2) x2.toNatClampNeg : Int64).toInt32)), some (aI ((mI M (m1 + 3) x2.toNatClampNeg) + 1))] [] M v M'
  refine e_aload_n dX3_flow_18 rfl ?_
  refine e_getN ff_4_3 h_m1.l0 w367 dX3_flow_19 (w := aR (some (m1 + 1))) h_m1.f3 ?_
  refine e_iload_n dX3_flow_22 rfl ?_
  refine e_iald h_m1.l1 (h_m1.b1 b1) dX3_flow_23 ?_
  refine e_tsw (d := 121) (tg := [52, 65, 93]) dX3_flow_24 rfl rfl rfl ?_
  by_cases g1 : (mI M (m1 + 1) x2.toNatClampNeg) = 12
  · have e9 : tsw 12 [52, 65, 93] 121 (mI M (m1 + 1) x2.toNatClampNeg) = 52 := by rw [g1]; rfl
    rw [e9]
    refine e_aload_n dX3_flow_52 rfl ?_
    refine e_get ff_3_4 hS.l18 w196 dX3_flow_53 (w := aR (some 22)) hS.f18_4 ?_
    refine e_aload_n dX3_flow_56 rfl ?_
    refine e_get ff_3_7 hS.l18 w199 dX3_flow_57 (w := aI (mI M 18 7)) rfl ?_
    refine e_iload_n dX3_flow_60 rfl ?_
    refine e_iast hS.l22 (hS.b22 (b2 g1)) dX3_flow_61 ?_
    refine e_goto (tgt := 145) dX3_flow_62 rfl ?_
    exact e_vret rfl dX3_flow_145 (k3 g1)
  by_cases g2 : (mI M (m1 + 1) x2.toNatClampNeg) = 13
  · have e9 : tsw 12 [52, 65, 93] 121 (mI M (m1 + 1) x2.toNatClampNeg) = 65 := by rw [g2]; rfl
    rw [e9]
    refine e_aload_n dX3_flow_65 rfl ?_
    refine e_get ff_3_4 hS.l18 w196 dX3_flow_66 (w := aR (some 22)) hS.f18_4 ?_
    refine e_aload_n dX3_flow_69 rfl ?_
    refine e_get ff_3_7 hS.l18 w199 dX3_flow_70 (w := aI (mI M 18 7)) rfl ?_
    refine e_aload_n dX3_flow_73 rfl ?_
    refine e_callV (As := []) (rest := [aI (mI M 18 7), aR (some 22)]) vk_X3_pop hS.l18 w774 ⟨by decide, by decide⟩ (Nat.le_of_ble_eq_true rfl) dX3_flow_74 (c4 g1 g2) ?_
    show E K_X3_flow 77 [some (aR (some 18)), some (aR (some m1)), some (aI x2), some (aI ((mJ M (m1 + 2) x2.toNatClampNeg : Int64).toInt32)), some (aI ((mI M (m1 + 3) x2.toNatClampNeg) + 1))] [aJ x103, aI (mI M 18 7), aR (some 22)] M1 v M'
    have hS_1 : St M1 := St.sh (M := M) (c4 g1 g2).2.1 hS
    have h_m1_1 : Mt M1 m1 := Mt.sh (M := M) (c4 g1 g2).2.1 h_m1
    refine e_lconst (u := 0) dX3_flow_77 (by decide) ?_
    refine e_lcmp_ne (tgt := 86) dX3_flow_78 dX3_flow_79 rfl (fun g4 => ?_) (fun g4 => ?_)
    ·
      refine e_iload_n dX3_flow_86 rfl ?_
      refine e_iconst (u := 1) dX3_flow_87 (by decide) ?_
      refine e_iadd dX3_flow_88 ?_
      refine e_iast hS_1.l22 (hS_1.b22 (b5 g1 g2 g4)) dX3_flow_89 ?_
      refine e_goto (tgt := 145) dX3_flow_90 rfl ?_
      exact e_vret rfl dX3_flow_145 (k6 g1 g2 g4)
    ·
      refine e_iload_n dX3_flow_82 rfl ?_
      refine e_goto (tgt := 89) dX3_flow_83 rfl ?_
      refine e_iast hS_1.l22 (hS_1.b22 (b7 g1 g2 g4)) dX3_flow_89 ?_
      refine e_goto (tgt := 145) dX3_flow_90 rfl ?_
      exact e_vret rfl dX3_flow_145 (k8 g1 g2 g4)
  by_cases g5 : (mI M (m1 + 1) x2.toNatClampNeg) = 14
  · have e9 : tsw 12 [52, 65, 93] 121 (mI M (m1 + 1) x2.toNatClampNeg) = 93 := by rw [g5]; rfl
    rw [e9]
    refine e_aload_n dX3_flow_93 rfl ?_
    refine e_get ff_3_4 hS.l18 w196 dX3_flow_94 (w := aR (some 22)) hS.f18_4 ?_
    refine e_aload_n dX3_flow_97 rfl ?_
    refine e_get ff_3_7 hS.l18 w199 dX3_flow_98 (w := aI (mI M 18 7)) rfl ?_
    refine e_aload_n dX3_flow_101 rfl ?_
    refine e_iload_n dX3_flow_102 rfl ?_
    refine e_callV (As := [aI ((mJ M (m1 + 2) x2.toNatClampNeg : Int64).toInt32)]) (rest := [aI (mI M 18 7), aR (some 22)]) vk_X3_opensLoop hS.l18 w786 ⟨by decide, by decide⟩ (Nat.le_of_ble_eq_true rfl) dX3_flow_103 (c9 g1 g2 g5) ?_
    show E K_X3_flow 106 [some (aR (some 18)), some (aR (some m1)), some (aI x2), some (aI ((mJ M (m1 + 2) x2.toNatClampNeg : Int64).toInt32)), some (aI ((mI M (m1 + 3) x2.toNatClampNeg) + 1))] [aI x106, aI (mI M 18 7), aR (some 22)] M2 v M'
    have hS_2 : St M2 := St.sh (M := M) (c9 g1 g2 g5).2.1 hS
    have h_m1_2 : Mt M2 m1 := Mt.sh (M := M) (c9 g1 g2 g5).2.1 h_m1
    refine e_if_eq (tgt := 115) dX3_flow_106 rfl (fun g7 => ?_) (fun g7 => ?_)
    ·
      refine e_iload dX3_flow_115 rfl ?_
      refine e_iast hS_2.l22 (hS_2.b22 (b10 g1 g2 g5 g7)) dX3_flow_117 ?_
      refine e_goto (tgt := 145) dX3_flow_118 rfl ?_
      exact e_vret rfl dX3_flow_145 (k11 g1 g2 g5 g7)
    ·
      refine e_iload_n dX3_flow_109 rfl ?_
      refine e_iconst (u := 1) dX3_flow_110 (by decide) ?_
      refine e_iadd dX3_flow_111 ?_
      refine e_goto (tgt := 117) dX3_flow_112 rfl ?_
      refine e_iast hS_2.l22 (hS_2.b22 (b12 g1 g2 g5 g7)) dX3_flow_117 ?_
      refine e_goto (tgt := 145) dX3_flow_118 rfl ?_
      exact e_vret rfl dX3_flow_145 (k13 g1 g2 g5 g7)
  have e9 : tsw 12 [52, 65, 93] 121 (mI M (m1 + 1) x2.toNatClampNeg) = 121 := tsw_out [12, 13, 14] (by decide) (by
      simp only [List.mem_cons, List.not_mem_nil, or_false, forall_eq_or_imp, forall_eq]
      skip
      exact ⟨g1, g2, g5⟩)
  rw [e9]
  refine e_aload_n dX3_flow_121 rfl ?_
  refine e_get ff_3_4 hS.l18 w196 dX3_flow_122 (w := aR (some 22)) hS.f18_4 ?_
  refine e_aload_n dX3_flow_125 rfl ?_
  refine e_get ff_3_7 hS.l18 w199 dX3_flow_126 (w := aI (mI M 18 7)) rfl ?_
  refine e_aload_n dX3_flow_129 rfl ?_
  refine e_callV (As := []) (rest := [aI (mI M 18 7), aR (some 22)]) vk_X3_goesRound hS.l18 w790 ⟨by decide, by decide⟩ (Nat.le_of_ble_eq_true rfl) dX3_flow_130 (c14 g1 g2 g5) ?_
  show E K_X3_flow 133 [some (aR (some 18)), some (aR (some m1)), some (aI x2), some (aI ((mJ M (m1 + 2) x2.toNatClampNeg : Int64).toInt32)), some (aI ((mI M (m1 + 3) x2.toNatClampNeg) + 1))] [aI x108, aI (mI M 18 7), aR (some 22)] M3 v M'
  have hS_3 : St M3 := St.sh (M := M) (c14 g1 g2 g5).2.1 hS
  have h_m1_3 : Mt M3 m1 := Mt.sh (M := M) (c14 g1 g2 g5).2.1 h_m1
  refine e_if_eq (tgt := 141) dX3_flow_133 rfl (fun g9 => ?_) (fun g9 => ?_)
  ·
    refine e_iload_n dX3_flow_141 rfl ?_
    refine e_iconst (u := 1) dX3_flow_142 (by decide) ?_
    refine e_iadd dX3_flow_143 ?_
    refine e_iast hS_3.l22 (hS_3.b22 (b15 g1 g2 g5 g9)) dX3_flow_144 ?_
    exact e_vret rfl dX3_flow_145 (k16 g1 g2 g5 g9)
  ·
    refine e_iload dX3_flow_136 rfl ?_
    refine e_goto (tgt := 144) dX3_flow_138 rfl ?_
    refine e_iast hS_3.l22 (hS_3.b22 (b17 g1 g2 g5 g9)) dX3_flow_144 ?_
    exact e_vret rfl dX3_flow_145 (k18 g1 g2 g5 g9)

set_option maxRecDepth 20000 in
theorem s_X3_opensLoop_0 {M M' : AM} {v : Option AV} {x1 : Int32} (hS : St M)
    (k1 : ∀ (g1 : x1 ≤ 0), some (aI 0) = v ∧ M = M')
    (b2 : ∀ (g1 : ¬ (x1 ≤ 0)) (g2 : (mI M 18 9) < 800), vp_in (mI M 18 9) 800)
    (k3 : ∀ (g1 : ¬ (x1 ≤ 0)) (g2 : (mI M 18 9) < 800), some (aI 1) = v ∧ (wrI (wrI M 20 (mI M 18 9).toNatClampNeg x1) 18 9 ((mI M 18 9) + 1)) = M')
    (k4 : ∀ (g1 : ¬ (x1 ≤ 0)) (g2 : ¬ ((mI M 18 9) < 800)), some (aI 0) = v ∧ M = M') :
    Ev K_X3_opensLoop [aR (some 18), aI x1] M v M' := by
  refine ⟨Nat.le_of_ble_eq_true rfl, ?_⟩
  show E K_X3_opensLoop 0 [some (aR (some 18)), some (aI x1)] [] M v M'
  refine e_iload_n dX3_opensLoop_0 rfl ?_
  refine e_if_le (tgt := 16) dX3_opensLoop_1 rfl (fun g1 => ?_) (fun g1 => ?_)
  ·
    refine e_iconst (u := 0) dX3_opensLoop_16 (by decide) ?_
    exact e_zret rfl (Or.inl rfl) dX3_opensLoop_17 (k1 g1)
  ·
    refine e_aload_n dX3_opensLoop_4 rfl ?_
    refine e_get ff_3_9 hS.l18 w201 dX3_opensLoop_5 (w := aI (mI M 18 9)) rfl ?_
    refine e_aload_n dX3_opensLoop_8 rfl ?_
    refine e_get ff_3_2 hS.l18 w194 dX3_opensLoop_9 (w := aR (some 20)) hS.f18_2 ?_
    refine e_lenIv hS.l20 hS.n20 dX3_opensLoop_12 ?_
    show E K_X3_opensLoop 13 [some (aR (some 18)), some (aI x1)] [aI 800, aI (mI M 18 9)] M v M'
    refine e_icmp_lt (tgt := 18) dX3_opensLoop_13 rfl (fun g2 => ?_) (fun g2 => ?_)
    ·
      refine e_aload_n dX3_opensLoop_18 rfl ?_
      refine e_get ff_3_2 hS.l18 w194 dX3_opensLoop_19 (w := aR (some 20)) hS.f18_2 ?_
      refine e_aload_n dX3_opensLoop_22 rfl ?_
      refine e_get ff_3_9 hS.l18 w201 dX3_opensLoop_23 (w := aI (mI M 18 9)) rfl ?_
      refine e_iload_n dX3_opensLoop_26 rfl ?_
      refine e_iast hS.l20 (hS.b20 (b2 g1 g2)) dX3_opensLoop_27 ?_
      refine e_aload_n dX3_opensLoop_28 rfl ?_
      refine e_dupR dX3_opensLoop_29 ?_
      refine e_get ff_3_9 hS.l18 w201 dX3_opensLoop_30 (w := aI (mI M 18 9)) rfl ?_
      refine e_iconst (u := 1) dX3_opensLoop_33 (by decide) ?_
      refine e_iadd dX3_opensLoop_34 ?_
      refine e_putI ff_3_9 rfl hS.l18 w201 dX3_opensLoop_35 ?_
      refine e_iconst (u := 1) dX3_opensLoop_38 (by decide) ?_
      exact e_zret rfl (Or.inr rfl) dX3_opensLoop_39 (k3 g1 g2)
    ·
      refine e_iconst (u := 0) dX3_opensLoop_16 (by decide) ?_
      exact e_zret rfl (Or.inl rfl) dX3_opensLoop_17 (k4 g1 g2)

set_option maxRecDepth 20000 in
theorem s_X3_goesRound_0 {M M' : AM} {v : Option AV} (hS : St M)
    (k1 : ∀ (g1 : (mI M 18 9) ≤ 0), some (aI 0) = v ∧ M = M')
    (b2 : ∀ (g1 : ¬ ((mI M 18 9) ≤ 0)) (g2 : (mI M 18 9) ≤ 800), vp_in ((mI M 18 9) - 1) 800)
    (k3 : ∀ (g1 : ¬ ((mI M 18 9) ≤ 0)) (g2 : (mI M 18 9) ≤ 800) (g3 : (mI (wrI M 20 ((mI M 18 9) - 1).toNatClampNeg ((mI M 20 ((mI M 18 9) - 1).toNatClampNeg) - 1)) 20 ((mI M 18 9) - 1).toNatClampNeg) ≤ 0), some (aI 0) = v ∧ (wrI (wrI M 20 ((mI M 18 9) - 1).toNatClampNeg ((mI M 20 ((mI M 18 9) - 1).toNatClampNeg) - 1)) 18 9 ((mI M 18 9) - 1)) = M')
    (k4 : ∀ (g1 : ¬ ((mI M 18 9) ≤ 0)) (g2 : (mI M 18 9) ≤ 800) (g3 : ¬ ((mI (wrI M 20 ((mI M 18 9) - 1).toNatClampNeg ((mI M 20 ((mI M 18 9) - 1).toNatClampNeg) - 1)) 20 ((mI M 18 9) - 1).toNatClampNeg) ≤ 0)), some (aI 1) = v ∧ (wrI M 20 ((mI M 18 9) - 1).toNatClampNeg ((mI M 20 ((mI M 18 9) - 1).toNatClampNeg) - 1)) = M')
    (k5 : ∀ (g1 : ¬ ((mI M 18 9) ≤ 0)) (g2 : ¬ ((mI M 18 9) ≤ 800)), some (aI 0) = v ∧ M = M') :
    Ev K_X3_goesRound [aR (some 18)] M v M' := by
  refine ⟨Nat.le_of_ble_eq_true rfl, ?_⟩
  show E K_X3_goesRound 0 [some (aR (some 18))] [] M v M'
  refine e_aload_n dX3_goesRound_0 rfl ?_
  refine e_get ff_3_9 hS.l18 w201 dX3_goesRound_1 (w := aI (mI M 18 9)) rfl ?_
  refine e_if_le (tgt := 19) dX3_goesRound_4 rfl (fun g1 => ?_) (fun g1 => ?_)
  ·
    refine e_iconst (u := 0) dX3_goesRound_19 (by decide) ?_
    exact e_zret rfl (Or.inl rfl) dX3_goesRound_20 (k1 g1)
  ·
    refine e_aload_n dX3_goesRound_7 rfl ?_
    refine e_get ff_3_9 hS.l18 w201 dX3_goesRound_8 (w := aI (mI M 18 9)) rfl ?_
    refine e_aload_n dX3_goesRound_11 rfl ?_
    refine e_get ff_3_2 hS.l18 w194 dX3_goesRound_12 (w := aR (some 20)) hS.f18_2 ?_
    refine e_lenIv hS.l20 hS.n20 dX3_goesRound_15 ?_
    show E K_X3_goesRound 16 [some (aR (some 18))] [aI 800, aI (mI M 18 9)] M v M'
    refine e_icmp_le (tgt := 21) dX3_goesRound_16 rfl (fun g2 => ?_) (fun g2 => ?_)
    ·
      refine e_aload_n dX3_goesRound_21 rfl ?_
      refine e_get ff_3_2 hS.l18 w194 dX3_goesRound_22 (w := aR (some 20)) hS.f18_2 ?_
      refine e_aload_n dX3_goesRound_25 rfl ?_
      refine e_get ff_3_9 hS.l18 w201 dX3_goesRound_26 (w := aI (mI M 18 9)) rfl ?_
      refine e_iconst (u := 1) dX3_goesRound_29 (by decide) ?_
      refine e_isub dX3_goesRound_30 ?_
      refine e_dup2RI dX3_goesRound_31 ?_
      refine e_iald hS.l20 (hS.b20 (b2 g1 g2)) dX3_goesRound_32 ?_
      refine e_iconst (u := 1) dX3_goesRound_33 (by decide) ?_
      refine e_isub dX3_goesRound_34 ?_
      refine e_iast hS.l20 (hS.b20 (b2 g1 g2)) dX3_goesRound_35 ?_
      refine e_aload_n dX3_goesRound_36 rfl ?_
      refine e_get ff_3_2 hS.l18 w194 dX3_goesRound_37 (w := aR (some 20)) hS.f18_2 ?_
      refine e_aload_n dX3_goesRound_40 rfl ?_
      refine e_get ff_3_9 hS.l18 w201 dX3_goesRound_41 (w := aI (mI M 18 9)) rfl ?_
      refine e_iconst (u := 1) dX3_goesRound_44 (by decide) ?_
      refine e_isub dX3_goesRound_45 ?_
      refine e_iald hS.l20 (hS.b20 (b2 g1 g2)) dX3_goesRound_46 ?_
      show E K_X3_goesRound 47 [some (aR (some 18))] [aI (mI (wrI M 20 ((mI M 18 9) - 1).toNatClampNeg ((mI M 20 ((mI M 18 9) - 1).toNatClampNeg) - 1)) 20 ((mI M 18 9) - 1).toNatClampNeg)] (wrI M 20 ((mI M 18 9) - 1).toNatClampNeg ((mI M 20 ((mI M 18 9) - 1).toNatClampNeg) - 1)) v M'
      refine e_if_le (tgt := 52) dX3_goesRound_47 rfl (fun g3 => ?_) (fun g3 => ?_)
      ·
        refine e_aload_n dX3_goesRound_52 rfl ?_
        refine e_dupR dX3_goesRound_53 ?_
        refine e_get ff_3_9 hS.l18 w201 dX3_goesRound_54 (w := aI (mI M 18 9)) rfl ?_
        refine e_iconst (u := 1) dX3_goesRound_57 (by decide) ?_
        refine e_isub dX3_goesRound_58 ?_
        refine e_putI ff_3_9 rfl hS.l18 w201 dX3_goesRound_59 ?_
        refine e_iconst (u := 0) dX3_goesRound_62 (by decide) ?_
        exact e_zret rfl (Or.inl rfl) dX3_goesRound_63 (k3 g1 g2 g3)
      ·
        refine e_iconst (u := 1) dX3_goesRound_50 (by decide) ?_
        exact e_zret rfl (Or.inr rfl) dX3_goesRound_51 (k4 g1 g2 g3)
    ·
      refine e_iconst (u := 0) dX3_goesRound_19 (by decide) ?_
      exact e_zret rfl (Or.inl rfl) dX3_goesRound_20 (k5 g1 g2)

set_option maxRecDepth 20000 in
theorem s_X3_handle_0 {M M' : AM} {v : Option AV} {x1 : Int32} {x2 : Int64} {M1 : AM} {M2 : AM} {x103 : Int64} {M3 : AM} {x105 : Int64} {M4 : AM} {M5 : AM} {M6 : AM} {x108 : Int64} {M7 : AM} {M8 : AM} {x110 : Int64} {M9 : AM} {M10 : AM} {x112 : Int64} {M11 : AM} {M12 : AM} {x113 : Int64} {M13 : AM} {x114 : Int64} {M14 : AM} {x115 : Int64} {M15 : AM} (hS : St M)
    (c1 : ∀ (g1 : x1 = 0), Ev K_X3_push [aR (some 18), aJ x2] M (none) M1)
    (k2 : ∀ (g1 : x1 = 0), none = v ∧ M1 = M')
    (c3 : ∀ (g1 : ¬ (x1 = 0)) (g2 : x1 = 1), Ev K_X3_pop [aR (some 18)] M (some (aJ x103)) M2)
    (k4 : ∀ (g1 : ¬ (x1 = 0)) (g2 : x1 = 1), none = v ∧ M2 = M')
    (c5 : ∀ (g1 : ¬ (x1 = 0)) (g2 : ¬ (x1 = 1)) (g4 : x1 = 2), Ev K_X3_read [aR (some 18), aI ((mI M 18 8) - 1)] M (some (aJ x105)) M3)
    (c6 : ∀ (g1 : ¬ (x1 = 0)) (g2 : ¬ (x1 = 1)) (g4 : x1 = 2), Ev K_X3_push [aR (some 18), aJ x105] M3 (none) M4)
    (k7 : ∀ (g1 : ¬ (x1 = 0)) (g2 : ¬ (x1 = 1)) (g4 : x1 = 2), none = v ∧ M4 = M')
    (c8 : ∀ (g1 : ¬ (x1 = 0)) (g2 : ¬ (x1 = 1)) (g4 : ¬ (x1 = 2)) (g6 : x1 = 3), Ev K_X3_swap [aR (some 18)] M (none) M5)
    (k9 : ∀ (g1 : ¬ (x1 = 0)) (g2 : ¬ (x1 = 1)) (g4 : ¬ (x1 = 2)) (g6 : x1 = 3), none = v ∧ M5 = M')
    (b10 : ∀ (g1 : ¬ (x1 = 0)) (g2 : ¬ (x1 = 1)) (g4 : ¬ (x1 = 2)) (g6 : ¬ (x1 = 3)) (g7 : x1 = 9), vp_in (mI M 18 7) 100)
    (c11 : ∀ (g1 : ¬ (x1 = 0)) (g2 : ¬ (x1 = 1)) (g4 : ¬ (x1 = 2)) (g6 : ¬ (x1 = 3)) (g7 : x1 = 9), Ev K_X3_read [aR (some 18), aI ((mI M 23 (mI M 18 7).toNatClampNeg) + ((x2 : Int64).toInt32))] M (some (aJ x108)) M6)
    (c12 : ∀ (g1 : ¬ (x1 = 0)) (g2 : ¬ (x1 = 1)) (g4 : ¬ (x1 = 2)) (g6 : ¬ (x1 = 3)) (g7 : x1 = 9), Ev K_X3_push [aR (some 18), aJ x108] M6 (none) M7)
    (k13 : ∀ (g1 : ¬ (x1 = 0)) (g2 : ¬ (x1 = 1)) (g4 : ¬ (x1 = 2)) (g6 : ¬ (x1 = 3)) (g7 : x1 = 9), none = v ∧ M7 = M')
    (b14 : ∀ (g1 : ¬ (x1 = 0)) (g2 : ¬ (x1 = 1)) (g4 : ¬ (x1 = 2)) (g6 : ¬ (x1 = 3)) (g7 : ¬ (x1 = 9)) (g9 : x1 = 10), vp_in (mI M 18 7) 100)
    (c15 : ∀ (g1 : ¬ (x1 = 0)) (g2 : ¬ (x1 = 1)) (g4 : ¬ (x1 = 2)) (g6 : ¬ (x1 = 3)) (g7 : ¬ (x1 = 9)) (g9 : x1 = 10), Ev K_X3_pop [aR (some 18)] M (some (aJ x110)) M8)
    (c16 : ∀ (g1 : ¬ (x1 = 0)) (g2 : ¬ (x1 = 1)) (g4 : ¬ (x1 = 2)) (g6 : ¬ (x1 = 3)) (g7 : ¬ (x1 = 9)) (g9 : x1 = 10), Ev K_X3_write [aR (some 18), aI ((mI M 23 (mI M 18 7).toNatClampNeg) + ((x2 : Int64).toInt32)), aJ x110] M8 (none) M9)
    (k17 : ∀ (g1 : ¬ (x1 = 0)) (g2 : ¬ (x1 = 1)) (g4 : ¬ (x1 = 2)) (g6 : ¬ (x1 = 3)) (g7 : ¬ (x1 = 9)) (g9 : x1 = 10), none = v ∧ M9 = M')
    (c18 : ∀ (g1 : ¬ (x1 = 0)) (g2 : ¬ (x1 = 1)) (g4 : ¬ (x1 = 2)) (g6 : ¬ (x1 = 3)) (g7 : ¬ (x1 = 9)) (g9 : ¬ (x1 = 10)) (g11 : x1 = 11), Ev K_X3_read [aR (some 18), aI (((mI M 18 8) - 1) - ((x2 : Int64).toInt32))] M (some (aJ x112)) M10)
    (c19 : ∀ (g1 : ¬ (x1 = 0)) (g2 : ¬ (x1 = 1)) (g4 : ¬ (x1 = 2)) (g6 : ¬ (x1 = 3)) (g7 : ¬ (x1 = 9)) (g9 : ¬ (x1 = 10)) (g11 : x1 = 11), Ev K_X3_push [aR (some 18), aJ x112] M10 (none) M11)
    (k20 : ∀ (g1 : ¬ (x1 = 0)) (g2 : ¬ (x1 = 1)) (g4 : ¬ (x1 = 2)) (g6 : ¬ (x1 = 3)) (g7 : ¬ (x1 = 9)) (g9 : ¬ (x1 = 10)) (g11 : x1 = 11), none = v ∧ M11 = M')
    (c21 : ∀ (g1 : ¬ (x1 = 0)) (g2 : ¬ (x1 = 1)) (g4 : ¬ (x1 = 2)) (g6 : ¬ (x1 = 3)) (g7 : ¬ (x1 = 9)) (g9 : ¬ (x1 = 10)) (g11 : ¬ (x1 = 11)), Ev K_X3_pop [aR (some 18)] M (some (aJ x113)) M12)
    (c22 : ∀ (g1 : ¬ (x1 = 0)) (g2 : ¬ (x1 = 1)) (g4 : ¬ (x1 = 2)) (g6 : ¬ (x1 = 3)) (g7 : ¬ (x1 = 9)) (g9 : ¬ (x1 = 10)) (g11 : ¬ (x1 = 11)), Ev K_X3_pop [aR (some 18)] M12 (some (aJ x114)) M13)
    (c23 : ∀ (g1 : ¬ (x1 = 0)) (g2 : ¬ (x1 = 1)) (g4 : ¬ (x1 = 2)) (g6 : ¬ (x1 = 3)) (g7 : ¬ (x1 = 9)) (g9 : ¬ (x1 = 10)) (g11 : ¬ (x1 = 11)), Ev K_X3_compute [aI x1, aJ x114, aJ x113] M13 (some (aJ x115)) M14)
    (c24 : ∀ (g1 : ¬ (x1 = 0)) (g2 : ¬ (x1 = 1)) (g4 : ¬ (x1 = 2)) (g6 : ¬ (x1 = 3)) (g7 : ¬ (x1 = 9)) (g9 : ¬ (x1 = 10)) (g11 : ¬ (x1 = 11)), Ev K_X3_push [aR (some 18), aJ x115] M14 (none) M15)
    (k25 : ∀ (g1 : ¬ (x1 = 0)) (g2 : ¬ (x1 = 1)) (g4 : ¬ (x1 = 2)) (g6 : ¬ (x1 = 3)) (g7 : ¬ (x1 = 9)) (g9 : ¬ (x1 = 10)) (g11 : ¬ (x1 = 11)), none = v ∧ M15 = M') :
    Ev K_X3_handle [aR (some 18), aI x1, aJ x2] M v M' := by
  refine ⟨Nat.le_of_ble_eq_true rfl, ?_⟩
  show E K_X3_handle 0 [some (aR (some 18)), some (aI x1), some (aJ x2), none, none, none] [] M v M'
  refine e_iload_n dX3_handle_0 rfl ?_
  refine e_tsw (d := 170) (tg := [64, 72, 80, 97, 170, 170, 170, 170, 170, 104, 127, 150]) dX3_handle_1 rfl rfl rfl ?_
  by_cases g1 : x1 = 0
  · have e9 : tsw 0 [64, 72, 80, 97, 170, 170, 170, 170, 170, 104, 127, 150] 170 x1 = 64 := by rw [g1]; rfl
    rw [e9]
    refine e_aload_n dX3_handle_64 rfl ?_
    refine e_lload_n dX3_handle_65 rfl ?_
    refine e_callV (As := [aJ x2]) (rest := []) vk_X3_push hS.l18 w740 ⟨by decide, by decide⟩ (Nat.le_of_ble_eq_true rfl) dX3_handle_66 (c1 g1) ?_
    show E K_X3_handle 69 [some (aR (some 18)), some (aI x1), some (aJ x2), none, none, none] [] M1 v M'
    have hS_1 : St M1 := St.sh (M := M) (c1 g1).2.1 hS
    refine e_goto (tgt := 190) dX3_handle_69 rfl ?_
    exact e_vret rfl dX3_handle_190 (k2 g1)
  by_cases g2 : x1 = 1
  · have e9 : tsw 0 [64, 72, 80, 97, 170, 170, 170, 170, 170, 104, 127, 150] 170 x1 = 72 := by rw [g2]; rfl
    rw [e9]
    refine e_aload_n dX3_handle_72 rfl ?_
    refine e_callV (As := []) (rest := []) vk_X3_pop hS.l18 w774 ⟨by decide, by decide⟩ (Nat.le_of_ble_eq_true rfl) dX3_handle_73 (c3 g1 g2) ?_
    show E K_X3_handle 76 [some (aR (some 18)), some (aI x1), some (aJ x2), none, none, none] [aJ x103] M2 v M'
    have hS_2 : St M2 := St.sh (M := M) (c3 g1 g2).2.1 hS
    refine e_pop2 dX3_handle_76 ?_
    refine e_goto (tgt := 190) dX3_handle_77 rfl ?_
    exact e_vret rfl dX3_handle_190 (k4 g1 g2)
  by_cases g4 : x1 = 2
  · have e9 : tsw 0 [64, 72, 80, 97, 170, 170, 170, 170, 170, 104, 127, 150] 170 x1 = 80 := by rw [g4]; rfl
    rw [e9]
    refine e_aload_n dX3_handle_80 rfl ?_
    refine e_aload_n dX3_handle_81 rfl ?_
    refine e_aload_n dX3_handle_82 rfl ?_
    refine e_get ff_3_8 hS.l18 w200 dX3_handle_83 (w := aI (mI M 18 8)) rfl ?_
    refine e_iconst (u := 1) dX3_handle_86 (by decide) ?_
    refine e_isub dX3_handle_87 ?_
    refine e_callV (As := [aI ((mI M 18 8) - 1)]) (rest := [aR (some 18)]) vk_X3_read hS.l18 w778 ⟨by decide, by decide⟩ (Nat.le_of_ble_eq_true rfl) dX3_handle_88 (c5 g1 g2 g4) ?_
    show E K_X3_handle 91 [some (aR (some 18)), some (aI x1), some (aJ x2), none, none, none] [aJ x105, aR (some 18)] M3 v M'
    have hS_3 : St M3 := St.sh (M := M) (c5 g1 g2 g4).2.1 hS
    refine e_callV (As := [aJ x105]) (rest := []) vk_X3_push hS_3.l18 w740 ⟨by decide, by decide⟩ (Nat.le_of_ble_eq_true rfl) dX3_handle_91 (c6 g1 g2 g4) ?_
    show E K_X3_handle 94 [some (aR (some 18)), some (aI x1), some (aJ x2), none, none, none] [] M4 v M'
    have hS_4 : St M4 := St.sh (M := M3) (c6 g1 g2 g4).2.1 hS_3
    refine e_goto (tgt := 190) dX3_handle_94 rfl ?_
    exact e_vret rfl dX3_handle_190 (k7 g1 g2 g4)
  by_cases g6 : x1 = 3
  · have e9 : tsw 0 [64, 72, 80, 97, 170, 170, 170, 170, 170, 104, 127, 150] 170 x1 = 97 := by rw [g6]; rfl
    rw [e9]
    refine e_aload_n dX3_handle_97 rfl ?_
    refine e_callV (As := []) (rest := []) vk_X3_swap hS.l18 w798 ⟨by decide, by decide⟩ (Nat.le_of_ble_eq_true rfl) dX3_handle_98 (c8 g1 g2 g4 g6) ?_
    show E K_X3_handle 101 [some (aR (some 18)), some (aI x1), some (aJ x2), none, none, none] [] M5 v M'
    have hS_5 : St M5 := St.sh (M := M) (c8 g1 g2 g4 g6).2.1 hS
    refine e_goto (tgt := 190) dX3_handle_101 rfl ?_
    exact e_vret rfl dX3_handle_190 (k9 g1 g2 g4 g6)
  by_cases g7 : x1 = 9
  · have e9 : tsw 0 [64, 72, 80, 97, 170, 170, 170, 170, 170, 104, 127, 150] 170 x1 = 104 := by rw [g7]; rfl
    rw [e9]
    refine e_aload_n dX3_handle_104 rfl ?_
    refine e_aload_n dX3_handle_105 rfl ?_
    refine e_aload_n dX3_handle_106 rfl ?_
    refine e_get ff_3_5 hS.l18 w197 dX3_handle_107 (w := aR (some 23)) hS.f18_5 ?_
    refine e_aload_n dX3_handle_110 rfl ?_
    refine e_get ff_3_7 hS.l18 w199 dX3_handle_111 (w := aI (mI M 18 7)) rfl ?_
    refine e_iald hS.l23 (hS.b23 (b10 g1 g2 g4 g6 g7)) dX3_handle_114 ?_
    refine e_lload_n dX3_handle_115 rfl ?_
    refine e_l2i dX3_handle_116 ?_
    refine e_iadd dX3_handle_117 ?_
    refine e_callV (As := [aI ((mI M 23 (mI M 18 7).toNatClampNeg) + ((x2 : Int64).toInt32))]) (rest := [aR (some 18)]) vk_X3_read hS.l18 w778 ⟨by decide, by decide⟩ (Nat.le_of_ble_eq_true rfl) dX3_handle_118 (c11 g1 g2 g4 g6 g7) ?_
    show E K_X3_handle 121 [some (aR (some 18)), some (aI x1), some (aJ x2), none, none, none] [aJ x108, aR (some 18)] M6 v M'
    have hS_6 : St M6 := St.sh (M := M) (c11 g1 g2 g4 g6 g7).2.1 hS
    refine e_callV (As := [aJ x108]) (rest := []) vk_X3_push hS_6.l18 w740 ⟨by decide, by decide⟩ (Nat.le_of_ble_eq_true rfl) dX3_handle_121 (c12 g1 g2 g4 g6 g7) ?_
    show E K_X3_handle 124 [some (aR (some 18)), some (aI x1), some (aJ x2), none, none, none] [] M7 v M'
    have hS_7 : St M7 := St.sh (M := M6) (c12 g1 g2 g4 g6 g7).2.1 hS_6
    refine e_goto (tgt := 190) dX3_handle_124 rfl ?_
    exact e_vret rfl dX3_handle_190 (k13 g1 g2 g4 g6 g7)
  by_cases g9 : x1 = 10
  · have e9 : tsw 0 [64, 72, 80, 97, 170, 170, 170, 170, 170, 104, 127, 150] 170 x1 = 127 := by rw [g9]; rfl
    rw [e9]
    refine e_aload_n dX3_handle_127 rfl ?_
    refine e_aload_n dX3_handle_128 rfl ?_
    refine e_get ff_3_5 hS.l18 w197 dX3_handle_129 (w := aR (some 23)) hS.f18_5 ?_
    refine e_aload_n dX3_handle_132 rfl ?_
    refine e_get ff_3_7 hS.l18 w199 dX3_handle_133 (w := aI (mI M 18 7)) rfl ?_
    refine e_iald hS.l23 (hS.b23 (b14 g1 g2 g4 g6 g7 g9)) dX3_handle_136 ?_
    refine e_lload_n dX3_handle_137 rfl ?_
    refine e_l2i dX3_handle_138 ?_
    refine e_iadd dX3_handle_139 ?_
    refine e_aload_n dX3_handle_140 rfl ?_
    refine e_callV (As := []) (rest := [aI ((mI M 23 (mI M 18 7).toNatClampNeg) + ((x2 : Int64).toInt32)), aR (some 18)]) vk_X3_pop hS.l18 w774 ⟨by decide, by decide⟩ (Nat.le_of_ble_eq_true rfl) dX3_handle_141 (c15 g1 g2 g4 g6 g7 g9) ?_
    show E K_X3_handle 144 [some (aR (some 18)), some (aI x1), some (aJ x2), none, none, none] [aJ x110, aI ((mI M 23 (mI M 18 7).toNatClampNeg) + ((x2 : Int64).toInt32)), aR (some 18)] M8 v M'
    have hS_8 : St M8 := St.sh (M := M) (c15 g1 g2 g4 g6 g7 g9).2.1 hS
    refine e_callV (As := [aI ((mI M 23 (mI M 18 7).toNatClampNeg) + ((x2 : Int64).toInt32)), aJ x110]) (rest := []) vk_X3_write hS_8.l18 w744 ⟨by decide, by decide⟩ (Nat.le_of_ble_eq_true rfl) dX3_handle_144 (c16 g1 g2 g4 g6 g7 g9) ?_
    show E K_X3_handle 147 [some (aR (some 18)), some (aI x1), some (aJ x2), none, none, none] [] M9 v M'
    have hS_9 : St M9 := St.sh (M := M8) (c16 g1 g2 g4 g6 g7 g9).2.1 hS_8
    refine e_goto (tgt := 190) dX3_handle_147 rfl ?_
    exact e_vret rfl dX3_handle_190 (k17 g1 g2 g4 g6 g7 g9)
  by_cases g11 : x1 = 11
  · have e9 : tsw 0 [64, 72, 80, 97, 170, 170, 170, 170, 170, 104, 127, 150] 170 x1 = 150 := by rw [g11]; rfl
    rw [e9]
    refine e_aload_n dX3_handle_150 rfl ?_
    refine e_aload_n dX3_handle_151 rfl ?_
    refine e_aload_n dX3_handle_152 rfl ?_
    refine e_get ff_3_8 hS.l18 w200 dX3_handle_153 (w := aI (mI M 18 8)) rfl ?_
    refine e_iconst (u := 1) dX3_handle_156 (by decide) ?_
    refine e_isub dX3_handle_157 ?_
    refine e_lload_n dX3_handle_158 rfl ?_
    refine e_l2i dX3_handle_159 ?_
    refine e_isub dX3_handle_160 ?_
    refine e_callV (As := [aI (((mI M 18 8) - 1) - ((x2 : Int64).toInt32))]) (rest := [aR (some 18)]) vk_X3_read hS.l18 w778 ⟨by decide, by decide⟩ (Nat.le_of_ble_eq_true rfl) dX3_handle_161 (c18 g1 g2 g4 g6 g7 g9 g11) ?_
    show E K_X3_handle 164 [some (aR (some 18)), some (aI x1), some (aJ x2), none, none, none] [aJ x112, aR (some 18)] M10 v M'
    have hS_10 : St M10 := St.sh (M := M) (c18 g1 g2 g4 g6 g7 g9 g11).2.1 hS
    refine e_callV (As := [aJ x112]) (rest := []) vk_X3_push hS_10.l18 w740 ⟨by decide, by decide⟩ (Nat.le_of_ble_eq_true rfl) dX3_handle_164 (c19 g1 g2 g4 g6 g7 g9 g11) ?_
    show E K_X3_handle 167 [some (aR (some 18)), some (aI x1), some (aJ x2), none, none, none] [] M11 v M'
    have hS_11 : St M11 := St.sh (M := M10) (c19 g1 g2 g4 g6 g7 g9 g11).2.1 hS_10
    refine e_goto (tgt := 190) dX3_handle_167 rfl ?_
    exact e_vret rfl dX3_handle_190 (k20 g1 g2 g4 g6 g7 g9 g11)
  have e9 : tsw 0 [64, 72, 80, 97, 170, 170, 170, 170, 170, 104, 127, 150] 170 x1 = 170 := tsw_out [0, 1, 2, 3, 9, 10, 11] (by decide) (by
      simp only [List.mem_cons, List.not_mem_nil, or_false, forall_eq_or_imp, forall_eq]
      skip
      exact ⟨g1, g2, g4, g6, g7, g9, g11⟩)
  rw [e9]
  refine e_aload_n dX3_handle_170 rfl ?_
  refine e_callV (As := []) (rest := []) vk_X3_pop hS.l18 w774 ⟨by decide, by decide⟩ (Nat.le_of_ble_eq_true rfl) dX3_handle_171 (c21 g1 g2 g4 g6 g7 g9 g11) ?_
  show E K_X3_handle 174 [some (aR (some 18)), some (aI x1), some (aJ x2), none, none, none] [aJ x113] M12 v M'
  have hS_12 : St M12 := St.sh (M := M) (c21 g1 g2 g4 g6 g7 g9 g11).2.1 hS
  refine e_lstore dX3_handle_174 (Nat.le_of_ble_eq_true rfl) ?_
  show E K_X3_handle 176 [some (aR (some 18)), some (aI x1), some (aJ x2), none, some (aJ x113), none] [] M12 v M'
  refine e_aload_n dX3_handle_176 rfl ?_
  refine e_iload_n dX3_handle_177 rfl ?_
  refine e_aload_n dX3_handle_178 rfl ?_
  refine e_callV (As := []) (rest := [aI x1, aR (some 18)]) vk_X3_pop hS_12.l18 w774 ⟨by decide, by decide⟩ (Nat.le_of_ble_eq_true rfl) dX3_handle_179 (c22 g1 g2 g4 g6 g7 g9 g11) ?_
  show E K_X3_handle 182 [some (aR (some 18)), some (aI x1), some (aJ x2), none, some (aJ x113), none] [aJ x114, aI x1, aR (some 18)] M13 v M'
  have hS_13 : St M13 := St.sh (M := M12) (c22 g1 g2 g4 g6 g7 g9 g11).2.1 hS_12
  refine e_lload dX3_handle_182 rfl ?_
  refine e_callS (As := [aI x1, aJ x114, aJ x113]) (rest := [aR (some 18)]) sk_X3_compute w802 ⟨by decide, by decide⟩ (Nat.le_of_ble_eq_true rfl) dX3_handle_184 (c23 g1 g2 g4 g6 g7 g9 g11) ?_
  show E K_X3_handle 187 [some (aR (some 18)), some (aI x1), some (aJ x2), none, some (aJ x113), none] [aJ x115, aR (some 18)] M14 v M'
  have hS_14 : St M14 := St.sh (M := M13) (c23 g1 g2 g4 g6 g7 g9 g11).2.1 hS_13
  refine e_callV (As := [aJ x115]) (rest := []) vk_X3_push hS_14.l18 w740 ⟨by decide, by decide⟩ (Nat.le_of_ble_eq_true rfl) dX3_handle_187 (c24 g1 g2 g4 g6 g7 g9 g11) ?_
  show E K_X3_handle 190 [some (aR (some 18)), some (aI x1), some (aJ x2), none, some (aJ x113), none] [] M15 v M'
  have hS_15 : St M15 := St.sh (M := M14) (c24 g1 g2 g4 g6 g7 g9 g11).2.1 hS_14
  exact e_vret rfl dX3_handle_190 (k25 g1 g2 g4 g6 g7 g9 g11)

set_option maxRecDepth 20000 in
theorem s_X3_swap_0 {M M' : AM} {v : Option AV} {M1 : AM} {x101 : Int64} {M2 : AM} {x102 : Int64} {M3 : AM} {M4 : AM} (hS : St M)
    (c1 : Ev K_X3_pop [aR (some 18)] M (some (aJ x101)) M1)
    (c2 : Ev K_X3_pop [aR (some 18)] M1 (some (aJ x102)) M2)
    (c3 : Ev K_X3_push [aR (some 18), aJ x101] M2 (none) M3)
    (c4 : Ev K_X3_push [aR (some 18), aJ x102] M3 (none) M4)
    (k5 : none = v ∧ M4 = M') :
    Ev K_X3_swap [aR (some 18)] M v M' := by
  refine ⟨Nat.le_of_ble_eq_true rfl, ?_⟩
  show E K_X3_swap 0 [some (aR (some 18)), none, none, none, none] [] M v M'
  refine e_aload_n dX3_swap_0 rfl ?_
  refine e_callV (As := []) (rest := []) vk_X3_pop hS.l18 w774 ⟨by decide, by decide⟩ (Nat.le_of_ble_eq_true rfl) dX3_swap_1 c1 ?_
  show E K_X3_swap 4 [some (aR (some 18)), none, none, none, none] [aJ x101] M1 v M'
  have hS_1 : St M1 := St.sh (M := M) c1.2.1 hS
  refine e_lstore_n dX3_swap_4 (Nat.le_of_ble_eq_true rfl) ?_
  show E K_X3_swap 5 [some (aR (some 18)), some (aJ x101), none, none, none] [] M1 v M'
  refine e_aload_n dX3_swap_5 rfl ?_
  refine e_callV (As := []) (rest := []) vk_X3_pop hS_1.l18 w774 ⟨by decide, by decide⟩ (Nat.le_of_ble_eq_true rfl) dX3_swap_6 c2 ?_
  show E K_X3_swap 9 [some (aR (some 18)), some (aJ x101), none, none, none] [aJ x102] M2 v M'
  have hS_2 : St M2 := St.sh (M := M1) c2.2.1 hS_1
  refine e_lstore_n dX3_swap_9 (Nat.le_of_ble_eq_true rfl) ?_
  show E K_X3_swap 10 [some (aR (some 18)), some (aJ x101), none, some (aJ x102), none] [] M2 v M'
  refine e_aload_n dX3_swap_10 rfl ?_
  refine e_lload_n dX3_swap_11 rfl ?_
  refine e_callV (As := [aJ x101]) (rest := []) vk_X3_push hS_2.l18 w740 ⟨by decide, by decide⟩ (Nat.le_of_ble_eq_true rfl) dX3_swap_12 c3 ?_
  show E K_X3_swap 15 [some (aR (some 18)), some (aJ x101), none, some (aJ x102), none] [] M3 v M'
  have hS_3 : St M3 := St.sh (M := M2) c3.2.1 hS_2
  refine e_aload_n dX3_swap_15 rfl ?_
  refine e_lload_n dX3_swap_16 rfl ?_
  refine e_callV (As := [aJ x102]) (rest := []) vk_X3_push hS_3.l18 w740 ⟨by decide, by decide⟩ (Nat.le_of_ble_eq_true rfl) dX3_swap_17 c4 ?_
  show E K_X3_swap 20 [some (aR (some 18)), some (aJ x101), none, some (aJ x102), none] [] M4 v M'
  have hS_4 : St M4 := St.sh (M := M3) c4.2.1 hS_3
  exact e_vret rfl dX3_swap_20 k5

set_option maxRecDepth 20000 in
theorem s_X3_compute_0 {M M' : AM} {v : Option AV} {x0 : Int32} {x1 : Int64} {x3 : Int64} (hS : St M)
    (k1 : ∀ (g1 : x0 = 4), some (aJ (x1 + x3)) = v ∧ M = M')
    (k2 : ∀ (g1 : ¬ (x0 = 4)) (g2 : x0 = 5), some (aJ (x1 - x3)) = v ∧ M = M')
    (k3 : ∀ (g1 : ¬ (x0 = 4)) (g2 : ¬ (x0 = 5)) (g3 : x0 = 6), some (aJ (x1 * x3)) = v ∧ M = M')
    (k4 : ∀ (g1 : ¬ (x0 = 4)) (g2 : ¬ (x0 = 5)) (g3 : ¬ (x0 = 6)) (g4 : x0 = 7) (g5 : ¬ (x1 < x3)), some (aJ 0) = v ∧ M = M')
    (k5 : ∀ (g1 : ¬ (x0 = 4)) (g2 : ¬ (x0 = 5)) (g3 : ¬ (x0 = 6)) (g4 : x0 = 7) (g5 : x1 < x3), some (aJ 1) = v ∧ M = M')
    (z6 : ∀ (g1 : ¬ (x0 = 4)) (g2 : ¬ (x0 = 5)) (g3 : ¬ (x0 = 6)) (g4 : ¬ (x0 = 7)) (g6 : ¬ (x3 = 0)), ¬ x3 = 0)
    (k7 : ∀ (g1 : ¬ (x0 = 4)) (g2 : ¬ (x0 = 5)) (g3 : ¬ (x0 = 6)) (g4 : ¬ (x0 = 7)) (g6 : ¬ (x3 = 0)), some (aJ (x1 / x3)) = v ∧ M = M')
    (k8 : ∀ (g1 : ¬ (x0 = 4)) (g2 : ¬ (x0 = 5)) (g3 : ¬ (x0 = 6)) (g4 : ¬ (x0 = 7)) (g6 : x3 = 0), some (aJ 0) = v ∧ M = M') :
    Ev K_X3_compute [aI x0, aJ x1, aJ x3] M v M' := by
  refine ⟨Nat.le_of_ble_eq_true rfl, ?_⟩
  show E K_X3_compute 0 [some (aI x0), some (aJ x1), none, some (aJ x3), none] [] M v M'
  refine e_iload_n dX3_compute_0 rfl ?_
  refine e_tsw (d := 56) (tg := [32, 36, 40, 44]) dX3_compute_1 rfl rfl rfl ?_
  by_cases g1 : x0 = 4
  · have e9 : tsw 4 [32, 36, 40, 44] 56 x0 = 32 := by rw [g1]; rfl
    rw [e9]
    refine e_lload_n dX3_compute_32 rfl ?_
    refine e_lload_n dX3_compute_33 rfl ?_
    refine e_ladd dX3_compute_34 ?_
    exact e_lret rfl dX3_compute_35 (k1 g1)
  by_cases g2 : x0 = 5
  · have e9 : tsw 4 [32, 36, 40, 44] 56 x0 = 36 := by rw [g2]; rfl
    rw [e9]
    refine e_lload_n dX3_compute_36 rfl ?_
    refine e_lload_n dX3_compute_37 rfl ?_
    refine e_lsub dX3_compute_38 ?_
    exact e_lret rfl dX3_compute_39 (k2 g1 g2)
  by_cases g3 : x0 = 6
  · have e9 : tsw 4 [32, 36, 40, 44] 56 x0 = 40 := by rw [g3]; rfl
    rw [e9]
    refine e_lload_n dX3_compute_40 rfl ?_
    refine e_lload_n dX3_compute_41 rfl ?_
    refine e_lmul dX3_compute_42 ?_
    exact e_lret rfl dX3_compute_43 (k3 g1 g2 g3)
  by_cases g4 : x0 = 7
  · have e9 : tsw 4 [32, 36, 40, 44] 56 x0 = 44 := by rw [g4]; rfl
    rw [e9]
    refine e_lload_n dX3_compute_44 rfl ?_
    refine e_lload_n dX3_compute_45 rfl ?_
    refine e_lcmp_ge (tgt := 54) dX3_compute_46 dX3_compute_47 rfl (fun g5 => ?_) (fun g5 => ?_)
    ·
      refine e_lconst (u := 0) dX3_compute_54 (by decide) ?_
      exact e_lret rfl dX3_compute_55 (k4 g1 g2 g3 g4 g5)
    ·
      refine e_lconst (u := 1) dX3_compute_50 (by decide) ?_
      refine e_goto (tgt := 55) dX3_compute_51 rfl ?_
      exact e_lret rfl dX3_compute_55 (k5 g1 g2 g3 g4 g5)
  have e9 : tsw 4 [32, 36, 40, 44] 56 x0 = 56 := tsw_out [4, 5, 6, 7] (by decide) (by
      simp only [List.mem_cons, List.not_mem_nil, or_false, forall_eq_or_imp, forall_eq]
      skip
      exact ⟨g1, g2, g3, g4⟩)
  rw [e9]
  refine e_lload_n dX3_compute_56 rfl ?_
  refine e_lconst (u := 0) dX3_compute_57 (by decide) ?_
  refine e_lcmp_ne (tgt := 66) dX3_compute_58 dX3_compute_59 rfl (fun g6 => ?_) (fun g6 => ?_)
  ·
    refine e_lload_n dX3_compute_66 rfl ?_
    refine e_lload_n dX3_compute_67 rfl ?_
    refine e_ldiv dX3_compute_68 (z6 g1 g2 g3 g4 g6) ?_
    exact e_lret rfl dX3_compute_69 (k7 g1 g2 g3 g4 g6)
  ·
    refine e_lconst (u := 0) dX3_compute_62 (by decide) ?_
    refine e_goto (tgt := 69) dX3_compute_63 rfl ?_
    exact e_lret rfl dX3_compute_69 (k8 g1 g2 g3 g4 g6)

set_option maxRecDepth 20000 in
theorem s_X3_push_0 {M M' : AM} {v : Option AV} {x1 : Int64} {M1 : AM} (hS : St M)
    (c1 : Ev K_X3_write [aR (some 18), aI (mI M 18 8), aJ x1] M (none) M1)
    (k2 : none = v ∧ (wrI M1 18 8 ((mI M1 18 8) + 1)) = M') :
    Ev K_X3_push [aR (some 18), aJ x1] M v M' := by
  refine ⟨Nat.le_of_ble_eq_true rfl, ?_⟩
  show E K_X3_push 0 [some (aR (some 18)), some (aJ x1), none] [] M v M'
  refine e_aload_n dX3_push_0 rfl ?_
  refine e_aload_n dX3_push_1 rfl ?_
  refine e_get ff_3_8 hS.l18 w200 dX3_push_2 (w := aI (mI M 18 8)) rfl ?_
  refine e_lload_n dX3_push_5 rfl ?_
  refine e_callV (As := [aI (mI M 18 8), aJ x1]) (rest := []) vk_X3_write hS.l18 w744 ⟨by decide, by decide⟩ (Nat.le_of_ble_eq_true rfl) dX3_push_6 c1 ?_
  show E K_X3_push 9 [some (aR (some 18)), some (aJ x1), none] [] M1 v M'
  have hS_1 : St M1 := St.sh (M := M) c1.2.1 hS
  refine e_aload_n dX3_push_9 rfl ?_
  refine e_dupR dX3_push_10 ?_
  refine e_get ff_3_8 hS_1.l18 w200 dX3_push_11 (w := aI (mI M1 18 8)) rfl ?_
  refine e_iconst (u := 1) dX3_push_14 (by decide) ?_
  refine e_iadd dX3_push_15 ?_
  refine e_putI ff_3_8 rfl hS_1.l18 w200 dX3_push_16 ?_
  exact e_vret rfl dX3_push_19 k2

set_option maxRecDepth 20000 in
theorem s_X3_pop_0 {M M' : AM} {v : Option AV} {M1 : AM} {x101 : Int64} (hS : St M)
    (c1 : Ev K_X3_read [aR (some 18), aI ((mI M 18 8) - 1)] (wrI M 18 8 ((mI M 18 8) - 1)) (some (aJ x101)) M1)
    (k2 : some (aJ x101) = v ∧ M1 = M') :
    Ev K_X3_pop [aR (some 18)] M v M' := by
  refine ⟨Nat.le_of_ble_eq_true rfl, ?_⟩
  show E K_X3_pop 0 [some (aR (some 18))] [] M v M'
  refine e_aload_n dX3_pop_0 rfl ?_
  refine e_dupR dX3_pop_1 ?_
  refine e_get ff_3_8 hS.l18 w200 dX3_pop_2 (w := aI (mI M 18 8)) rfl ?_
  refine e_iconst (u := 1) dX3_pop_5 (by decide) ?_
  refine e_isub dX3_pop_6 ?_
  refine e_putI ff_3_8 rfl hS.l18 w200 dX3_pop_7 ?_
  refine e_aload_n dX3_pop_10 rfl ?_
  refine e_aload_n dX3_pop_11 rfl ?_
  refine e_get ff_3_8 hS.l18 w200 dX3_pop_12 (w := aI ((mI M 18 8) - 1)) rfl ?_
  refine e_callV (As := [aI ((mI M 18 8) - 1)]) (rest := []) vk_X3_read hS.l18 w778 ⟨by decide, by decide⟩ (Nat.le_of_ble_eq_true rfl) dX3_pop_15 c1 ?_
  show E K_X3_pop 18 [some (aR (some 18))] [aJ x101] M1 v M'
  have hS_1 : St M1 := St.sh (M := (wrI M 18 8 ((mI M 18 8) - 1))) c1.2.1 hS
  exact e_lret rfl dX3_pop_18 k2

set_option maxRecDepth 20000 in
theorem s_X3_read_0 {M M' : AM} {v : Option AV} {x1 : Int32} (hS : St M)
    (k1 : ∀ (g1 : x1 < 0), some (aJ 0) = v ∧ M = M')
    (k2 : ∀ (g1 : ¬ (x1 < 0)) (g2 : 11600 ≤ x1), some (aJ 0) = v ∧ M = M')
    (b3 : ∀ (g1 : ¬ (x1 < 0)) (g2 : ¬ (11600 ≤ x1)), vp_in x1 11600)
    (k4 : ∀ (g1 : ¬ (x1 < 0)) (g2 : ¬ (11600 ≤ x1)), some (aJ (mJ M 19 x1.toNatClampNeg)) = v ∧ M = M') :
    Ev K_X3_read [aR (some 18), aI x1] M v M' := by
  refine ⟨Nat.le_of_ble_eq_true rfl, ?_⟩
  show E K_X3_read 0 [some (aR (some 18)), some (aI x1)] [] M v M'
  refine e_iload_n dX3_read_0 rfl ?_
  refine e_if_lt (tgt := 22) dX3_read_1 rfl (fun g1 => ?_) (fun g1 => ?_)
  ·
    refine e_lconst (u := 0) dX3_read_22 (by decide) ?_
    exact e_lret rfl dX3_read_23 (k1 g1)
  ·
    refine e_iload_n dX3_read_4 rfl ?_
    refine e_aload_n dX3_read_5 rfl ?_
    refine e_get ff_3_1 hS.l18 w193 dX3_read_6 (w := aR (some 19)) hS.f18_1 ?_
    refine e_lenJv hS.l19 hS.n19 dX3_read_9 ?_
    show E K_X3_read 10 [some (aR (some 18)), some (aI x1)] [aI 11600, aI x1] M v M'
    refine e_icmp_ge (tgt := 22) dX3_read_10 rfl (fun g2 => ?_) (fun g2 => ?_)
    ·
      refine e_lconst (u := 0) dX3_read_22 (by decide) ?_
      exact e_lret rfl dX3_read_23 (k2 g1 g2)
    ·
      refine e_aload_n dX3_read_13 rfl ?_
      refine e_get ff_3_1 hS.l18 w193 dX3_read_14 (w := aR (some 19)) hS.f18_1 ?_
      refine e_iload_n dX3_read_17 rfl ?_
      refine e_lald hS.l19 (hS.b19 (b3 g1 g2)) dX3_read_18 ?_
      refine e_goto (tgt := 23) dX3_read_19 rfl ?_
      exact e_lret rfl dX3_read_23 (k4 g1 g2)

set_option maxRecDepth 20000 in
theorem s_X3_write_0 {M M' : AM} {v : Option AV} {x1 : Int32} {x2 : Int64} (hS : St M)
    (k1 : ∀ (g1 : x1 < 0), none = v ∧ M = M')
    (k2 : ∀ (g1 : ¬ (x1 < 0)) (g2 : 11600 ≤ x1), none = v ∧ M = M')
    (b3 : ∀ (g1 : ¬ (x1 < 0)) (g2 : ¬ (11600 ≤ x1)), vp_in x1 11600)
    (k4 : ∀ (g1 : ¬ (x1 < 0)) (g2 : ¬ (11600 ≤ x1)), none = v ∧ (wrJ M 19 x1.toNatClampNeg x2) = M') :
    Ev K_X3_write [aR (some 18), aI x1, aJ x2] M v M' := by
  refine ⟨Nat.le_of_ble_eq_true rfl, ?_⟩
  show E K_X3_write 0 [some (aR (some 18)), some (aI x1), some (aJ x2), none] [] M v M'
  refine e_iload_n dX3_write_0 rfl ?_
  refine e_if_lt (tgt := 20) dX3_write_1 rfl (fun g1 => ?_) (fun g1 => ?_)
  ·
    exact e_vret rfl dX3_write_20 (k1 g1)
  ·
    refine e_iload_n dX3_write_4 rfl ?_
    refine e_aload_n dX3_write_5 rfl ?_
    refine e_get ff_3_1 hS.l18 w193 dX3_write_6 (w := aR (some 19)) hS.f18_1 ?_
    refine e_lenJv hS.l19 hS.n19 dX3_write_9 ?_
    show E K_X3_write 10 [some (aR (some 18)), some (aI x1), some (aJ x2), none] [aI 11600, aI x1] M v M'
    refine e_icmp_ge (tgt := 20) dX3_write_10 rfl (fun g2 => ?_) (fun g2 => ?_)
    ·
      exact e_vret rfl dX3_write_20 (k2 g1 g2)
    ·
      refine e_aload_n dX3_write_13 rfl ?_
      refine e_get ff_3_1 hS.l18 w193 dX3_write_14 (w := aR (some 19)) hS.f18_1 ?_
      refine e_iload_n dX3_write_17 rfl ?_
      refine e_lload_n dX3_write_18 rfl ?_
      refine e_last hS.l19 (hS.b19 (b3 g1 g2)) dX3_write_19 ?_
      exact e_vret rfl dX3_write_20 (k4 g1 g2)

set_option maxRecDepth 20000 in
theorem s_X3_countWords_0 {M M' : AM} {v : Option AV} (hS : St M)
    (k1 : none = v ∧ (wrI M 18 12 (if mI M 18 12 < (mI M 18 8) + (2 * (mI M 18 7)) then (mI M 18 8) + (2 * (mI M 18 7)) else mI M 18 12)) = M') :
    Ev K_X3_countWords [aR (some 18)] M v M' := by
  refine ⟨Nat.le_of_ble_eq_true rfl, ?_⟩
  show E K_X3_countWords 0 [some (aR (some 18))] [] M v M'
  refine e_aload_n dX3_countWords_0 rfl ?_
  refine e_aload_n dX3_countWords_1 rfl ?_
  refine e_get ff_3_12 hS.l18 w204 dX3_countWords_2 (w := aI (mI M 18 12)) rfl ?_
  refine e_aload_n dX3_countWords_5 rfl ?_
  refine e_get ff_3_8 hS.l18 w200 dX3_countWords_6 (w := aI (mI M 18 8)) rfl ?_
  refine e_iconst (u := 2) dX3_countWords_9 (by decide) ?_
  refine e_aload_n dX3_countWords_10 rfl ?_
  refine e_get ff_3_7 hS.l18 w199 dX3_countWords_11 (w := aI (mI M 18 7)) rfl ?_
  refine e_imul dX3_countWords_14 ?_
  refine e_iadd dX3_countWords_15 ?_
  refine e_maxI w756 (by decide) (Nat.le_of_ble_eq_true rfl) dX3_countWords_16 ?_
  refine e_putI ff_3_12 rfl hS.l18 w204 dX3_countWords_19 ?_
  exact e_vret rfl dX3_countWords_22 k1
