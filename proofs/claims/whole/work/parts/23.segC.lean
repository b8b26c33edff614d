set_option maxRecDepth 20000 in
theorem s_X2_refresh_0 {M M' : AM} {v : Option AV} (hS : St M)
    (k1 : E K_X2_refresh 2 [some (aR (some 7)), some (aI 0), none] [] M v M') :
    Ev K_X2_refresh [aR (some 7)] M v M' := by
  refine ⟨Nat.le_of_ble_eq_true rfl, ?_⟩
  show E K_X2_refresh 0 [some (aR (some 7)), none, none] [] M v M'
  refine e_iconst (u := 0) dX2_refresh_0 (by decide) ?_
  refine e_istore_n dX2_refresh_1 (Nat.le_of_ble_eq_true rfl) ?_
  show E K_X2_refresh 2 [some (aR (some 7)), some (aI 0), none] [] M v M'
  exact k1

set_option maxRecDepth 20000 in
theorem s_X2_refresh_2 {M M' : AM} {v : Option AV} {x1 : Int32} {M1 : AM} {o102 : Option Nat} {M2 : AM} (hS : St M)
    (k1 : ∀ (g1 : (mI M 4 2) ≤ x1), none = v ∧ M = M')
    (c2 : ∀ (g1 : ¬ ((mI M 4 2) ≤ x1)), Ev K_X5_find [aR (some 4), aJ ((x1 : Int32).toInt64)] M (some (aR o102)) M1)
    (k3 : ∀ (g1 : ¬ ((mI M 4 2) ≤ x1)) (q102 : o102 = none), E K_X2_refresh 2 [some (aR (some 7)), some (aI (x1 + 1)), some (aR o102)] [] M1 v M')
    (h4 : ∀ (g1 : ¬ ((mI M 4 2) ≤ x1)) (r102 : Nat) (q102 : o102 = some r102), Mt M1 r102)
    (k5 : ∀ (g1 : ¬ ((mI M 4 2) ≤ x1)) (r102 : Nat) (q102 : o102 = some r102) (g3 : (mI M1 r102 10) = (mI M1 4 2)), E K_X2_refresh 2 [some (aR (some 7)), some (aI (x1 + 1)), some (aR (some r102))] [] M1 v M')
    (c6 : ∀ (g1 : ¬ ((mI M 4 2) ≤ x1)) (r102 : Nat) (q102 : o102 = some r102) (g3 : ¬ (mI M1 r102 10) = (mI M1 4 2)), Ev K_X2_inspect [aR (some 7), aR (some r102)] M1 (none) M2)
    (k7 : ∀ (g1 : ¬ ((mI M 4 2) ≤ x1)) (r102 : Nat) (q102 : o102 = some r102) (g3 : ¬ (mI M1 r102 10) = (mI M1 4 2)), E K_X2_refresh 2 [some (aR (some 7)), some (aI (x1 + 1)), some (aR (some r102))] [] (wrI M2 r102 10 (mI M2 4 2)) v M') :
    E K_X2_refresh 2 [some (aR (some 7)), some (aI x1), none] [] M v M' := by
  refine e_iload_n dX2_refresh_2 rfl ?_
  refine e_aload_n dX2_refresh_3 rfl ?_
  refine e_get ff_2_0 hS.l7 w119 dX2_refresh_4 (w := aR (some 4)) hS.f7_0 ?_
  refine e_getN ff_5_2 hS.l4 w103 dX2_refresh_7 (w := aI (mI M 4 2)) rfl ?_
  refine e_icmp_ge (tgt := 63) dX2_refresh_10 rfl (fun g1 => ?_) (fun g1 => ?_)
  ·
    exact e_vret rfl dX2_refresh_63 (k1 g1)
  ·
    refine e_aload_n dX2_refresh_13 rfl ?_
    refine e_get ff_2_0 hS.l7 w119 dX2_refresh_14 (w := aR (some 4)) hS.f7_0 ?_
    refine e_iload_n dX2_refresh_17 rfl ?_
    refine e_i2l dX2_refresh_18 ?_
    refine e_callV (As := [aJ ((x1 : Int32).toInt64)]) (rest := []) vk_X5_find hS.l4 w510 ⟨by decide, by decide⟩ (Nat.le_of_ble_eq_true rfl) dX2_refresh_19 (c2 g1) ?_
    show E K_X2_refresh 22 [some (aR (some 7)), some (aI x1), none] [aR o102] M1 v M'
    have hS_1 : St M1 := St.sh (M := M) (c2 g1).2.1 hS
    refine e_astore_n dX2_refresh_22 (Nat.le_of_ble_eq_true rfl) ?_
    show E K_X2_refresh 23 [some (aR (some 7)), some (aI x1), some (aR o102)] [] M1 v M'
    refine e_aload_n dX2_refresh_23 rfl ?_
    refine e_ifnull (tgt := 57) dX2_refresh_24 rfl (fun z => ?_) (fun z => ?_)
    ·
      have q102 : o102 = none := z
      refine e_iinc dX2_refresh_57 rfl ?_
      show E K_X2_refresh 60 [some (aR (some 7)), some (aI (x1 + 1)), some (aR o102)] [] M1 v M'
      refine e_goto (tgt := 2) dX2_refresh_60 rfl ?_
      exact (k3 g1 q102)
    ·
      obtain ⟨r102, q102⟩ : ∃ r, o102 = some r := by cases o102 with | none => exact absurd rfl z | some r => exact ⟨r, rfl⟩
      have h_r102 : Mt M1 r102 := (h4 g1 r102 q102)
      rw [q102]
      refine e_aload_n dX2_refresh_27 rfl ?_
      refine e_getN ff_4_10 h_r102.l0 w390 dX2_refresh_28 (w := aI (mI M1 r102 10)) rfl ?_
      refine e_aload_n dX2_refresh_31 rfl ?_
      refine e_get ff_2_0 hS_1.l7 w119 dX2_refresh_32 (w := aR (some 4)) hS_1.f7_0 ?_
      refine e_getN ff_5_2 hS_1.l4 w103 dX2_refresh_35 (w := aI (mI M1 4 2)) rfl ?_
      refine e_icmp_eq (tgt := 57) dX2_refresh_38 rfl (fun g3 => ?_) (fun g3 => ?_)
      ·
        refine e_iinc dX2_refresh_57 rfl ?_
        show E K_X2_refresh 60 [some (aR (some 7)), some (aI (x1 + 1)), some (aR (some r102))] [] M1 v M'
        refine e_goto (tgt := 2) dX2_refresh_60 rfl ?_
        exact (k5 g1 r102 q102 g3)
      ·
        refine e_aload_n dX2_refresh_41 rfl ?_
        refine e_aload_n dX2_refresh_42 rfl ?_
        refine e_callV (As := [aR (some r102)]) (rest := []) vk_X2_inspect hS_1.l7 w511 ⟨by decide, by decide⟩ (Nat.le_of_ble_eq_true rfl) dX2_refresh_43 (c6 g1 r102 q102 g3) ?_
        show E K_X2_refresh 46 [some (aR (some 7)), some (aI x1), some (aR (some r102))] [] M2 v M'
        have hS_2 : St M2 := St.sh (M := M1) (c6 g1 r102 q102 g3).2.1 hS_1
        have h_r102_2 : Mt M2 r102 := Mt.sh (M := M1) (c6 g1 r102 q102 g3).2.1 h_r102
        refine e_aload_n dX2_refresh_46 rfl ?_
        refine e_aload_n dX2_refresh_47 rfl ?_
        refine e_get ff_2_0 hS_2.l7 w119 dX2_refresh_48 (w := aR (some 4)) hS_2.f7_0 ?_
        refine e_getN ff_5_2 hS_2.l4 w103 dX2_refresh_51 (w := aI (mI M2 4 2)) rfl ?_
        refine e_putNI ff_4_10 rfl h_r102_2.l0 w390 dX2_refresh_54 ?_
        refine e_iinc dX2_refresh_57 rfl ?_
        show E K_X2_refresh 60 [some (aR (some 7)), some (aI (x1 + 1)), some (aR (some r102))] [] (wrI M2 r102 10 (mI M2 4 2)) v M'
        refine e_goto (tgt := 2) dX2_refresh_60 rfl ?_
        exact (k7 g1 r102 q102 g3)

set_option maxRecDepth 20000 in
theorem s_X2_inspect_0 {M M' : AM} {v : Option AV} {m1 : Nat} {M1 : AM} {M2 : AM} {M3 : AM} {M4 : AM} {x101 : Int32} {M5 : AM} (hS : St M) (h_m1 : Mt M m1)
    (c1 : Ev K_X4_fail [aR (some m1), aI 0, aI (-1)] M (none) M1)
    (c2 : Ev K_X2_pairLoops [aR (some 7), aR (some m1)] M1 (none) M2)
    (c3 : Ev K_X2_findFaultOfForm [aR (some 7), aR (some m1)] M2 (none) M3)
    (c4 : Ev K_X4_isSound [aR (some m1)] M3 (some (aI x101)) M4)
    (k5 : ∀ (g2 : x101 = 0), none = v ∧ M4 = M')
    (c6 : ∀ (g2 : ¬ x101 = 0), Ev K_X2_findHeights [aR (some 7), aR (some m1)] M4 (none) M5)
    (k7 : ∀ (g2 : ¬ x101 = 0), none = v ∧ M5 = M') :
    Ev K_X2_inspect [aR (some 7), aR (some m1)] M v M' := by
  refine ⟨Nat.le_of_ble_eq_true rfl, ?_⟩
  show E K_X2_inspect 0 [some (aR (some 7)), some (aR (some m1))] [] M v M'
  refine e_aload_n dX2_inspect_0 rfl ?_
  refine e_iconst (u := 0) dX2_inspect_1 (by decide) ?_
  refine e_iconst (u := (-1)) dX2_inspect_2 (by decide) ?_
  refine e_callV (As := [aI 0, aI (-1)]) (rest := []) vk_X4_fail h_m1.l0 w515 ⟨by decide, by decide⟩ (Nat.le_of_ble_eq_true rfl) dX2_inspect_3 c1 ?_
  show E K_X2_inspect 6 [some (aR (some 7)), some (aR (some m1))] [] M1 v M'
  have hS_1 : St M1 := St.sh (M := M) c1.2.1 hS
  have h_m1_1 : Mt M1 m1 := Mt.sh (M := M) c1.2.1 h_m1
  refine e_aload_n dX2_inspect_6 rfl ?_
  refine e_aload_n dX2_inspect_7 rfl ?_
  refine e_callV (As := [aR (some m1)]) (rest := []) vk_X2_pairLoops hS_1.l7 w519 ⟨by decide, by decide⟩ (Nat.le_of_ble_eq_true rfl) dX2_inspect_8 c2 ?_
  show E K_X2_inspect 11 [some (aR (some 7)), some (aR (some m1))] [] M2 v M'
  have hS_2 : St M2 := St.sh (M := M1) c2.2.1 hS_1
  have h_m1_1_2 : Mt M2 m1 := Mt.sh (M := M1) c2.2.1 h_m1_1
  refine e_aload_n dX2_inspect_11 rfl ?_
  refine e_aload_n dX2_inspect_12 rfl ?_
  refine e_callV (As := [aR (some m1)]) (rest := []) vk_X2_findFaultOfForm hS_2.l7 w523 ⟨by decide, by decide⟩ (Nat.le_of_ble_eq_true rfl) dX2_inspect_13 c3 ?_
  show E K_X2_inspect 16 [some (aR (some 7)), some (aR (some m1))] [] M3 v M'
  have hS_3 : St M3 := St.sh (M := M2) c3.2.1 hS_2
  have h_m1_1_2_3 : Mt M3 m1 := Mt.sh (M := M2) c3.2.1 h_m1_1_2
  refine e_aload_n dX2_inspect_16 rfl ?_
  refine e_callV (As := []) (rest := []) vk_X4_isSound h_m1_1_2_3.l0 w539 ⟨by decide, by decide⟩ (Nat.le_of_ble_eq_true rfl) dX2_inspect_17 c4 ?_
  show E K_X2_inspect 20 [some (aR (some 7)), some (aR (some m1))] [aI x101] M4 v M'
  have hS_4 : St M4 := St.sh (M := M3) c4.2.1 hS_3
  have h_m1_1_2_3_4 : Mt M4 m1 := Mt.sh (M := M3) c4.2.1 h_m1_1_2_3
  refine e_if_eq (tgt := 28) dX2_inspect_20 rfl (fun g2 => ?_) (fun g2 => ?_)
  ·
    exact e_vret rfl dX2_inspect_28 (k5 g2)
  ·
    refine e_aload_n dX2_inspect_23 rfl ?_
    refine e_aload_n dX2_inspect_24 rfl ?_
    refine e_callV (As := [aR (some m1)]) (rest := []) vk_X2_findHeights hS_4.l7 w543 ⟨by decide, by decide⟩ (Nat.le_of_ble_eq_true rfl) dX2_inspect_25 (c6 g2) ?_
    show E K_X2_inspect 28 [some (aR (some 7)), some (aR (some m1))] [] M5 v M'
    have hS_5 : St M5 := St.sh (M := M4) (c6 g2).2.1 hS_4
    have h_m1_1_2_3_4_5 : Mt M5 m1 := Mt.sh (M := M4) (c6 g2).2.1 h_m1_1_2_3_4
    exact e_vret rfl dX2_inspect_28 (k7 g2)

set_option maxRecDepth 20000 in
theorem s_X2_pairLoops_0 {M M' : AM} {v : Option AV} {m1 : Nat} (hS : St M) (h_m1 : Mt M m1)
    (k1 : E K_X2_pairLoops 4 [some (aR (some 7)), some (aR (some m1)), some (aI 0), some (aI 0)] [] M v M') :
    Ev K_X2_pairLoops [aR (some 7), aR (some m1)] M v M' := by
  refine ⟨Nat.le_of_ble_eq_true rfl, ?_⟩
  show E K_X2_pairLoops 0 [some (aR (some 7)), some (aR (some m1)), none, none] [] M v M'
  refine e_iconst (u := 0) dX2_pairLoops_0 (by decide) ?_
  refine e_istore_n dX2_pairLoops_1 (Nat.le_of_ble_eq_true rfl) ?_
  show E K_X2_pairLoops 2 [some (aR (some 7)), some (aR (some m1)), some (aI 0), none] [] M v M'
  refine e_iconst (u := 0) dX2_pairLoops_2 (by decide) ?_
  refine e_istore_n dX2_pairLoops_3 (Nat.le_of_ble_eq_true rfl) ?_
  show E K_X2_pairLoops 4 [some (aR (some 7)), some (aR (some m1)), some (aI 0), some (aI 0)] [] M v M'
  exact k1

set_option maxRecDepth 20000 in
theorem s_X2_pairLoops_4 {M M' : AM} {v : Option AV} {m1 : Nat} {x2 : Int32} {x3 : Int32} (hS : St M) (h_m1 : Mt M m1)
    (k1 : ∀ (g1 : (mI M m1 7) ≤ x3), none = v ∧ M = M')
    (b2 : ∀ (g1 : ¬ ((mI M m1 7) ≤ x3)), vp_in x3 120)
    (k3 : ∀ (g1 : ¬ ((mI M m1 7) ≤ x3)) (g2 : x2 ≤ 0) (g3 : ¬ (mI (wrI (wrI (wrI M (m1 + 3) x3.toNatClampNeg (-1)) 9 x3.toNatClampNeg x2) 8 x3.toNatClampNeg (-1)) (m1 + 1) x3.toNatClampNeg) = 14) (g4 : ¬ (mI (wrI (wrI (wrI M (m1 + 3) x3.toNatClampNeg (-1)) 9 x3.toNatClampNeg x2) 8 x3.toNatClampNeg (-1)) (m1 + 1) x3.toNatClampNeg) = 15), E K_X2_pairLoops 4 [some (aR (some 7)), some (aR (some m1)), some (aI x2), some (aI (x3 + 1))] [] (wrI (wrI (wrI M (m1 + 3) x3.toNatClampNeg (-1)) 9 x3.toNatClampNeg x2) 8 x3.toNatClampNeg (-1)) v M')
    (k4 : ∀ (g1 : ¬ ((mI M m1 7) ≤ x3)) (g2 : x2 ≤ 0) (g3 : ¬ (mI (wrI (wrI (wrI M (m1 + 3) x3.toNatClampNeg (-1)) 9 x3.toNatClampNeg x2) 8 x3.toNatClampNeg (-1)) (m1 + 1) x3.toNatClampNeg) = 14) (g4 : (mI (wrI (wrI (wrI M (m1 + 3) x3.toNatClampNeg (-1)) 9 x3.toNatClampNeg x2) 8 x3.toNatClampNeg (-1)) (m1 + 1) x3.toNatClampNeg) = 15) (g5 : x2 ≤ 0), E K_X2_pairLoops 4 [some (aR (some 7)), some (aR (some m1)), some (aI x2), some (aI (x3 + 1))] [] (wrI (wrI (wrI M (m1 + 3) x3.toNatClampNeg (-1)) 9 x3.toNatClampNeg x2) 8 x3.toNatClampNeg (-1)) v M')
    (b5 : ∀ (g1 : ¬ ((mI M m1 7) ≤ x3)) (g2 : x2 ≤ 0) (g3 : ¬ (mI (wrI (wrI (wrI M (m1 + 3) x3.toNatClampNeg (-1)) 9 x3.toNatClampNeg x2) 8 x3.toNatClampNeg (-1)) (m1 + 1) x3.toNatClampNeg) = 14) (g4 : (mI (wrI (wrI (wrI M (m1 + 3) x3.toNatClampNeg (-1)) 9 x3.toNatClampNeg x2) 8 x3.toNatClampNeg (-1)) (m1 + 1) x3.toNatClampNeg) = 15) (g5 : ¬ (x2 ≤ 0)), vp_in (x2 + (-1)) 120)
    (b6 : ∀ (g1 : ¬ ((mI M m1 7) ≤ x3)) (g2 : x2 ≤ 0) (g3 : ¬ (mI (wrI (wrI (wrI M (m1 + 3) x3.toNatClampNeg (-1)) 9 x3.toNatClampNeg x2) 8 x3.toNatClampNeg (-1)) (m1 + 1) x3.toNatClampNeg) = 14) (g4 : (mI (wrI (wrI (wrI M (m1 + 3) x3.toNatClampNeg (-1)) 9 x3.toNatClampNeg x2) 8 x3.toNatClampNeg (-1)) (m1 + 1) x3.toNatClampNeg) = 15) (g5 : ¬ (x2 ≤ 0)), vp_in (mI (wrI (wrI (wrI (wrI M (m1 + 3) x3.toNatClampNeg (-1)) 9 x3.toNatClampNeg x2) 8 x3.toNatClampNeg (-1)) (m1 + 3) x3.toNatClampNeg (mI (wrI M (m1 + 3) x3.toNatClampNeg (-1)) 10 (x2 + (-1)).toNatClampNeg)) 10 (x2 + (-1)).toNatClampNeg) 120)
    (k7 : ∀ (g1 : ¬ ((mI M m1 7) ≤ x3)) (g2 : x2 ≤ 0) (g3 : ¬ (mI (wrI (wrI (wrI M (m1 + 3) x3.toNatClampNeg (-1)) 9 x3.toNatClampNeg x2) 8 x3.toNatClampNeg (-1)) (m1 + 1) x3.toNatClampNeg) = 14) (g4 : (mI (wrI (wrI (wrI M (m1 + 3) x3.toNatClampNeg (-1)) 9 x3.toNatClampNeg x2) 8 x3.toNatClampNeg (-1)) (m1 + 1) x3.toNatClampNeg) = 15) (g5 : ¬ (x2 ≤ 0)), E K_X2_pairLoops 4 [some (aR (some 7)), some (aR (some m1)), some (aI (x2 + (-1))), some (aI (x3 + 1))] [] (wrI (wrI (wrI (wrI (wrI M (m1 + 3) x3.toNatClampNeg (-1)) 9 x3.toNatClampNeg x2) 8 x3.toNatClampNeg (-1)) (m1 + 3) x3.toNatClampNeg (mI (wrI M (m1 + 3) x3.toNatClampNeg (-1)) 10 (x2 + (-1)).toNatClampNeg)) (m1 + 3) (mI (wrI (wrI (wrI (wrI M (m1 + 3) x3.toNatClampNeg (-1)) 9 x3.toNatClampNeg x2) 8 x3.toNatClampNeg (-1)) (m1 + 3) x3.toNatClampNeg (mI (wrI M (m1 + 3) x3.toNatClampNeg (-1)) 10 (x2 + (-1)).toNatClampNeg)) 10 (x2 + (-1)).toNatClampNeg).toNatClampNeg x3) v M')
    (b8 : ∀ (g1 : ¬ ((mI M m1 7) ≤ x3)) (g2 : x2 ≤ 0) (g3 : (mI (wrI (wrI (wrI M (m1 + 3) x3.toNatClampNeg (-1)) 9 x3.toNatClampNeg x2) 8 x3.toNatClampNeg (-1)) (m1 + 1) x3.toNatClampNeg) = 14), vp_in x2 120)
    (k9 : ∀ (g1 : ¬ ((mI M m1 7) ≤ x3)) (g2 : x2 ≤ 0) (g3 : (mI (wrI (wrI (wrI M (m1 + 3) x3.toNatClampNeg (-1)) 9 x3.toNatClampNeg x2) 8 x3.toNatClampNeg (-1)) (m1 + 1) x3.toNatClampNeg) = 14), E K_X2_pairLoops 4 [some (aR (some 7)), some (aR (some m1)), some (aI (x2 + 1)), some (aI (x3 + 1))] [] (wrI (wrI (wrI (wrI M (m1 + 3) x3.toNatClampNeg (-1)) 9 x3.toNatClampNeg x2) 8 x3.toNatClampNeg (-1)) 10 x2.toNatClampNeg x3) v M')
    (b10 : ∀ (g1 : ¬ ((mI M m1 7) ≤ x3)) (g2 : ¬ (x2 ≤ 0)), vp_in (x2 - 1) 120)
    (k11 : ∀ (g1 : ¬ ((mI M m1 7) ≤ x3)) (g2 : ¬ (x2 ≤ 0)) (g6 : ¬ (mI (wrI (wrI (wrI M (m1 + 3) x3.toNatClampNeg (-1)) 9 x3.toNatClampNeg x2) 8 x3.toNatClampNeg (mI (wrI M (m1 + 3) x3.toNatClampNeg (-1)) 10 (x2 - 1).toNatClampNeg)) (m1 + 1) x3.toNatClampNeg) = 14) (g7 : ¬ (mI (wrI (wrI (wrI M (m1 + 3) x3.toNatClampNeg (-1)) 9 x3.toNatClampNeg x2) 8 x3.toNatClampNeg (mI (wrI M (m1 + 3) x3.toNatClampNeg (-1)) 10 (x2 - 1).toNatClampNeg)) (m1 + 1) x3.toNatClampNeg) = 15), E K_X2_pairLoops 4 [some (aR (some 7)), some (aR (some m1)), some (aI x2), some (aI (x3 + 1))] [] (wrI (wrI (wrI M (m1 + 3) x3.toNatClampNeg (-1)) 9 x3.toNatClampNeg x2) 8 x3.toNatClampNeg (mI (wrI M (m1 + 3) x3.toNatClampNeg (-1)) 10 (x2 - 1).toNatClampNeg)) v M')
    (k12 : ∀ (g1 : ¬ ((mI M m1 7) ≤ x3)) (g2 : ¬ (x2 ≤ 0)) (g6 : ¬ (mI (wrI (wrI (wrI M (m1 + 3) x3.toNatClampNeg (-1)) 9 x3.toNatClampNeg x2) 8 x3.toNatClampNeg (mI (wrI M (m1 + 3) x3.toNatClampNeg (-1)) 10 (x2 - 1).toNatClampNeg)) (m1 + 1) x3.toNatClampNeg) = 14) (g7 : (mI (wrI (wrI (wrI M (m1 + 3) x3.toNatClampNeg (-1)) 9 x3.toNatClampNeg x2) 8 x3.toNatClampNeg (mI (wrI M (m1 + 3) x3.toNatClampNeg (-1)) 10 (x2 - 1).toNatClampNeg)) (m1 + 1) x3.toNatClampNeg) = 15) (g8 : x2 ≤ 0), E K_X2_pairLoops 4 [some (aR (some 7)), some (aR (some m1)), some (aI x2), some (aI (x3 + 1))] [] (wrI (wrI (wrI M (m1 + 3) x3.toNatClampNeg (-1)) 9 x3.toNatClampNeg x2) 8 x3.toNatClampNeg (mI (wrI M (m1 + 3) x3.toNatClampNeg (-1)) 10 (x2 - 1).toNatClampNeg)) v M')
    (b13 : ∀ (g1 : ¬ ((mI M m1 7) ≤ x3)) (g2 : ¬ (x2 ≤ 0)) (g6 : ¬ (mI (wrI (wrI (wrI M (m1 + 3) x3.toNatClampNeg (-1)) 9 x3.toNatClampNeg x2) 8 x3.toNatClampNeg (mI (wrI M (m1 + 3) x3.toNatClampNeg (-1)) 10 (x2 - 1).toNatClampNeg)) (m1 + 1) x3.toNatClampNeg) = 14) (g7 : (mI (wrI (wrI (wrI M (m1 + 3) x3.toNatClampNeg (-1)) 9 x3.toNatClampNeg x2) 8 x3.toNatClampNeg (mI (wrI M (m1 + 3) x3.toNatClampNeg (-1)) 10 (x2 - 1).toNatClampNeg)) (m1 + 1) x3.toNatClampNeg) = 15) (g8 : ¬ (x2 ≤ 0)), vp_in (x2 + (-1)) 120)
    (b14 : ∀ (g1 : ¬ ((mI M m1 7) ≤ x3)) (g2 : ¬ (x2 ≤ 0)) (g6 : ¬ (mI (wrI (wrI (wrI M (m1 + 3) x3.toNatClampNeg (-1)) 9 x3.toNatClampNeg x2) 8 x3.toNatClampNeg (mI (wrI M (m1 + 3) x3.toNatClampNeg (-1)) 10 (x2 - 1).toNatClampNeg)) (m1 + 1) x3.toNatClampNeg) = 14) (g7 : (mI (wrI (wrI (wrI M (m1 + 3) x3.toNatClampNeg (-1)) 9 x3.toNatClampNeg x2) 8 x3.toNatClampNeg (mI (wrI M (m1 + 3) x3.toNatClampNeg (-1)) 10 (x2 - 1).toNatClampNeg)) (m1 + 1) x3.toNatClampNeg) = 15) (g8 : ¬ (x2 ≤ 0)), vp_in (mI (wrI (wrI (wrI (wrI M (m1 + 3) x3.toNatClampNeg (-1)) 9 x3.toNatClampNeg x2) 8 x3.toNatClampNeg (mI (wrI M (m1 + 3) x3.toNatClampNeg (-1)) 10 (x2 - 1).toNatClampNeg)) (m1 + 3) x3.toNatClampNeg (mI (wrI M (m1 + 3) x3.toNatClampNeg (-1)) 10 (x2 + (-1)).toNatClampNeg)) 10 (x2 + (-1)).toNatClampNeg) 120)
    (k15 : ∀ (g1 : ¬ ((mI M m1 7) ≤ x3)) (g2 : ¬ (x2 ≤ 0)) (g6 : ¬ (mI (wrI (wrI (wrI M (m1 + 3) x3.toNatClampNeg (-1)) 9 x3.toNatClampNeg x2) 8 x3.toNatClampNeg (mI (wrI M (m1 + 3) x3.toNatClampNeg (-1)) 10 (x2 - 1).toNatClampNeg)) (m1 + 1) x3.toNatClampNeg) = 14) (g7 : (mI (wrI (wrI (wrI M (m1 + 3) x3.toNatClampNeg (-1)) 9 x3.toNatClampNeg x2) 8 x3.toNatClampNeg (mI (wrI M (m1 + 3) x3.toNatClampNeg (-1)) 10 (x2 - 1).toNatClampNeg)) (m1 + 1) x3.toNatClampNeg) = 15) (g8 : ¬ (x2 ≤ 0)), E K_X2_pairLoops 4 [some (aR (some 7)), some (aR (some m1)), some (aI (x2 + (-1))), some (aI (x3 + 1))] [] (wrI (wrI (wrI (wrI (wrI M (m1 + 3) x3.toNatClampNeg (-1)) 9 x3.toNatClampNeg x2) 8 x3.toNatClampNeg (mI (wrI M (m1 + 3) x3.toNatClampNeg (-1)) 10 (x2 - 1).toNatClampNeg)) (m1 + 3) x3.toNatClampNeg (mI (wrI M (m1 + 3) x3.toNatClampNeg (-1)) 10 (x2 + (-1)).toNatClampNeg)) (m1 + 3) (mI (wrI (wrI (wrI (wrI M (m1 + 3) x3.toNatClampNeg (-1)) 9 x3.toNatClampNeg x2) 8 x3.toNatClampNeg (mI (wrI M (m1 + 3) x3.toNatClampNeg (-1)) 10 (x2 - 1).toNatClampNeg)) (m1 + 3) x3.toNatClampNeg (mI (wrI M (m1 + 3) x3.toNatClampNeg (-1)) 10 (x2 + (-1)).toNatClampNeg)) 10 (x2 + (-1)).toNatClampNeg).toNatClampNeg x3) v M')
    (b16 : ∀ (g1 : ¬ ((mI M m1 7) ≤ x3)) (g2 : ¬ (x2 ≤ 0)) (g6 : (mI (wrI (wrI (wrI M (m1 + 3) x3.toNatClampNeg (-1)) 9 x3.toNatClampNeg x2) 8 x3.toNatClampNeg (mI (wrI M (m1 + 3) x3.toNatClampNeg (-1)) 10 (x2 - 1).toNatClampNeg)) (m1 + 1) x3.toNatClampNeg) = 14), vp_in x2 120)
    (k17 : ∀ (g1 : ¬ ((mI M m1 7) ≤ x3)) (g2 : ¬ (x2 ≤ 0)) (g6 : (mI (wrI (wrI (wrI M (m1 + 3) x3.toNatClampNeg (-1)) 9 x3.toNatClampNeg x2) 8 x3.toNatClampNeg (mI (wrI M (m1 + 3) x3.toNatClampNeg (-1)) 10 (x2 - 1).toNatClampNeg)) (m1 + 1) x3.toNatClampNeg) = 14), E K_X2_pairLoops 4 [some (aR (some 7)), some (aR (some m1)), some (aI (x2 + 1)), some (aI (x3 + 1))] [] (wrI (wrI (wrI (wrI M (m1 + 3) x3.toNatClampNeg (-1)) 9 x3.toNatClampNeg x2) 8 x3.toNatClampNeg (mI (wrI M (m1 + 3) x3.toNatClampNeg (-1)) 10 (x2 - 1).toNatClampNeg)) 10 x2.toNatClampNeg x3) v M') :
    E K_X2_pairLoops 4 [some (aR (some 7)), some (aR (some m1)), some (aI x2), some (aI x3)] [] M v M' := by
  refine e_iload_n dX2_pairLoops_4 rfl ?_
  refine e_aload_n dX2_pairLoops_5 rfl ?_
  refine e_getN ff_4_7 h_m1.l0 w383 dX2_pairLoops_6 (w := aI (mI M m1 7)) rfl ?_
  refine e_icmp_ge (tgt := 120) dX2_pairLoops_9 rfl (fun g1 => ?_) (fun g1 => ?_)
  ·
    exact e_vret rfl dX2_pairLoops_120 (k1 g1)
  ·
    refine e_aload_n dX2_pairLoops_12 rfl ?_
    refine e_getN ff_4_5 h_m1.l0 w375 dX2_pairLoops_13 (w := aR (some (m1 + 3))) h_m1.f5 ?_
    refine e_iload_n dX2_pairLoops_16 rfl ?_
    refine e_iconst (u := (-1)) dX2_pairLoops_17 (by decide) ?_
    refine e_iast h_m1.l3 (h_m1.b3 (b2 g1)) dX2_pairLoops_18 ?_
    refine e_aload_n dX2_pairLoops_19 rfl ?_
    refine e_get ff_2_2 hS.l7 w121 dX2_pairLoops_20 (w := aR (some 9)) hS.f7_2 ?_
    refine e_iload_n dX2_pairLoops_23 rfl ?_
    refine e_iload_n dX2_pairLoops_24 rfl ?_
    refine e_iast hS.l9 (hS.b9 (b2 g1)) dX2_pairLoops_25 ?_
    refine e_aload_n dX2_pairLoops_26 rfl ?_
    refine e_get ff_2_1 hS.l7 w120 dX2_pairLoops_27 (w := aR (some 8)) hS.f7_1 ?_
    refine e_iload_n dX2_pairLoops_30 rfl ?_
    refine e_iload_n dX2_pairLoops_31 rfl ?_
    refine e_if_le (tgt := 46) dX2_pairLoops_32 rfl (fun g2 => ?_) (fun g2 => ?_)
    ·
      refine e_iconst (u := (-1)) dX2_pairLoops_46 (by decide) ?_
      refine e_iast hS.l8 (hS.b8 (b2 g1)) dX2_pairLoops_47 ?_
      refine e_aload_n dX2_pairLoops_48 rfl ?_
      refine e_getN ff_4_3 h_m1.l0 w366 dX2_pairLoops_49 (w := aR (some (m1 + 1))) h_m1.f3 ?_
      refine e_iload_n dX2_pairLoops_52 rfl ?_
      refine e_iald h_m1.l1 (h_m1.b1 (b2 g1)) dX2_pairLoops_53 ?_
      show E K_X2_pairLoops 54 [some (aR (some 7)), some (aR (some m1)), some (aI x2), some (aI x3)] [aI (mI (wrI (wrI (wrI M (m1 + 3) x3.toNatClampNeg (-1)) 9 x3.toNatClampNeg x2) 8 x3.toNatClampNeg (-1)) (m1 + 1) x3.toNatClampNeg)] (wrI (wrI (wrI M (m1 + 3) x3.toNatClampNeg (-1)) 9 x3.toNatClampNeg x2) 8 x3.toNatClampNeg (-1)) v M'
      refine e_bipush (u := 14) dX2_pairLoops_54 (by decide) ?_
      refine e_icmp_ne (tgt := 72) dX2_pairLoops_56 rfl (fun g3 => ?_) (fun g3 => ?_)
      ·
        refine e_aload_n dX2_pairLoops_72 rfl ?_
        refine e_getN ff_4_3 h_m1.l0 w366 dX2_pairLoops_73 (w := aR (some (m1 + 1))) h_m1.f3 ?_
        refine e_iload_n dX2_pairLoops_76 rfl ?_
        refine e_iald h_m1.l1 (h_m1.b1 (b2 g1)) dX2_pairLoops_77 ?_
        show E K_X2_pairLoops 78 [some (aR (some 7)), some (aR (some m1)), some (aI x2), some (aI x3)] [aI (mI (wrI (wrI (wrI M (m1 + 3) x3.toNatClampNeg (-1)) 9 x3.toNatClampNeg x2) 8 x3.toNatClampNeg (-1)) (m1 + 1) x3.toNatClampNeg)] (wrI (wrI (wrI M (m1 + 3) x3.toNatClampNeg (-1)) 9 x3.toNatClampNeg x2) 8 x3.toNatClampNeg (-1)) v M'
        refine e_bipush (u := 15) dX2_pairLoops_78 (by decide) ?_
        refine e_icmp_ne (tgt := 114) dX2_pairLoops_80 rfl (fun g4 => ?_) (fun g4 => ?_)
        ·
          refine e_iinc dX2_pairLoops_114 rfl ?_
          show E K_X2_pairLoops 117 [some (aR (some 7)), some (aR (some m1)), some (aI x2), some (aI (x3 + 1))] [] (wrI (wrI (wrI M (m1 + 3) x3.toNatClampNeg (-1)) 9 x3.toNatClampNeg x2) 8 x3.toNatClampNeg (-1)) v M'
          refine e_goto (tgt := 4) dX2_pairLoops_117 rfl ?_
          exact (k3 g1 g2 g3 g4)
        ·
          refine e_iload_n dX2_pairLoops_83 rfl ?_
          refine e_if_le (tgt := 114) dX2_pairLoops_84 rfl (fun g5 => ?_) (fun g5 => ?_)
          ·
            refine e_iinc dX2_pairLoops_114 rfl ?_
            show E K_X2_pairLoops 117 [some (aR (some 7)), some (aR (some m1)), some (aI x2), some (aI (x3 + 1))] [] (wrI (wrI (wrI M (m1 + 3) x3.toNatClampNeg (-1)) 9 x3.toNatClampNeg x2) 8 x3.toNatClampNeg (-1)) v M'
            refine e_goto (tgt := 4) dX2_pairLoops_117 rfl ?_
            exact (k4 g1 g2 g3 g4 g5)
          ·
            refine e_iinc dX2_pairLoops_87 rfl ?_
            show E K_X2_pairLoops 90 [some (aR (some 7)), some (aR (some m1)), some (aI (x2 + (-1))), some (aI x3)] [] (wrI (wrI (wrI M (m1 + 3) x3.toNatClampNeg (-1)) 9 x3.toNatClampNeg x2) 8 x3.toNatClampNeg (-1)) v M'
            refine e_aload_n dX2_pairLoops_90 rfl ?_
            refine e_getN ff_4_5 h_m1.l0 w375 dX2_pairLoops_91 (w := aR (some (m1 + 3))) h_m1.f5 ?_
            refine e_iload_n dX2_pairLoops_94 rfl ?_
            refine e_aload_n dX2_pairLoops_95 rfl ?_
            refine e_get ff_2_3 hS.l7 w122 dX2_pairLoops_96 (w := aR (some 10)) hS.f7_3 ?_
            refine e_iload_n dX2_pairLoops_99 rfl ?_
            refine e_iald hS.l10 (hS.b10 (b5 g1 g2 g3 g4 g5)) dX2_pairLoops_100 ?_
            show E K_X2_pairLoops 101 [some (aR (some 7)), some (aR (some m1)), some (aI (x2 + (-1))), some (aI x3)] [aI (mI (wrI M (m1 + 3) x3.toNatClampNeg (-1)) 10 (x2 + (-1)).toNatClampNeg), aI x3, aR (some (m1 + 3))] (wrI (wrI (wrI M (m1 + 3) x3.toNatClampNeg (-1)) 9 x3.toNatClampNeg x2) 8 x3.toNatClampNeg (-1)) v M'
            refine e_iast h_m1.l3 (h_m1.b3 (b2 g1)) dX2_pairLoops_101 ?_
            refine e_aload_n dX2_pairLoops_102 rfl ?_
            refine e_getN ff_4_5 h_m1.l0 w375 dX2_pairLoops_103 (w := aR (some (m1 + 3))) h_m1.f5 ?_
            refine e_aload_n dX2_pairLoops_106 rfl ?_
            refine e_get ff_2_3 hS.l7 w122 dX2_pairLoops_107 (w := aR (some 10)) hS.f7_3 ?_
            refine e_iload_n dX2_pairLoops_110 rfl ?_
            refine e_iald hS.l10 (hS.b10 (b5 g1 g2 g3 g4 g5)) dX2_pairLoops_111 ?_
            show E K_X2_pairLoops 112 [some (aR (some 7)), some (aR (some m1)), some (aI (x2 + (-1))), some (aI x3)] [aI (mI (wrI (wrI (wrI (wrI M (m1 + 3) x3.toNatClampNeg (-1)) 9 x3.toNatClampNeg x2) 8 x3.toNatClampNeg (-1)) (m1 + 3) x3.toNatClampNeg (mI (wrI M (m1 + 3) x3.toNatClampNeg (-1)) 10 (x2 + (-1)).toNatClampNeg)) 10 (x2 + (-1)).toNatClampNeg), aR (some (m1 + 3))] (wrI (wrI (wrI (wrI M (m1 + 3) x3.toNatClampNeg (-1)) 9 x3.toNatClampNeg x2) 8 x3.toNatClampNeg (-1)) (m1 + 3) x3.toNatClampNeg (mI (wrI M (m1 + 3) x3.toNatClampNeg (-1)) 10 (x2 + (-1)).toNatClampNeg)) v M'
            refine e_iload_n dX2_pairLoops_112 rfl ?_
            refine e_iast h_m1.l3 (h_m1.b3 (b6 g1 g2 g3 g4 g5)) dX2_pairLoops_113 ?_
            refine e_iinc dX2_pairLoops_114 rfl ?_
            show E K_X2_pairLoops 117 [some (aR (some 7)), some (aR (some m1)), some (aI (x2 + (-1))), some (aI (x3 + 1))] [] (wrI (wrI (wrI (wrI (wrI M (m1 + 3) x3.toNatClampNeg (-1)) 9 x3.toNatClampNeg x2) 8 x3.toNatClampNeg (-1)) (m1 + 3) x3.toNatClampNeg (mI (wrI M (m1 + 3) x3.toNatClampNeg (-1)) 10 (x2 + (-1)).toNatClampNeg)) (m1 + 3) (mI (wrI (wrI (wrI (wrI M (m1 + 3) x3.toNatClampNeg (-1)) 9 x3.toNatClampNeg x2) 8 x3.toNatClampNeg (-1)) (m1 + 3) x3.toNatClampNeg (mI (wrI M (m1 + 3) x3.toNatClampNeg (-1)) 10 (x2 + (-1)).toNatClampNeg)) 10 (x2 + (-1)).toNatClampNeg).toNatClampNeg x3) v M'
            refine e_goto (tgt := 4) dX2_pairLoops_117 rfl ?_
            exact (k7 g1 g2 g3 g4 g5)
      ·
        refine e_aload_n dX2_pairLoops_59 rfl ?_
        refine e_get ff_2_3 hS.l7 w122 dX2_pairLoops_60 (w := aR (some 10)) hS.f7_3 ?_
        refine e_iload_n dX2_pairLoops_63 rfl ?_
        refine e_iload_n dX2_pairLoops_64 rfl ?_
        refine e_iast hS.l10 (hS.b10 (b8 g1 g2 g3)) dX2_pairLoops_65 ?_
        refine e_iinc dX2_pairLoops_66 rfl ?_
        show E K_X2_pairLoops 69 [some (aR (some 7)), some (aR (some m1)), some (aI (x2 + 1)), some (aI x3)] [] (wrI (wrI (wrI (wrI M (m1 + 3) x3.toNatClampNeg (-1)) 9 x3.toNatClampNeg x2) 8 x3.toNatClampNeg (-1)) 10 x2.toNatClampNeg x3) v M'
        refine e_goto (tgt := 114) dX2_pairLoops_69 rfl ?_
        refine e_iinc dX2_pairLoops_114 rfl ?_
        show E K_X2_pairLoops 117 [some (aR (some 7)), some (aR (some m1)), some (aI (x2 + 1)), some (aI (x3 + 1))] [] (wrI (wrI (wrI (wrI M (m1 + 3) x3.toNatClampNeg (-1)) 9 x3.toNatClampNeg x2) 8 x3.toNatClampNeg (-1)) 10 x2.toNatClampNeg x3) v M'
        refine e_goto (tgt := 4) dX2_pairLoops_117 rfl ?_
        exact (k9 g1 g2 g3)
    ·
      refine e_aload_n dX2_pairLoops_35 rfl ?_
      refine e_get ff_2_3 hS.l7 w122 dX2_pairLoops_36 (w := aR (some 10)) hS.f7_3 ?_
      refine e_iload_n dX2_pairLoops_39 rfl ?_
      refine e_iconst (u := 1) dX2_pairLoops_40 (by decide) ?_
      refine e_isub dX2_pairLoops_41 ?_
      refine e_iald hS.l10 (hS.b10 (b10 g1 g2)) dX2_pairLoops_42 ?_
      show E K_X2_pairLoops 43 [some (aR (some 7)), some (aR (some m1)), some (aI x2), some (aI x3)] [aI (mI (wrI M (m1 + 3) x3.toNatClampNeg (-1)) 10 (x2 - 1).toNatClampNeg), aI x3, aR (some 8)] (wrI (wrI M (m1 + 3) x3.toNatClampNeg (-1)) 9 x3.toNatClampNeg x2) v M'
      refine e_goto (tgt := 47) dX2_pairLoops_43 rfl ?_
      refine e_iast hS.l8 (hS.b8 (b2 g1)) dX2_pairLoops_47 ?_
      refine e_aload_n dX2_pairLoops_48 rfl ?_
      refine e_getN ff_4_3 h_m1.l0 w366 dX2_pairLoops_49 (w := aR (some (m1 + 1))) h_m1.f3 ?_
      refine e_iload_n dX2_pairLoops_52 rfl ?_
      refine e_iald h_m1.l1 (h_m1.b1 (b2 g1)) dX2_pairLoops_53 ?_
      show E K_X2_pairLoops 54 [some (aR (some 7)), some (aR (some m1)), some (aI x2), some (aI x3)] [aI (mI (wrI (wrI (wrI M (m1 + 3) x3.toNatClampNeg (-1)) 9 x3.toNatClampNeg x2) 8 x3.toNatClampNeg (mI (wrI M (m1 + 3) x3.toNatClampNeg (-1)) 10 (x2 - 1).toNatClampNeg)) (m1 + 1) x3.toNatClampNeg)] (wrI (wrI (wrI M (m1 + 3) x3.toNatClampNeg (-1)) 9 x3.toNatClampNeg x2) 8 x3.toNatClampNeg (mI (wrI M (m1 + 3) x3.toNatClampNeg (-1)) 10 (x2 - 1).toNatClampNeg)) v M'
      refine e_bipush (u := 14) dX2_pairLoops_54 (by decide) ?_
      refine e_icmp_ne (tgt := 72) dX2_pairLoops_56 rfl (fun g6 => ?_) (fun g6 => ?_)
      ·
        refine e_aload_n dX2_pairLoops_72 rfl ?_
        refine e_getN ff_4_3 h_m1.l0 w366 dX2_pairLoops_73 (w := aR (some (m1 + 1))) h_m1.f3 ?_
        refine e_iload_n dX2_pairLoops_76 rfl ?_
        refine e_iald h_m1.l1 (h_m1.b1 (b2 g1)) dX2_pairLoops_77 ?_
        show E K_X2_pairLoops 78 [some (aR (some 7)), some (aR (some m1)), some (aI x2), some (aI x3)] [aI (mI (wrI (wrI (wrI M (m1 + 3) x3.toNatClampNeg (-1)) 9 x3.toNatClampNeg x2) 8 x3.toNatClampNeg (mI (wrI M (m1 + 3) x3.toNatClampNeg (-1)) 10 (x2 - 1).toNatClampNeg)) (m1 + 1) x3.toNatClampNeg)] (wrI (wrI (wrI M (m1 + 3) x3.toNatClampNeg (-1)) 9 x3.toNatClampNeg x2) 8 x3.toNatClampNeg (mI (wrI M (m1 + 3) x3.toNatClampNeg (-1)) 10 (x2 - 1).toNatClampNeg)) v M'
        refine e_bipush (u := 15) dX2_pairLoops_78 (by decide) ?_
        refine e_icmp_ne (tgt := 114) dX2_pairLoops_80 rfl (fun g7 => ?_) (fun g7 => ?_)
        ·
          refine e_iinc dX2_pairLoops_114 rfl ?_
          show E K_X2_pairLoops 117 [some (aR (some 7)), some (aR (some m1)), some (aI x2), some (aI (x3 + 1))] [] (wrI (wrI (wrI M (m1 + 3) x3.toNatClampNeg (-1)) 9 x3.toNatClampNeg x2) 8 x3.toNatClampNeg (mI (wrI M (m1 + 3) x3.toNatClampNeg (-1)) 10 (x2 - 1).toNatClampNeg)) v M'
          refine e_goto (tgt := 4) dX2_pairLoops_117 rfl ?_
          exact (k11 g1 g2 g6 g7)
        ·
          refine e_iload_n dX2_pairLoops_83 rfl ?_
          refine e_if_le (tgt := 114) dX2_pairLoops_84 rfl (fun g8 => ?_) (fun g8 => ?_)
          ·
            refine e_iinc dX2_pairLoops_114 rfl ?_
            show E K_X2_pairLoops 117 [some (aR (some 7)), some (aR (some m1)), some (aI x2), some (aI (x3 + 1))] [] (wrI (wrI (wrI M (m1 + 3) x3.toNatClampNeg (-1)) 9 x3.toNatClampNeg x2) 8 x3.toNatClampNeg (mI (wrI M (m1 + 3) x3.toNatClampNeg (-1)) 10 (x2 - 1).toNatClampNeg)) v M'
            refine e_goto (tgt := 4) dX2_pairLoops_117 rfl ?_
            exact (k12 g1 g2 g6 g7 g8)
          ·
            refine e_iinc dX2_pairLoops_87 rfl ?_
            show E K_X2_pairLoops 90 [some (aR (some 7)), some (aR (some m1)), some (aI (x2 + (-1))), some (aI x3)] [] (wrI (wrI (wrI M (m1 + 3) x3.toNatClampNeg (-1)) 9 x3.toNatClampNeg x2) 8 x3.toNatClampNeg (mI (wrI M (m1 + 3) x3.toNatClampNeg (-1)) 10 (x2 - 1).toNatClampNeg)) v M'
            refine e_aload_n dX2_pairLoops_90 rfl ?_
            refine e_getN ff_4_5 h_m1.l0 w375 dX2_pairLoops_91 (w := aR (some (m1 + 3))) h_m1.f5 ?_
            refine e_iload_n dX2_pairLoops_94 rfl ?_
            refine e_aload_n dX2_pairLoops_95 rfl ?_
            refine e_get ff_2_3 hS.l7 w122 dX2_pairLoops_96 (w := aR (some 10)) hS.f7_3 ?_
            refine e_iload_n dX2_pairLoops_99 rfl ?_
            refine e_iald hS.l10 (hS.b10 (b13 g1 g2 g6 g7 g8)) dX2_pairLoops_100 ?_
            show E K_X2_pairLoops 101 [some (aR (some 7)), some (aR (some m1)), some (aI (x2 + (-1))), some (aI x3)] [aI (mI (wrI M (m1 + 3) x3.toNatClampNeg (-1)) 10 (x2 + (-1)).toNatClampNeg), aI x3, aR (some (m1 + 3))] (wrI (wrI (wrI M (m1 + 3) x3.toNatClampNeg (-1)) 9 x3.toNatClampNeg x2) 8 x3.toNatClampNeg (mI (wrI M (m1 + 3) x3.toNatClampNeg (-1)) 10 (x2 - 1).toNatClampNeg)) v M'
            refine e_iast h_m1.l3 (h_m1.b3 (b2 g1)) dX2_pairLoops_101 ?_
            refine e_aload_n dX2_pairLoops_102 rfl ?_
            refine e_getN ff_4_5 h_m1.l0 w375 dX2_pairLoops_103 (w := aR (some (m1 + 3))) h_m1.f5 ?_
            refine e_aload_n dX2_pairLoops_106 rfl ?_
            refine e_get ff_2_3 hS.l7 w122 dX2_pairLoops_107 (w := aR (some 10)) hS.f7_3 ?_
            refine e_iload_n dX2_pairLoops_110 rfl ?_
            refine e_iald hS.l10 (hS.b10 (b13 g1 g2 g6 g7 g8)) dX2_pairLoops_111 ?_
            show E K_X2_pairLoops 112 [some (aR (some 7)), some (aR (some m1)), some (aI (x2 + (-1))), some (aI x3)] [aI (mI (wrI (wrI (wrI (wrI M (m1 + 3) x3.toNatClampNeg (-1)) 9 x3.toNatClampNeg x2) 8 x3.toNatClampNeg (mI (wrI M (m1 + 3) x3.toNatClampNeg (-1)) 10 (x2 - 1).toNatClampNeg)) (m1 + 3) x3.toNatClampNeg (mI (wrI M (m1 + 3) x3.toNatClampNeg (-1)) 10 (x2 + (-1)).toNatClampNeg)) 10 (x2 + (-1)).toNatClampNeg), aR (some (m1 + 3))] (wrI (wrI (wrI (wrI M (m1 + 3) x3.toNatClampNeg (-1)) 9 x3.toNatClampNeg x2) 8 x3.toNatClampNeg (mI (wrI M (m1 + 3) x3.toNatClampNeg (-1)) 10 (x2 - 1).toNatClampNeg)) (m1 + 3) x3.toNatClampNeg (mI (wrI M (m1 + 3) x3.toNatClampNeg (-1)) 10 (x2 + (-1)).toNatClampNeg)) v M'
            refine e_iload_n dX2_pairLoops_112 rfl ?_
            refine e_iast h_m1.l3 (h_m1.b3 (b14 g1 g2 g6 g7 g8)) dX2_pairLoops_113 ?_
            refine e_iinc dX2_pairLoops_114 rfl ?_
            show E K_X2_pairLoops 117 [some (aR (some 7)), some (aR (some m1)), some (aI (x2 + (-1))), some (aI (x3 + 1))] [] (wrI (wrI (wrI (wrI (wrI M (m1 + 3) x3.toNatClampNeg (-1)) 9 x3.toNatClampNeg x2) 8 x3.toNatClampNeg (mI (wrI M (m1 + 3) x3.toNatClampNeg (-1)) 10 (x2 - 1).toNatClampNeg)) (m1 + 3) x3.toNatClampNeg (mI (wrI M (m1 + 3) x3.toNatClampNeg (-1)) 10 (x2 + (-1)).toNatClampNeg)) (m1 + 3) (mI (wrI (wrI (wrI (wrI M (m1 + 3) x3.toNatClampNeg (-1)) 9 x3.toNatClampNeg x2) 8 x3.toNatClampNeg (mI (wrI M (m1 + 3) x3.toNatClampNeg (-1)) 10 (x2 - 1).toNatClampNeg)) (m1 + 3) x3.toNatClampNeg (mI (wrI M (m1 + 3) x3.toNatClampNeg (-1)) 10 (x2 + (-1)).toNatClampNeg)) 10 (x2 + (-1)).toNatClampNeg).toNatClampNeg x3) v M'
            refine e_goto (tgt := 4) dX2_pairLoops_117 rfl ?_
            exact (k15 g1 g2 g6 g7 g8)
      ·
        refine e_aload_n dX2_pairLoops_59 rfl ?_
        refine e_get ff_2_3 hS.l7 w122 dX2_pairLoops_60 (w := aR (some 10)) hS.f7_3 ?_
        refine e_iload_n dX2_pairLoops_63 rfl ?_
        refine e_iload_n dX2_pairLoops_64 rfl ?_
        refine e_iast hS.l10 (hS.b10 (b16 g1 g2 g6)) dX2_pairLoops_65 ?_
        refine e_iinc dX2_pairLoops_66 rfl ?_
        show E K_X2_pairLoops 69 [some (aR (some 7)), some (aR (some m1)), some (aI (x2 + 1)), some (aI x3)] [] (wrI (wrI (wrI (wrI M (m1 + 3) x3.toNatClampNeg (-1)) 9 x3.toNatClampNeg x2) 8 x3.toNatClampNeg (mI (wrI M (m1 + 3) x3.toNatClampNeg (-1)) 10 (x2 - 1).toNatClampNeg)) 10 x2.toNatClampNeg x3) v M'
        refine e_goto (tgt := 114) dX2_pairLoops_69 rfl ?_
        refine e_iinc dX2_pairLoops_114 rfl ?_
        show E K_X2_pairLoops 117 [some (aR (some 7)), some (aR (some m1)), some (aI (x2 + 1)), some (aI (x3 + 1))] [] (wrI (wrI (wrI (wrI M (m1 + 3) x3.toNatClampNeg (-1)) 9 x3.toNatClampNeg x2) 8 x3.toNatClampNeg (mI (wrI M (m1 + 3) x3.toNatClampNeg (-1)) 10 (x2 - 1).toNatClampNeg)) 10 x2.toNatClampNeg x3) v M'
        refine e_goto (tgt := 4) dX2_pairLoops_117 rfl ?_
        exact (k17 g1 g2 g6)

set_option maxRecDepth 20000 in
theorem s_X2_findFaultOfForm_0 {M M' : AM} {v : Option AV} {m1 : Nat} (hS : St M) (h_m1 : Mt M m1)
    (k1 : E K_X2_findFaultOfForm 2 [some (aR (some 7)), some (aR (some m1)), some (aI 0), none] [] M v M') :
    Ev K_X2_findFaultOfForm [aR (some 7), aR (some m1)] M v M' := by
  refine ⟨Nat.le_of_ble_eq_true rfl, ?_⟩
  show E K_X2_findFaultOfForm 0 [some (aR (some 7)), some (aR (some m1)), none, none] [] M v M'
  refine e_iconst (u := 0) dX2_findFaultOfForm_0 (by decide) ?_
  refine e_istore_n dX2_findFaultOfForm_1 (Nat.le_of_ble_eq_true rfl) ?_
  show E K_X2_findFaultOfForm 2 [some (aR (some 7)), some (aR (some m1)), some (aI 0), none] [] M v M'
  exact k1

set_option maxRecDepth 20000 in
theorem s_X2_findFaultOfForm_2 {M M' : AM} {v : Option AV} {m1 : Nat} {x2 : Int32} {M1 : AM} {x102 : Int32} {M2 : AM} (hS : St M) (h_m1 : Mt M m1)
    (k1 : ∀ (g1 : (mI M m1 7) ≤ x2), none = v ∧ M = M')
    (c2 : ∀ (g1 : ¬ ((mI M m1 7) ≤ x2)), Ev K_X2_faultOfForm [aR (some 7), aR (some m1), aI x2] M (some (aI x102)) M1)
    (k3 : ∀ (g1 : ¬ ((mI M m1 7) ≤ x2)) (g3 : x102 = 0), E K_X2_findFaultOfForm 2 [some (aR (some 7)), some (aR (some m1)), some (aI (x2 + 1)), some (aI x102)] [] M1 v M')
    (c4 : ∀ (g1 : ¬ ((mI M m1 7) ≤ x2)) (g3 : ¬ x102 = 0), Ev K_X4_fail [aR (some m1), aI x102, aI x2] M1 (none) M2)
    (k5 : ∀ (g1 : ¬ ((mI M m1 7) ≤ x2)) (g3 : ¬ x102 = 0), none = v ∧ M2 = M') :
    E K_X2_findFaultOfForm 2 [some (aR (some 7)), some (aR (some m1)), some (aI x2), none] [] M v M' := by
  refine e_iload_n dX2_findFaultOfForm_2 rfl ?_
  refine e_aload_n dX2_findFaultOfForm_3 rfl ?_
  refine e_getN ff_4_7 h_m1.l0 w383 dX2_findFaultOfForm_4 (w := aI (mI M m1 7)) rfl ?_
  refine e_icmp_ge (tgt := 34) dX2_findFaultOfForm_7 rfl (fun g1 => ?_) (fun g1 => ?_)
  ·
    exact e_vret rfl dX2_findFaultOfForm_34 (k1 g1)
  ·
    refine e_aload_n dX2_findFaultOfForm_10 rfl ?_
    refine e_aload_n dX2_findFaultOfForm_11 rfl ?_
    refine e_iload_n dX2_findFaultOfForm_12 rfl ?_
    refine e_callV (As := [aR (some m1), aI x2]) (rest := []) vk_X2_faultOfForm hS.l7 w527 ⟨by decide, by decide⟩ (Nat.le_of_ble_eq_true rfl) dX2_findFaultOfForm_13 (c2 g1) ?_
    show E K_X2_findFaultOfForm 16 [some (aR (some 7)), some (aR (some m1)), some (aI x2), none] [aI x102] M1 v M'
    have hS_1 : St M1 := St.sh (M := M) (c2 g1).2.1 hS
    have h_m1_1 : Mt M1 m1 := Mt.sh (M := M) (c2 g1).2.1 h_m1
    refine e_istore_n dX2_findFaultOfForm_16 (Nat.le_of_ble_eq_true rfl) ?_
    show E K_X2_findFaultOfForm 17 [some (aR (some 7)), some (aR (some m1)), some (aI x2), some (aI x102)] [] M1 v M'
    refine e_iload_n dX2_findFaultOfForm_17 rfl ?_
    refine e_if_eq (tgt := 28) dX2_findFaultOfForm_18 rfl (fun g3 => ?_) (fun g3 => ?_)
    ·
      refine e_iinc dX2_findFaultOfForm_28 rfl ?_
      show E K_X2_findFaultOfForm 31 [some (aR (some 7)), some (aR (some m1)), some (aI (x2 + 1)), some (aI x102)] [] M1 v M'
      refine e_goto (tgt := 2) dX2_findFaultOfForm_31 rfl ?_
      exact (k3 g1 g3)
    ·
      refine e_aload_n dX2_findFaultOfForm_21 rfl ?_
      refine e_iload_n dX2_findFaultOfForm_22 rfl ?_
      refine e_iload_n dX2_findFaultOfForm_23 rfl ?_
      refine e_callV (As := [aI x102, aI x2]) (rest := []) vk_X4_fail h_m1_1.l0 w515 ⟨by decide, by decide⟩ (Nat.le_of_ble_eq_true rfl) dX2_findFaultOfForm_24 (c4 g1 g3) ?_
      show E K_X2_findFaultOfForm 27 [some (aR (some 7)), some (aR (some m1)), some (aI x2), some (aI x102)] [] M2 v M'
      have hS_2 : St M2 := St.sh (M := M1) (c4 g1 g3).2.1 hS_1
      have h_m1_1_2 : Mt M2 m1 := Mt.sh (M := M1) (c4 g1 g3).2.1 h_m1_1
      exact e_vret rfl dX2_findFaultOfForm_27 (k5 g1 g3)

set_option maxRecDepth 20000 in
theorem s_X2_faultOfForm_0 {M M' : AM} {v : Option AV} {m1 : Nat} {x2 : Int32} {M1 : AM} {x101 : Int32} {M2 : AM} {o111 : Option Nat} (hS : St M) (h_m1 : Mt M m1)
    (b1 : vp_in x2 120)
    (c2 : Ev K_X2_hasForm [aR (some 7), aR (some m1), aI x2, aJ (mJ M (m1 + 2) x2.toNatClampNeg)] M (some (aI x101)) M1)
    (b3 : ∀ (g2 : ¬ x101 = 0) (g3 : (mI M1 (m1 + 1) x2.toNatClampNeg) = 12 ∨ (mI M1 (m1 + 1) x2.toNatClampNeg) = 13), vp_in ((mJ M (m1 + 2) x2.toNatClampNeg : Int64).toInt32) 120)
    (k4 : ∀ (g2 : ¬ x101 = 0) (g3 : (mI M1 (m1 + 1) x2.toNatClampNeg) = 12 ∨ (mI M1 (m1 + 1) x2.toNatClampNeg) = 13) (g4 : (mI M1 8 ((mJ M (m1 + 2) x2.toNatClampNeg : Int64).toInt32).toNatClampNeg) = (mI M1 8 x2.toNatClampNeg)), some (aI 0) = v ∧ M1 = M')
    (k5 : ∀ (g2 : ¬ x101 = 0) (g3 : (mI M1 (m1 + 1) x2.toNatClampNeg) = 12 ∨ (mI M1 (m1 + 1) x2.toNatClampNeg) = 13) (g4 : ¬ (mI M1 8 ((mJ M (m1 + 2) x2.toNatClampNeg : Int64).toInt32).toNatClampNeg) = (mI M1 8 x2.toNatClampNeg)), some (aI 3) = v ∧ M1 = M')
    (k6 : ∀ (g2 : ¬ x101 = 0) (g3 : ¬ ((mI M1 (m1 + 1) x2.toNatClampNeg) = 12 ∨ (mI M1 (m1 + 1) x2.toNatClampNeg) = 13)) (g5 : (mI M1 (m1 + 1) x2.toNatClampNeg) = 14) (g6 : (mI M1 (m1 + 3) x2.toNatClampNeg) = (-1)), some (aI 2) = v ∧ M1 = M')
    (k7 : ∀ (g2 : ¬ x101 = 0) (g3 : ¬ ((mI M1 (m1 + 1) x2.toNatClampNeg) = 12 ∨ (mI M1 (m1 + 1) x2.toNatClampNeg) = 13)) (g5 : (mI M1 (m1 + 1) x2.toNatClampNeg) = 14) (g6 : ¬ (mI M1 (m1 + 3) x2.toNatClampNeg) = (-1)) (g7 : (mI M1 9 x2.toNatClampNeg) < 8), some (aI 0) = v ∧ M1 = M')
    (k8 : ∀ (g2 : ¬ x101 = 0) (g3 : ¬ ((mI M1 (m1 + 1) x2.toNatClampNeg) = 12 ∨ (mI M1 (m1 + 1) x2.toNatClampNeg) = 13)) (g5 : (mI M1 (m1 + 1) x2.toNatClampNeg) = 14) (g6 : ¬ (mI M1 (m1 + 3) x2.toNatClampNeg) = (-1)) (g7 : ¬ ((mI M1 9 x2.toNatClampNeg) < 8)), some (aI 2) = v ∧ M1 = M')
    (k9 : ∀ (g2 : ¬ x101 = 0) (g3 : ¬ ((mI M1 (m1 + 1) x2.toNatClampNeg) = 12 ∨ (mI M1 (m1 + 1) x2.toNatClampNeg) = 13)) (g5 : ¬ ((mI M1 (m1 + 1) x2.toNatClampNeg) = 14)) (g8 : (mI M1 (m1 + 1) x2.toNatClampNeg) = 15) (g9 : ¬ (mI M1 (m1 + 3) x2.toNatClampNeg) = (-1)), some (aI 0) = v ∧ M1 = M')
    (k10 : ∀ (g2 : ¬ x101 = 0) (g3 : ¬ ((mI M1 (m1 + 1) x2.toNatClampNeg) = 12 ∨ (mI M1 (m1 + 1) x2.toNatClampNeg) = 13)) (g5 : ¬ ((mI M1 (m1 + 1) x2.toNatClampNeg) = 14)) (g8 : (mI M1 (m1 + 1) x2.toNatClampNeg) = 15) (g9 : (mI M1 (m1 + 3) x2.toNatClampNeg) = (-1)), some (aI 2) = v ∧ M1 = M')
    (c11 : ∀ (g2 : ¬ x101 = 0) (g3 : ¬ ((mI M1 (m1 + 1) x2.toNatClampNeg) = 12 ∨ (mI M1 (m1 + 1) x2.toNatClampNeg) = 13)) (g5 : ¬ ((mI M1 (m1 + 1) x2.toNatClampNeg) = 14)) (g8 : ¬ ((mI M1 (m1 + 1) x2.toNatClampNeg) = 15)) (g10 : (mI M1 (m1 + 1) x2.toNatClampNeg) = 16), Ev K_X5_find [aR (some 4), aJ (mJ M (m1 + 2) x2.toNatClampNeg)] M1 (some (aR o111)) M2)
    (h12 : ∀ (g2 : ¬ x101 = 0) (g3 : ¬ ((mI M1 (m1 + 1) x2.toNatClampNeg) = 12 ∨ (mI M1 (m1 + 1) x2.toNatClampNeg) = 13)) (g5 : ¬ ((mI M1 (m1 + 1) x2.toNatClampNeg) = 14)) (g8 : ¬ ((mI M1 (m1 + 1) x2.toNatClampNeg) = 15)) (g10 : (mI M1 (m1 + 1) x2.toNatClampNeg) = 16) (r111 : Nat) (q111 : o111 = some r111), Mt M2 r111)
    (k13 : ∀ (g2 : ¬ x101 = 0) (g3 : ¬ ((mI M1 (m1 + 1) x2.toNatClampNeg) = 12 ∨ (mI M1 (m1 + 1) x2.toNatClampNeg) = 13)) (g5 : ¬ ((mI M1 (m1 + 1) x2.toNatClampNeg) = 14)) (g8 : ¬ ((mI M1 (m1 + 1) x2.toNatClampNeg) = 15)) (g10 : (mI M1 (m1 + 1) x2.toNatClampNeg) = 16) (r111 : Nat) (q111 : o111 = some r111), some (aI 0) = v ∧ M2 = M')
    (k14 : ∀ (g2 : ¬ x101 = 0) (g3 : ¬ ((mI M1 (m1 + 1) x2.toNatClampNeg) = 12 ∨ (mI M1 (m1 + 1) x2.toNatClampNeg) = 13)) (g5 : ¬ ((mI M1 (m1 + 1) x2.toNatClampNeg) = 14)) (g8 : ¬ ((mI M1 (m1 + 1) x2.toNatClampNeg) = 15)) (g10 : (mI M1 (m1 + 1) x2.toNatClampNeg) = 16) (q111 : o111 = none), some (aI 4) = v ∧ M2 = M')
    (k15 : ∀ (g2 : ¬ x101 = 0) (g3 : ¬ ((mI M1 (m1 + 1) x2.toNatClampNeg) = 12 ∨ (mI M1 (m1 + 1) x2.toNatClampNeg) = 13)) (g5 : ¬ ((mI M1 (m1 + 1) x2.toNatClampNeg) = 14)) (g8 : ¬ ((mI M1 (m1 + 1) x2.toNatClampNeg) = 15)) (g10 : ¬ ((mI M1 (m1 + 1) x2.toNatClampNeg) = 16)), some (aI 0) = v ∧ M1 = M')
    (k16 : ∀ (g2 : x101 = 0), some (aI 1) = v ∧ M1 = M') :
    Ev K_X2_faultOfForm [aR (some 7), aR (some m1), aI x2] M v M' := by
  refine ⟨Nat.le_of_ble_eq_true rfl, ?_⟩
  show E K_X2_faultOfForm 0 [some (aR (some 7)), some (aR (some m1)), some (aI x2), none, none] [] M v M'
  refine e_aload_n dX2_faultOfForm_0 rfl ?_
  refine e_getN ff_4_4 h_m1.l0 w372 dX2_faultOfForm_1 (w := aR (some (m1 + 2))) h_m1.f4 ?_
  refine e_iload_n dX2_faultOfForm_4 rfl ?_
  refine e_lald h_m1.l2 (h_m1.b2 b1) dX2_faultOfForm_5 ?_
  refine e_lstore_n dX2_faultOfForm_6 (Nat.le_of_ble_eq_true rfl) ?_
  show E K_X2_faultOfForm 7 [some (aR (some 7)), some (aR (some m1)), some (aI x2), some (aJ (mJ M (m1 + 2) x2.toNatClampNeg)), none] [] M v M'
  refine e_aload_n dX2_faultOfForm_7 rfl ?_
  refine e_aload_n dX2_faultOfForm_8 rfl ?_
  refine e_iload_n dX2_faultOfForm_9 rfl ?_
  refine e_lload_n dX2_faultOfForm_10 rfl ?_
  refine e_callV (As := [aR (some m1), aI x2, aJ (mJ M (m1 + 2) x2.toNatClampNeg)]) (rest := []) vk_X2_hasForm hS.l7 w531 ⟨by decide, by decide⟩ (Nat.le_of_ble_eq_true rfl) dX2_faultOfForm_11 c2 ?_
  show E K_X2_faultOfForm 14 [some (aR (some 7)), some (aR (some m1)), some (aI x2), some (aJ (mJ M (m1 + 2) x2.toNatClampNeg)), none] [aI x101] M1 v M'
  have hS_1 : St M1 := St.sh (M := M) c2.2.1 hS
  have h_m1_1 : Mt M1 m1 := Mt.sh (M := M) c2.2.1 h_m1
  refine e_if_ne (tgt := 19) dX2_faultOfForm_14 rfl (fun g2 => ?_) (fun g2 => ?_)
  ·
    refine e_aload_n dX2_faultOfForm_19 rfl ?_
    refine e_getN ff_4_3 h_m1_1.l0 w366 dX2_faultOfForm_20 (w := aR (some (m1 + 1))) h_m1_1.f3 ?_
    refine e_iload_n dX2_faultOfForm_23 rfl ?_
    refine e_iald h_m1_1.l1 (h_m1_1.b1 b1) dX2_faultOfForm_24 ?_
    refine e_tsw (d := 142) (tg := [103, 103, 60, 87, 125]) dX2_faultOfForm_25 rfl rfl rfl ?_
    by_cases g3 : (mI M1 (m1 + 1) x2.toNatClampNeg) = 12 ∨ (mI M1 (m1 + 1) x2.toNatClampNeg) = 13
    · have e9 : tsw 12 [103, 103, 60, 87, 125] 142 (mI M1 (m1 + 1) x2.toNatClampNeg) = 103 := by (rcases g3 with h9 | h9); all_goals (rw [h9]; rfl)
      rw [e9]
      refine e_aload_n dX2_faultOfForm_103 rfl ?_
      refine e_get ff_2_1 hS_1.l7 w120 dX2_faultOfForm_104 (w := aR (some 8)) hS_1.f7_1 ?_
      refine e_lload_n dX2_faultOfForm_107 rfl ?_
      refine e_l2i dX2_faultOfForm_108 ?_
      refine e_iald hS_1.l8 (hS_1.b8 (b3 g2 g3)) dX2_faultOfForm_109 ?_
      refine e_aload_n dX2_faultOfForm_110 rfl ?_
      refine e_get ff_2_1 hS_1.l7 w120 dX2_faultOfForm_111 (w := aR (some 8)) hS_1.f7_1 ?_
      refine e_iload_n dX2_faultOfForm_114 rfl ?_
      refine e_iald hS_1.l8 (hS_1.b8 b1) dX2_faultOfForm_115 ?_
      refine e_icmp_eq (tgt := 123) dX2_faultOfForm_116 rfl (fun g4 => ?_) (fun g4 => ?_)
      ·
        refine e_iconst (u := 0) dX2_faultOfForm_123 (by decide) ?_
        exact e_iret rfl dX2_faultOfForm_124 (k4 g2 g3 g4)
      ·
        refine e_iconst (u := 3) dX2_faultOfForm_119 (by decide) ?_
        refine e_goto (tgt := 124) dX2_faultOfForm_120 rfl ?_
        exact e_iret rfl dX2_faultOfForm_124 (k5 g2 g3 g4)
    by_cases g5 : (mI M1 (m1 + 1) x2.toNatClampNeg) = 14
    · have e9 : tsw 12 [103, 103, 60, 87, 125] 142 (mI M1 (m1 + 1) x2.toNatClampNeg) = 60 := by rw [g5]; rfl
      rw [e9]
      refine e_aload_n dX2_faultOfForm_60 rfl ?_
      refine e_getN ff_4_5 h_m1_1.l0 w375 dX2_faultOfForm_61 (w := aR (some (m1 + 3))) h_m1_1.f5 ?_
      refine e_iload_n dX2_faultOfForm_64 rfl ?_
      refine e_iald h_m1_1.l3 (h_m1_1.b3 b1) dX2_faultOfForm_65 ?_
      refine e_iconst (u := (-1)) dX2_faultOfForm_66 (by decide) ?_
      refine e_icmp_eq (tgt := 81) dX2_faultOfForm_67 rfl (fun g6 => ?_) (fun g6 => ?_)
      ·
        refine e_iconst (u := 2) dX2_faultOfForm_81 (by decide) ?_
        refine e_goto (tgt := 86) dX2_faultOfForm_82 rfl ?_
        exact e_iret rfl dX2_faultOfForm_86 (k6 g2 g3 g5 g6)
      ·
        refine e_aload_n dX2_faultOfForm_70 rfl ?_
        refine e_get ff_2_2 hS_1.l7 w121 dX2_faultOfForm_71 (w := aR (some 9)) hS_1.f7_2 ?_
        refine e_iload_n dX2_faultOfForm_74 rfl ?_
        refine e_iald hS_1.l9 (hS_1.b9 b1) dX2_faultOfForm_75 ?_
        refine e_bipush (u := 8) dX2_faultOfForm_76 (by decide) ?_
        refine e_icmp_lt (tgt := 85) dX2_faultOfForm_78 rfl (fun g7 => ?_) (fun g7 => ?_)
        ·
          refine e_iconst (u := 0) dX2_faultOfForm_85 (by decide) ?_
          exact e_iret rfl dX2_faultOfForm_86 (k7 g2 g3 g5 g6 g7)
        ·
          refine e_iconst (u := 2) dX2_faultOfForm_81 (by decide) ?_
          refine e_goto (tgt := 86) dX2_faultOfForm_82 rfl ?_
          exact e_iret rfl dX2_faultOfForm_86 (k8 g2 g3 g5 g6 g7)
    by_cases g8 : (mI M1 (m1 + 1) x2.toNatClampNeg) = 15
    · have e9 : tsw 12 [103, 103, 60, 87, 125] 142 (mI M1 (m1 + 1) x2.toNatClampNeg) = 87 := by rw [g8]; rfl
      rw [e9]
      refine e_aload_n dX2_faultOfForm_87 rfl ?_
      refine e_getN ff_4_5 h_m1_1.l0 w375 dX2_faultOfForm_88 (w := aR (some (m1 + 3))) h_m1_1.f5 ?_
      refine e_iload_n dX2_faultOfForm_91 rfl ?_
      refine e_iald h_m1_1.l3 (h_m1_1.b3 b1) dX2_faultOfForm_92 ?_
      refine e_iconst (u := (-1)) dX2_faultOfForm_93 (by decide) ?_
      refine e_icmp_ne (tgt := 101) dX2_faultOfForm_94 rfl (fun g9 => ?_) (fun g9 => ?_)
      ·
        refine e_iconst (u := 0) dX2_faultOfForm_101 (by decide) ?_
        exact e_iret rfl dX2_faultOfForm_102 (k9 g2 g3 g5 g8 g9)
      ·
        refine e_iconst (u := 2) dX2_faultOfForm_97 (by decide) ?_
        refine e_goto (tgt := 102) dX2_faultOfForm_98 rfl ?_
        exact e_iret rfl dX2_faultOfForm_102 (k10 g2 g3 g5 g8 g9)
    by_cases g10 : (mI M1 (m1 + 1) x2.toNatClampNeg) = 16
    · have e9 : tsw 12 [103, 103, 60, 87, 125] 142 (mI M1 (m1 + 1) x2.toNatClampNeg) = 125 := by rw [g10]; rfl
      rw [e9]
      refine e_aload_n dX2_faultOfForm_125 rfl ?_
      refine e_get ff_2_0 hS_1.l7 w119 dX2_faultOfForm_126 (w := aR (some 4)) hS_1.f7_0 ?_
      refine e_lload_n dX2_faultOfForm_129 rfl ?_
      refine e_callV (As := [aJ (mJ M (m1 + 2) x2.toNatClampNeg)]) (rest := []) vk_X5_find hS_1.l4 w510 ⟨by decide, by decide⟩ (Nat.le_of_ble_eq_true rfl) dX2_faultOfForm_130 (c11 g2 g3 g5 g8 g10) ?_
      show E K_X2_faultOfForm 133 [some (aR (some 7)), some (aR (some m1)), some (aI x2), some (aJ (mJ M (m1 + 2) x2.toNatClampNeg)), none] [aR o111] M2 v M'
      have hS_2 : St M2 := St.sh (M := M1) (c11 g2 g3 g5 g8 g10).2.1 hS_1
      have h_m1_1_2 : Mt M2 m1 := Mt.sh (M := M1) (c11 g2 g3 g5 g8 g10).2.1 h_m1_1
      refine e_ifnonnull (tgt := 140) dX2_faultOfForm_133 rfl (fun z => ?_) (fun z => ?_)
      ·
        obtain ⟨r111, q111⟩ : ∃ r, o111 = some r := by cases o111 with | none => exact absurd rfl z | some r => exact ⟨r, rfl⟩
        have h_r111 : Mt M2 r111 := (h12 g2 g3 g5 g8 g10 r111 q111)
        skip
        refine e_iconst (u := 0) dX2_faultOfForm_140 (by decide) ?_
        exact e_iret rfl dX2_faultOfForm_141 (k13 g2 g3 g5 g8 g10 r111 q111)
      ·
        have q111 : o111 = none := z
        refine e_iconst (u := 4) dX2_faultOfForm_136 (by decide) ?_
        refine e_goto (tgt := 141) dX2_faultOfForm_137 rfl ?_
        exact e_iret rfl dX2_faultOfForm_141 (k14 g2 g3 g5 g8 g10 q111)
    have e9 : tsw 12 [103, 103, 60, 87, 125] 142 (mI M1 (m1 + 1) x2.toNatClampNeg) = 142 := tsw_out [12, 13, 14, 15, 16] (by decide) (by
        simp only [List.mem_cons, List.not_mem_nil, or_false, forall_eq_or_imp, forall_eq]
        simp only [not_or] at g3 g5 g8 g10
        exact ⟨g3.1, g3.2, g5, g8, g10⟩)
    rw [e9]
    refine e_iconst (u := 0) dX2_faultOfForm_142 (by decide) ?_
    exact e_iret rfl dX2_faultOfForm_143 (k15 g2 g3 g5 g8 g10)
  ·
    refine e_iconst (u := 1) dX2_faultOfForm_17 (by decide) ?_
    exact e_iret rfl dX2_faultOfForm_18 (k16 g2)

set_option maxRecDepth 20000 in
theorem s_X2_hasForm_0 {M M' : AM} {v : Option AV} {m1 : Nat} {x2 : Int32} {x3 : Int64} {M1 : AM} {x110 : Int32} {M2 : AM} {x115 : Int32} (hS : St M) (h_m1 : Mt M m1)
    (b1 : vp_in x2 120)
    (k2 : ∀ (g1 : (mI M (m1 + 1) x2.toNatClampNeg) = 0 ∨ (mI M (m1 + 1) x2.toNatClampNeg) = 16), some (aI 1) = v ∧ M = M')
    (k3 : ∀ (g1 : ¬ ((mI M (m1 + 1) x2.toNatClampNeg) = 0 ∨ (mI M (m1 + 1) x2.toNatClampNeg) = 16)) (g2 : (mI M (m1 + 1) x2.toNatClampNeg) = 9 ∨ (mI M (m1 + 1) x2.toNatClampNeg) = 10) (g3 : x3 < 0), some (aI 0) = v ∧ M = M')
    (k4 : ∀ (g1 : ¬ ((mI M (m1 + 1) x2.toNatClampNeg) = 0 ∨ (mI M (m1 + 1) x2.toNatClampNeg) = 16)) (g2 : (mI M (m1 + 1) x2.toNatClampNeg) = 9 ∨ (mI M (m1 + 1) x2.toNatClampNeg) = 10) (g3 : ¬ (x3 < 0)) (g4 : ¬ (x3 < ((mI M m1 2 : Int32).toInt64))), some (aI 0) = v ∧ M = M')
    (k5 : ∀ (g1 : ¬ ((mI M (m1 + 1) x2.toNatClampNeg) = 0 ∨ (mI M (m1 + 1) x2.toNatClampNeg) = 16)) (g2 : (mI M (m1 + 1) x2.toNatClampNeg) = 9 ∨ (mI M (m1 + 1) x2.toNatClampNeg) = 10) (g3 : ¬ (x3 < 0)) (g4 : x3 < ((mI M m1 2 : Int32).toInt64)), some (aI 1) = v ∧ M = M')
    (k6 : ∀ (g1 : ¬ ((mI M (m1 + 1) x2.toNatClampNeg) = 0 ∨ (mI M (m1 + 1) x2.toNatClampNeg) = 16)) (g2 : ¬ ((mI M (m1 + 1) x2.toNatClampNeg) = 9 ∨ (mI M (m1 + 1) x2.toNatClampNeg) = 10)) (g5 : (mI M (m1 + 1) x2.toNatClampNeg) = 11) (g6 : x3 < 0), some (aI 0) = v ∧ M = M')
    (k7 : ∀ (g1 : ¬ ((mI M (m1 + 1) x2.toNatClampNeg) = 0 ∨ (mI M (m1 + 1) x2.toNatClampNeg) = 16)) (g2 : ¬ ((mI M (m1 + 1) x2.toNatClampNeg) = 9 ∨ (mI M (m1 + 1) x2.toNatClampNeg) = 10)) (g5 : (mI M (m1 + 1) x2.toNatClampNeg) = 11) (g6 : ¬ (x3 < 0)) (g7 : 100 < x3), some (aI 0) = v ∧ M = M')
    (k8 : ∀ (g1 : ¬ ((mI M (m1 + 1) x2.toNatClampNeg) = 0 ∨ (mI M (m1 + 1) x2.toNatClampNeg) = 16)) (g2 : ¬ ((mI M (m1 + 1) x2.toNatClampNeg) = 9 ∨ (mI M (m1 + 1) x2.toNatClampNeg) = 10)) (g5 : (mI M (m1 + 1) x2.toNatClampNeg) = 11) (g6 : ¬ (x3 < 0)) (g7 : ¬ (100 < x3)), some (aI 1) = v ∧ M = M')
    (k9 : ∀ (g1 : ¬ ((mI M (m1 + 1) x2.toNatClampNeg) = 0 ∨ (mI M (m1 + 1) x2.toNatClampNeg) = 16)) (g2 : ¬ ((mI M (m1 + 1) x2.toNatClampNeg) = 9 ∨ (mI M (m1 + 1) x2.toNatClampNeg) = 10)) (g5 : ¬ ((mI M (m1 + 1) x2.toNatClampNeg) = 11)) (g8 : (mI M (m1 + 1) x2.toNatClampNeg) = 12 ∨ (mI M (m1 + 1) x2.toNatClampNeg) = 13) (g9 : ¬ (((x2 : Int32).toInt64) < x3)), some (aI 0) = v ∧ M = M')
    (c10 : ∀ (g1 : ¬ ((mI M (m1 + 1) x2.toNatClampNeg) = 0 ∨ (mI M (m1 + 1) x2.toNatClampNeg) = 16)) (g2 : ¬ ((mI M (m1 + 1) x2.toNatClampNeg) = 9 ∨ (mI M (m1 + 1) x2.toNatClampNeg) = 10)) (g5 : ¬ ((mI M (m1 + 1) x2.toNatClampNeg) = 11)) (g8 : (mI M (m1 + 1) x2.toNatClampNeg) = 12 ∨ (mI M (m1 + 1) x2.toNatClampNeg) = 13) (g9 : ((x2 : Int32).toInt64) < x3), Ev K_X4_has [aR (some m1), aJ x3] M (some (aI x110)) M1)
    (k11 : ∀ (g1 : ¬ ((mI M (m1 + 1) x2.toNatClampNeg) = 0 ∨ (mI M (m1 + 1) x2.toNatClampNeg) = 16)) (g2 : ¬ ((mI M (m1 + 1) x2.toNatClampNeg) = 9 ∨ (mI M (m1 + 1) x2.toNatClampNeg) = 10)) (g5 : ¬ ((mI M (m1 + 1) x2.toNatClampNeg) = 11)) (g8 : (mI M (m1 + 1) x2.toNatClampNeg) = 12 ∨ (mI M (m1 + 1) x2.toNatClampNeg) = 13) (g9 : ((x2 : Int32).toInt64) < x3) (g11 : x110 = 0), some (aI 0) = v ∧ M1 = M')
    (k12 : ∀ (g1 : ¬ ((mI M (m1 + 1) x2.toNatClampNeg) = 0 ∨ (mI M (m1 + 1) x2.toNatClampNeg) = 16)) (g2 : ¬ ((mI M (m1 + 1) x2.toNatClampNeg) = 9 ∨ (mI M (m1 + 1) x2.toNatClampNeg) = 10)) (g5 : ¬ ((mI M (m1 + 1) x2.toNatClampNeg) = 11)) (g8 : (mI M (m1 + 1) x2.toNatClampNeg) = 12 ∨ (mI M (m1 + 1) x2.toNatClampNeg) = 13) (g9 : ((x2 : Int32).toInt64) < x3) (g11 : ¬ x110 = 0), some (aI 1) = v ∧ M1 = M')
    (k13 : ∀ (g1 : ¬ ((mI M (m1 + 1) x2.toNatClampNeg) = 0 ∨ (mI M (m1 + 1) x2.toNatClampNeg) = 16)) (g2 : ¬ ((mI M (m1 + 1) x2.toNatClampNeg) = 9 ∨ (mI M (m1 + 1) x2.toNatClampNeg) = 10)) (g5 : ¬ ((mI M (m1 + 1) x2.toNatClampNeg) = 11)) (g8 : ¬ ((mI M (m1 + 1) x2.toNatClampNeg) = 12 ∨ (mI M (m1 + 1) x2.toNatClampNeg) = 13)) (g12 : (mI M (m1 + 1) x2.toNatClampNeg) = 14) (g13 : x3 < 0), some (aI 0) = v ∧ M = M')
    (k14 : ∀ (g1 : ¬ ((mI M (m1 + 1) x2.toNatClampNeg) = 0 ∨ (mI M (m1 + 1) x2.toNatClampNeg) = 16)) (g2 : ¬ ((mI M (m1 + 1) x2.toNatClampNeg) = 9 ∨ (mI M (m1 + 1) x2.toNatClampNeg) = 10)) (g5 : ¬ ((mI M (m1 + 1) x2.toNatClampNeg) = 11)) (g8 : ¬ ((mI M (m1 + 1) x2.toNatClampNeg) = 12 ∨ (mI M (m1 + 1) x2.toNatClampNeg) = 13)) (g12 : (mI M (m1 + 1) x2.toNatClampNeg) = 14) (g13 : ¬ (x3 < 0)) (g14 : 1000000000 < x3), some (aI 0) = v ∧ M = M')
    (k15 : ∀ (g1 : ¬ ((mI M (m1 + 1) x2.toNatClampNeg) = 0 ∨ (mI M (m1 + 1) x2.toNatClampNeg) = 16)) (g2 : ¬ ((mI M (m1 + 1) x2.toNatClampNeg) = 9 ∨ (mI M (m1 + 1) x2.toNatClampNeg) = 10)) (g5 : ¬ ((mI M (m1 + 1) x2.toNatClampNeg) = 11)) (g8 : ¬ ((mI M (m1 + 1) x2.toNatClampNeg) = 12 ∨ (mI M (m1 + 1) x2.toNatClampNeg) = 13)) (g12 : (mI M (m1 + 1) x2.toNatClampNeg) = 14) (g13 : ¬ (x3 < 0)) (g14 : ¬ (1000000000 < x3)), some (aI 1) = v ∧ M = M')
    (c16 : ∀ (g1 : ¬ ((mI M (m1 + 1) x2.toNatClampNeg) = 0 ∨ (mI M (m1 + 1) x2.toNatClampNeg) = 16)) (g2 : ¬ ((mI M (m1 + 1) x2.toNatClampNeg) = 9 ∨ (mI M (m1 + 1) x2.toNatClampNeg) = 10)) (g5 : ¬ ((mI M (m1 + 1) x2.toNatClampNeg) = 11)) (g8 : ¬ ((mI M (m1 + 1) x2.toNatClampNeg) = 12 ∨ (mI M (m1 + 1) x2.toNatClampNeg) = 13)) (g12 : ¬ ((mI M (m1 + 1) x2.toNatClampNeg) = 14)), Ev K_X6_isOperation [aI (mI M (m1 + 1) x2.toNatClampNeg)] M (some (aI x115)) M2)
    (k17 : ∀ (g1 : ¬ ((mI M (m1 + 1) x2.toNatClampNeg) = 0 ∨ (mI M (m1 + 1) x2.toNatClampNeg) = 16)) (g2 : ¬ ((mI M (m1 + 1) x2.toNatClampNeg) = 9 ∨ (mI M (m1 + 1) x2.toNatClampNeg) = 10)) (g5 : ¬ ((mI M (m1 + 1) x2.toNatClampNeg) = 11)) (g8 : ¬ ((mI M (m1 + 1) x2.toNatClampNeg) = 12 ∨ (mI M (m1 + 1) x2.toNatClampNeg) = 13)) (g12 : ¬ ((mI M (m1 + 1) x2.toNatClampNeg) = 14)) (g16 : x115 = 0), some (aI 0) = v ∧ M2 = M')
    (k18 : ∀ (g1 : ¬ ((mI M (m1 + 1) x2.toNatClampNeg) = 0 ∨ (mI M (m1 + 1) x2.toNatClampNeg) = 16)) (g2 : ¬ ((mI M (m1 + 1) x2.toNatClampNeg) = 9 ∨ (mI M (m1 + 1) x2.toNatClampNeg) = 10)) (g5 : ¬ ((mI M (m1 + 1) x2.toNatClampNeg) = 11)) (g8 : ¬ ((mI M (m1 + 1) x2.toNatClampNeg) = 12 ∨ (mI M (m1 + 1) x2.toNatClampNeg) = 13)) (g12 : ¬ ((mI M (m1 + 1) x2.toNatClampNeg) = 14)) (g16 : ¬ x115 = 0) (g17 : ¬ (x3 = 0)), some (aI 0) = v ∧ M2 = M')
    (k19 : ∀ (g1 : ¬ ((mI M (m1 + 1) x2.toNatClampNeg) = 0 ∨ (mI M (m1 + 1) x2.toNatClampNeg) = 16)) (g2 : ¬ ((mI M (m1 + 1) x2.toNatClampNeg) = 9 ∨ (mI M (m1 + 1) x2.toNatClampNeg) = 10)) (g5 : ¬ ((mI M (m1 + 1) x2.toNatClampNeg) = 11)) (g8 : ¬ ((mI M (m1 + 1) x2.toNatClampNeg) = 12 ∨ (mI M (m1 + 1) x2.toNatClampNeg) = 13)) (g12 : ¬ ((mI M (m1 + 1) x2.toNatClampNeg) = 14)) (g16 : ¬ x115 = 0) (g17 : x3 = 0), some (aI 1) = v ∧ M2 = M') :
    Ev K_X2_hasForm [aR (some 7), aR (some m1), aI x2, aJ x3] M v M' := by
  refine ⟨Nat.le_of_ble_eq_true rfl, ?_⟩
  show E K_X2_hasForm 0 [some (aR (some 7)), some (aR (some m1)), some (aI x2), some (aJ x3), none] [] M v M'
  refine e_aload_n dX2_hasForm_0 rfl ?_
  refine e_getN ff_4_3 h_m1.l0 w366 dX2_hasForm_1 (w := aR (some (m1 + 1))) h_m1.f3 ?_
  refine e_iload_n dX2_hasForm_4 rfl ?_
  refine e_iald h_m1.l1 (h_m1.b1 b1) dX2_hasForm_5 ?_
  refine e_tsw (d := 173) (tg := [88, 173, 173, 173, 173, 173, 173, 173, 173, 90, 90, 112, 132, 132, 153, 173, 88]) dX2_hasForm_6 rfl rfl rfl ?_
  by_cases g1 : (mI M (m1 + 1) x2.toNatClampNeg) = 0 ∨ (mI M (m1 + 1) x2.toNatClampNeg) = 16
  · have e9 : tsw 0 [88, 173, 173, 173, 173, 173, 173, 173, 173, 90, 90, 112, 132, 132, 153, 173, 88] 173 (mI M (m1 + 1) x2.toNatClampNeg) = 88 := by (rcases g1 with h9 | h9); all_goals (rw [h9]; rfl)
    rw [e9]
    refine e_iconst (u := 1) dX2_hasForm_88 (by decide) ?_
    exact e_zret rfl (Or.inr rfl) dX2_hasForm_89 (k2 g1)
  by_cases g2 : (mI M (m1 + 1) x2.toNatClampNeg) = 9 ∨ (mI M (m1 + 1) x2.toNatClampNeg) = 10
  · have e9 : tsw 0 [88, 173, 173, 173, 173, 173, 173, 173, 173, 90, 90, 112, 132, 132, 153, 173, 88] 173 (mI M (m1 + 1) x2.toNatClampNeg) = 90 := by (rcases g2 with h9 | h9); all_goals (rw [h9]; rfl)
    rw [e9]
    refine e_lload_n dX2_hasForm_90 rfl ?_
    refine e_lconst (u := 0) dX2_hasForm_91 (by decide) ?_
    refine e_lcmp_lt (tgt := 110) dX2_hasForm_92 dX2_hasForm_93 rfl (fun g3 => ?_) (fun g3 => ?_)
    ·
      refine e_iconst (u := 0) dX2_hasForm_110 (by decide) ?_
      exact e_zret rfl (Or.inl rfl) dX2_hasForm_111 (k3 g1 g2 g3)
    ·
      refine e_lload_n dX2_hasForm_96 rfl ?_
      refine e_aload_n dX2_hasForm_97 rfl ?_
      refine e_getN ff_4_2 h_m1.l0 w363 dX2_hasForm_98 (w := aI (mI M m1 2)) rfl ?_
      refine e_i2l dX2_hasForm_101 ?_
      refine e_lcmp_ge (tgt := 110) dX2_hasForm_102 dX2_hasForm_103 rfl (fun g4 => ?_) (fun g4 => ?_)
      ·
        refine e_iconst (u := 0) dX2_hasForm_110 (by decide) ?_
        exact e_zret rfl (Or.inl rfl) dX2_hasForm_111 (k4 g1 g2 g3 g4)
      ·
        refine e_iconst (u := 1) dX2_hasForm_106 (by decide) ?_
        refine e_goto (tgt := 111) dX2_hasForm_107 rfl ?_
        exact e_zret rfl (Or.inr rfl) dX2_hasForm_111 (k5 g1 g2 g3 g4)
  by_cases g5 : (mI M (m1 + 1) x2.toNatClampNeg) = 11
  · have e9 : tsw 0 [88, 173, 173, 173, 173, 173, 173, 173, 173, 90, 90, 112, 132, 132, 153, 173, 88] 173 (mI M (m1 + 1) x2.toNatClampNeg) = 112 := by rw [g5]; rfl
    rw [e9]
    refine e_lload_n dX2_hasForm_112 rfl ?_
    refine e_lconst (u := 0) dX2_hasForm_113 (by decide) ?_
    refine e_lcmp_lt (tgt := 130) dX2_hasForm_114 dX2_hasForm_115 rfl (fun g6 => ?_) (fun g6 => ?_)
    ·
      refine e_iconst (u := 0) dX2_hasForm_130 (by decide) ?_
      exact e_zret rfl (Or.inl rfl) dX2_hasForm_131 (k6 g1 g2 g5 g6)
    ·
      refine e_lload_n dX2_hasForm_118 rfl ?_
      refine e_ldc2 dX2_hasForm_119 w535 ?_
      refine e_lcmp_gt (tgt := 130) dX2_hasForm_122 dX2_hasForm_123 rfl (fun g7 => ?_) (fun g7 => ?_)
      ·
        refine e_iconst (u := 0) dX2_hasForm_130 (by decide) ?_
        exact e_zret rfl (Or.inl rfl) dX2_hasForm_131 (k7 g1 g2 g5 g6 g7)
      ·
        refine e_iconst (u := 1) dX2_hasForm_126 (by decide) ?_
        refine e_goto (tgt := 131) dX2_hasForm_127 rfl ?_
        exact e_zret rfl (Or.inr rfl) dX2_hasForm_131 (k8 g1 g2 g5 g6 g7)
  by_cases g8 : (mI M (m1 + 1) x2.toNatClampNeg) = 12 ∨ (mI M (m1 + 1) x2.toNatClampNeg) = 13
  · have e9 : tsw 0 [88, 173, 173, 173, 173, 173, 173, 173, 173, 90, 90, 112, 132, 132, 153, 173, 88] 173 (mI M (m1 + 1) x2.toNatClampNeg) = 132 := by (rcases g8 with h9 | h9); all_goals (rw [h9]; rfl)
    rw [e9]
    refine e_lload_n dX2_hasForm_132 rfl ?_
    refine e_iload_n dX2_hasForm_133 rfl ?_
    refine e_i2l dX2_hasForm_134 ?_
    refine e_lcmp_le (tgt := 151) dX2_hasForm_135 dX2_hasForm_136 rfl (fun g9 => ?_) (fun g9 => ?_)
    ·
      refine e_iconst (u := 0) dX2_hasForm_151 (by decide) ?_
      exact e_zret rfl (Or.inl rfl) dX2_hasForm_152 (k9 g1 g2 g5 g8 g9)
    ·
      refine e_aload_n dX2_hasForm_139 rfl ?_
      refine e_lload_n dX2_hasForm_140 rfl ?_
      refine e_callV (As := [aJ x3]) (rest := []) vk_X4_has h_m1.l0 w536 ⟨by decide, by decide⟩ (Nat.le_of_ble_eq_true rfl) dX2_hasForm_141 (c10 g1 g2 g5 g8 g9) ?_
      show E K_X2_hasForm 144 [some (aR (some 7)), some (aR (some m1)), some (aI x2), some (aJ x3), none] [aI x110] M1 v M'
      have hS_1 : St M1 := St.sh (M := M) (c10 g1 g2 g5 g8 g9).2.1 hS
      have h_m1_1 : Mt M1 m1 := Mt.sh (M := M) (c10 g1 g2 g5 g8 g9).2.1 h_m1
      refine e_if_eq (tgt := 151) dX2_hasForm_144 rfl (fun g11 => ?_) (fun g11 => ?_)
      ·
        refine e_iconst (u := 0) dX2_hasForm_151 (by decide) ?_
        exact e_zret rfl (Or.inl rfl) dX2_hasForm_152 (k11 g1 g2 g5 g8 g9 g11)
      ·
        refine e_iconst (u := 1) dX2_hasForm_147 (by decide) ?_
        refine e_goto (tgt := 152) dX2_hasForm_148 rfl ?_
        exact e_zret rfl (Or.inr rfl) dX2_hasForm_152 (k12 g1 g2 g5 g8 g9 g11)
  by_cases g12 : (mI M (m1 + 1) x2.toNatClampNeg) = 14
  · have e9 : tsw 0 [88, 173, 173, 173, 173, 173, 173, 173, 173, 90, 90, 112, 132, 132, 153, 173, 88] 173 (mI M (m1 + 1) x2.toNatClampNeg) = 153 := by rw [g12]; rfl
    rw [e9]
    refine e_lload_n dX2_hasForm_153 rfl ?_
    refine e_lconst (u := 0) dX2_hasForm_154 (by decide) ?_
    refine e_lcmp_lt (tgt := 171) dX2_hasForm_155 dX2_hasForm_156 rfl (fun g13 => ?_) (fun g13 => ?_)
    ·
      refine e_iconst (u := 0) dX2_hasForm_171 (by decide) ?_
      exact e_zret rfl (Or.inl rfl) dX2_hasForm_172 (k13 g1 g2 g5 g8 g12 g13)
    ·
      refine e_lload_n dX2_hasForm_159 rfl ?_
      refine e_ldc2 dX2_hasForm_160 w537 ?_
      refine e_lcmp_gt (tgt := 171) dX2_hasForm_163 dX2_hasForm_164 rfl (fun g14 => ?_) (fun g14 => ?_)
      ·
        refine e_iconst (u := 0) dX2_hasForm_171 (by decide) ?_
        exact e_zret rfl (Or.inl rfl) dX2_hasForm_172 (k14 g1 g2 g5 g8 g12 g13 g14)
      ·
        refine e_iconst (u := 1) dX2_hasForm_167 (by decide) ?_
        refine e_goto (tgt := 172) dX2_hasForm_168 rfl ?_
        exact e_zret rfl (Or.inr rfl) dX2_hasForm_172 (k15 g1 g2 g5 g8 g12 g13 g14)
  have e9 : tsw 0 [88, 173, 173, 173, 173, 173, 173, 173, 173, 90, 90, 112, 132, 132, 153, 173, 88] 173 (mI M (m1 + 1) x2.toNatClampNeg) = 173 := tsw_out [0, 16, 9, 10, 11, 12, 13, 14] (by decide) (by
      simp only [List.mem_cons, List.not_mem_nil, or_false, forall_eq_or_imp, forall_eq]
      simp only [not_or] at g1 g2 g5 g8 g12
      exact ⟨g1.1, g1.2, g2.1, g2.2, g5, g8.1, g8.2, g12⟩)
  rw [e9]
  refine e_aload_n dX2_hasForm_173 rfl ?_
  refine e_getN ff_4_3 h_m1.l0 w366 dX2_hasForm_174 (w := aR (some (m1 + 1))) h_m1.f3 ?_
  refine e_iload_n dX2_hasForm_177 rfl ?_
  refine e_iald h_m1.l1 (h_m1.b1 b1) dX2_hasForm_178 ?_
  refine e_callSN (As := [aI (mI M (m1 + 1) x2.toNatClampNeg)]) (rest := []) sk_X6_isOperation w538 ⟨by decide, by decide⟩ (Nat.le_of_ble_eq_true rfl) dX2_hasForm_179 (c16 g1 g2 g5 g8 g12) ?_
  show E K_X2_hasForm 182 [some (aR (some 7)), some (aR (some m1)), some (aI x2), some (aJ x3), none] [aI x115] M2 v M'
  have hS_2 : St M2 := St.sh (M := M) (c16 g1 g2 g5 g8 g12).2.1 hS
  have h_m1_2 : Mt M2 m1 := Mt.sh (M := M) (c16 g1 g2 g5 g8 g12).2.1 h_m1
  refine e_if_eq (tgt := 195) dX2_hasForm_182 rfl (fun g16 => ?_) (fun g16 => ?_)
  ·
    refine e_iconst (u := 0) dX2_hasForm_195 (by decide) ?_
    exact e_zret rfl (Or.inl rfl) dX2_hasForm_196 (k17 g1 g2 g5 g8 g12 g16)
  ·
    refine e_lload_n dX2_hasForm_185 rfl ?_
    refine e_lconst (u := 0) dX2_hasForm_186 (by decide) ?_
    refine e_lcmp_ne (tgt := 195) dX2_hasForm_187 dX2_hasForm_188 rfl (fun g17 => ?_) (fun g17 => ?_)
    ·
      refine e_iconst (u := 0) dX2_hasForm_195 (by decide) ?_
      exact e_zret rfl (Or.inl rfl) dX2_hasForm_196 (k18 g1 g2 g5 g8 g12 g16 g17)
    ·
      refine e_iconst (u := 1) dX2_hasForm_191 (by decide) ?_
      refine e_goto (tgt := 196) dX2_hasForm_192 rfl ?_
      exact e_zret rfl (Or.inr rfl) dX2_hasForm_196 (k19 g1 g2 g5 g8 g12 g16 g17)

set_option maxRecDepth 20000 in
theorem s_X2_findHeights_0 {M M' : AM} {v : Option AV} {m1 : Nat} {M1 : AM} {M2 : AM} (hS : St M) (h_m1 : Mt M m1)
    (c1 : Ev K_J7_fill_53178 [aR (some (m1 + 4)), aI (-1)] M (none) M1)
    (b2 : ∀ (g1 : ¬ (mI M1 m1 7) = 0), vp_in 0 120)
    (k3 : ∀ (g1 : ¬ (mI M1 m1 7) = 0), E K_X2_findHeights 32 [some (aR (some 7)), some (aR (some m1)), some (aI 0), none] [] (wrI M1 (m1 + 4) (0 : Int32).toNatClampNeg 0) v M')
    (c4 : ∀ (g1 : (mI M1 m1 7) = 0), Ev K_X4_fail [aR (some m1), aI 9, aI 0] M1 (none) M2)
    (k5 : ∀ (g1 : (mI M1 m1 7) = 0), none = v ∧ M2 = M') :
    Ev K_X2_findHeights [aR (some 7), aR (some m1)] M v M' := by
  refine ⟨Nat.le_of_ble_eq_true rfl, ?_⟩
  show E K_X2_findHeights 0 [some (aR (some 7)), some (aR (some m1)), none, none] [] M v M'
  refine e_aload_n dX2_findHeights_0 rfl ?_
  refine e_getN ff_4_6 h_m1.l0 w380 dX2_findHeights_1 (w := aR (some (m1 + 4))) h_m1.f6 ?_
  refine e_iconst (u := (-1)) dX2_findHeights_4 (by decide) ?_
  refine e_callS (As := [aR (some (m1 + 4)), aI (-1)]) (rest := []) sk_J7_fill_53178 w547 ⟨by decide, by decide⟩ (Nat.le_of_ble_eq_true rfl) dX2_findHeights_5 c1 ?_
  show E K_X2_findHeights 8 [some (aR (some 7)), some (aR (some m1)), none, none] [] M1 v M'
  have hS_1 : St M1 := St.sh (M := M) c1.2.1 hS
  have h_m1_1 : Mt M1 m1 := Mt.sh (M := M) c1.2.1 h_m1
  refine e_aload_n dX2_findHeights_8 rfl ?_
  refine e_getN ff_4_7 h_m1_1.l0 w383 dX2_findHeights_9 (w := aI (mI M1 m1 7)) rfl ?_
  refine e_if_ne (tgt := 23) dX2_findHeights_12 rfl (fun g1 => ?_) (fun g1 => ?_)
  ·
    refine e_aload_n dX2_findHeights_23 rfl ?_
    refine e_getN ff_4_6 h_m1_1.l0 w380 dX2_findHeights_24 (w := aR (some (m1 + 4))) h_m1_1.f6 ?_
    refine e_iconst (u := 0) dX2_findHeights_27 (by decide) ?_
    refine e_iconst (u := 0) dX2_findHeights_28 (by decide) ?_
    refine e_iast h_m1_1.l4 (h_m1_1.b4 (b2 g1)) dX2_findHeights_29 ?_
    refine e_iconst (u := 0) dX2_findHeights_30 (by decide) ?_
    refine e_istore_n dX2_findHeights_31 (Nat.le_of_ble_eq_true rfl) ?_
    show E K_X2_findHeights 32 [some (aR (some 7)), some (aR (some m1)), some (aI 0), none] [] (wrI M1 (m1 + 4) (0 : Int32).toNatClampNeg 0) v M'
    exact (k3 g1)
  ·
    refine e_aload_n dX2_findHeights_15 rfl ?_
    refine e_bipush (u := 9) dX2_findHeights_16 (by decide) ?_
    refine e_iconst (u := 0) dX2_findHeights_18 (by decide) ?_
    refine e_callV (As := [aI 9, aI 0]) (rest := []) vk_X4_fail h_m1_1.l0 w515 ⟨by decide, by decide⟩ (Nat.le_of_ble_eq_true rfl) dX2_findHeights_19 (c4 g1) ?_
    show E K_X2_findHeights 22 [some (aR (some 7)), some (aR (some m1)), none, none] [] M2 v M'
    have hS_2 : St M2 := St.sh (M := M1) (c4 g1).2.1 hS_1
    have h_m1_1_2 : Mt M2 m1 := Mt.sh (M := M1) (c4 g1).2.1 h_m1_1
    exact e_vret rfl dX2_findHeights_22 (k5 g1)

set_option maxRecDepth 20000 in
theorem s_X2_findHeights_32 {M M' : AM} {v : Option AV} {m1 : Nat} {x2 : Int32} {M1 : AM} {x103 : Int32} {M2 : AM} (hS : St M) (h_m1 : Mt M m1)
    (k1 : ∀ (g1 : (mI M m1 7) ≤ x2), none = v ∧ M = M')
    (b2 : ∀ (g1 : ¬ ((mI M m1 7) ≤ x2)), vp_in x2 120)
    (k3 : ∀ (g1 : ¬ ((mI M m1 7) ≤ x2)) (g2 : (mI M (m1 + 4) x2.toNatClampNeg) = (-1)), E K_X2_findHeights 32 [some (aR (some 7)), some (aR (some m1)), some (aI (x2 + 1)), some (aI 0)] [] M v M')
    (c4 : ∀ (g1 : ¬ ((mI M m1 7) ≤ x2)) (g2 : ¬ (mI M (m1 + 4) x2.toNatClampNeg) = (-1)), Ev K_X2_faultOfHeight [aR (some 7), aR (some m1), aI x2] M (some (aI x103)) M1)
    (k5 : ∀ (g1 : ¬ ((mI M m1 7) ≤ x2)) (g2 : ¬ (mI M (m1 + 4) x2.toNatClampNeg) = (-1)) (g4 : x103 = 0), E K_X2_findHeights 32 [some (aR (some 7)), some (aR (some m1)), some (aI (x2 + 1)), some (aI x103)] [] M1 v M')
    (c6 : ∀ (g1 : ¬ ((mI M m1 7) ≤ x2)) (g2 : ¬ (mI M (m1 + 4) x2.toNatClampNeg) = (-1)) (g4 : ¬ x103 = 0), Ev K_X4_fail [aR (some m1), aI x103, aI x2] M1 (none) M2)
    (k7 : ∀ (g1 : ¬ ((mI M m1 7) ≤ x2)) (g2 : ¬ (mI M (m1 + 4) x2.toNatClampNeg) = (-1)) (g4 : ¬ x103 = 0), none = v ∧ M2 = M') :
    E K_X2_findHeights 32 [some (aR (some 7)), some (aR (some m1)), some (aI x2), none] [] M v M' := by
  refine e_iload_n dX2_findHeights_32 rfl ?_
  refine e_aload_n dX2_findHeights_33 rfl ?_
  refine e_getN ff_4_7 h_m1.l0 w383 dX2_findHeights_34 (w := aI (mI M m1 7)) rfl ?_
  refine e_icmp_ge (tgt := 78) dX2_findHeights_37 rfl (fun g1 => ?_) (fun g1 => ?_)
  ·
    exact e_vret rfl dX2_findHeights_78 (k1 g1)
  ·
    refine e_aload_n dX2_findHeights_40 rfl ?_
    refine e_getN ff_4_6 h_m1.l0 w380 dX2_findHeights_41 (w := aR (some (m1 + 4))) h_m1.f6 ?_
    refine e_iload_n dX2_findHeights_44 rfl ?_
    refine e_iald h_m1.l4 (h_m1.b4 (b2 g1)) dX2_findHeights_45 ?_
    refine e_iconst (u := (-1)) dX2_findHeights_46 (by decide) ?_
    refine e_icmp_eq (tgt := 59) dX2_findHeights_47 rfl (fun g2 => ?_) (fun g2 => ?_)
    ·
      refine e_iconst (u := 0) dX2_findHeights_59 (by decide) ?_
      refine e_istore_n dX2_findHeights_60 (Nat.le_of_ble_eq_true rfl) ?_
      show E K_X2_findHeights 61 [some (aR (some 7)), some (aR (some m1)), some (aI x2), some (aI 0)] [] M v M'
      refine e_iload_n dX2_findHeights_61 rfl ?_
      refine e_if_eq (tgt := 72) dX2_findHeights_62 rfl (fun z => ?_) (fun z => ?_)
      ·
        refine e_iinc dX2_findHeights_72 rfl ?_
        show E K_X2_findHeights 75 [some (aR (some 7)), some (aR (some m1)), some (aI (x2 + 1)), some (aI 0)] [] M v M'
        refine e_goto (tgt := 32) dX2_findHeights_75 rfl ?_
        exact (k3 g1 g2)
      · exact absurd z (by decide)
    ·
      refine e_aload_n dX2_findHeights_50 rfl ?_
      refine e_aload_n dX2_findHeights_51 rfl ?_
      refine e_iload_n dX2_findHeights_52 rfl ?_
      refine e_callV (As := [aR (some m1), aI x2]) (rest := []) vk_X2_faultOfHeight hS.l7 w548 ⟨by decide, by decide⟩ (Nat.le_of_ble_eq_true rfl) dX2_findHeights_53 (c4 g1 g2) ?_
      show E K_X2_findHeights 56 [some (aR (some 7)), some (aR (some m1)), some (aI x2), none] [aI x103] M1 v M'
      have hS_1 : St M1 := St.sh (M := M) (c4 g1 g2).2.1 hS
      have h_m1_1 : Mt M1 m1 := Mt.sh (M := M) (c4 g1 g2).2.1 h_m1
      refine e_goto (tgt := 60) dX2_findHeights_56 rfl ?_
      refine e_istore_n dX2_findHeights_60 (Nat.le_of_ble_eq_true rfl) ?_
      show E K_X2_findHeights 61 [some (aR (some 7)), some (aR (some m1)), some (aI x2), some (aI x103)] [] M1 v M'
      refine e_iload_n dX2_findHeights_61 rfl ?_
      refine e_if_eq (tgt := 72) dX2_findHeights_62 rfl (fun g4 => ?_) (fun g4 => ?_)
      ·
        refine e_iinc dX2_findHeights_72 rfl ?_
        show E K_X2_findHeights 75 [some (aR (some 7)), some (aR (some m1)), some (aI (x2 + 1)), some (aI x103)] [] M1 v M'
        refine e_goto (tgt := 32) dX2_findHeights_75 rfl ?_
        exact (k5 g1 g2 g4)
      ·
        refine e_aload_n dX2_findHeights_65 rfl ?_
        refine e_iload_n dX2_findHeights_66 rfl ?_
        refine e_iload_n dX2_findHeights_67 rfl ?_
        refine e_callV (As := [aI x103, aI x2]) (rest := []) vk_X4_fail h_m1_1.l0 w515 ⟨by decide, by decide⟩ (Nat.le_of_ble_eq_true rfl) dX2_findHeights_68 (c6 g1 g2 g4) ?_
        show E K_X2_findHeights 71 [some (aR (some 7)), some (aR (some m1)), some (aI x2), some (aI x103)] [] M2 v M'
        have hS_2 : St M2 := St.sh (M := M1) (c6 g1 g2 g4).2.1 hS_1
        have h_m1_1_2 : Mt M2 m1 := Mt.sh (M := M1) (c6 g1 g2 g4).2.1 h_m1_1
        exact e_vret rfl dX2_findHeights_71 (k7 g1 g2 g4)

set_option maxRecDepth 20000 in
theorem s_X2_faultOfHeight_0 {M M' : AM} {v : Option AV} {m1 : Nat} {x2 : Int32} {M1 : AM} {x101 : Int32} {M2 : AM} {x103 : Int32} {M3 : AM} {x106 : Int32} {M4 : AM} {x108 : Int32} {M5 : AM} {x110 : Int32} {M6 : AM} {x113 : Int32} {M7 : AM} {x114 : Int32} {M8 : AM} {x116 : Int32} {M9 : AM} {x118 : Int32} {M10 : AM} {x121 : Int32} (hS : St M) (h_m1 : Mt M m1)
    (b1 : vp_in x2 120)
    (c2 : Ev K_X2_takenBy [aR (some 7), aR (some m1), aI x2] M (some (aI x101)) M1)
    (c3 : ∀ (g2 : x101 ≤ (mI M (m1 + 4) x2.toNatClampNeg)), Ev K_X2_givenBy [aR (some 7), aR (some m1), aI x2] M1 (some (aI x103)) M2)
    (c4 : ∀ (g2 : x101 ≤ (mI M (m1 + 4) x2.toNatClampNeg)) (g4 : (((mI M (m1 + 4) x2.toNatClampNeg) - x101) + x103) ≤ 100) (g5 : (mI M2 (m1 + 1) x2.toNatClampNeg) = 12), Ev K_X2_lead [aR (some 7), aR (some m1), aJ (mJ M2 (m1 + 2) x2.toNatClampNeg), aI (((mI M (m1 + 4) x2.toNatClampNeg) - x101) + x103)] M2 (some (aI x106)) M3)
    (k5 : ∀ (g2 : x101 ≤ (mI M (m1 + 4) x2.toNatClampNeg)) (g4 : (((mI M (m1 + 4) x2.toNatClampNeg) - x101) + x103) ≤ 100) (g5 : (mI M2 (m1 + 1) x2.toNatClampNeg) = 12), some (aI x106) = v ∧ M3 = M')
    (c6 : ∀ (g2 : x101 ≤ (mI M (m1 + 4) x2.toNatClampNeg)) (g4 : (((mI M (m1 + 4) x2.toNatClampNeg) - x101) + x103) ≤ 100) (g5 : ¬ ((mI M2 (m1 + 1) x2.toNatClampNeg) = 12)) (g7 : (mI M2 (m1 + 1) x2.toNatClampNeg) = 13), Ev K_X2_lead [aR (some 7), aR (some m1), aJ (mJ M2 (m1 + 2) x2.toNatClampNeg), aI (((mI M (m1 + 4) x2.toNatClampNeg) - x101) + x103)] M2 (some (aI x108)) M4)
    (c7 : ∀ (g2 : x101 ≤ (mI M (m1 + 4) x2.toNatClampNeg)) (g4 : (((mI M (m1 + 4) x2.toNatClampNeg) - x101) + x103) ≤ 100) (g5 : ¬ ((mI M2 (m1 + 1) x2.toNatClampNeg) = 12)) (g7 : (mI M2 (m1 + 1) x2.toNatClampNeg) = 13) (g9 : x108 = 0), Ev K_X2_lead [aR (some 7), aR (some m1), aJ ((x2 + 1 : Int32).toInt64), aI (((mI M (m1 + 4) x2.toNatClampNeg) - x101) + x103)] M4 (some (aI x110)) M5)
    (k8 : ∀ (g2 : x101 ≤ (mI M (m1 + 4) x2.toNatClampNeg)) (g4 : (((mI M (m1 + 4) x2.toNatClampNeg) - x101) + x103) ≤ 100) (g5 : ¬ ((mI M2 (m1 + 1) x2.toNatClampNeg) = 12)) (g7 : (mI M2 (m1 + 1) x2.toNatClampNeg) = 13) (g9 : x108 = 0), some (aI x110) = v ∧ M5 = M')
    (k9 : ∀ (g2 : x101 ≤ (mI M (m1 + 4) x2.toNatClampNeg)) (g4 : (((mI M (m1 + 4) x2.toNatClampNeg) - x101) + x103) ≤ 100) (g5 : ¬ ((mI M2 (m1 + 1) x2.toNatClampNeg) = 12)) (g7 : (mI M2 (m1 + 1) x2.toNatClampNeg) = 13) (g9 : ¬ x108 = 0), some (aI x108) = v ∧ M4 = M')
    (c10 : ∀ (g2 : x101 ≤ (mI M (m1 + 4) x2.toNatClampNeg)) (g4 : (((mI M (m1 + 4) x2.toNatClampNeg) - x101) + x103) ≤ 100) (g5 : ¬ ((mI M2 (m1 + 1) x2.toNatClampNeg) = 12)) (g7 : ¬ ((mI M2 (m1 + 1) x2.toNatClampNeg) = 13)) (g11 : (mI M2 (m1 + 1) x2.toNatClampNeg) = 14) (g12 : ¬ (0 < (mJ M2 (m1 + 2) x2.toNatClampNeg))), Ev K_X2_lead [aR (some 7), aR (some m1), aJ (((mI M2 (m1 + 3) x2.toNatClampNeg) + 1 : Int32).toInt64), aI (((mI M (m1 + 4) x2.toNatClampNeg) - x101) + x103)] M2 (some (aI x113)) M6)
    (k11 : ∀ (g2 : x101 ≤ (mI M (m1 + 4) x2.toNatClampNeg)) (g4 : (((mI M (m1 + 4) x2.toNatClampNeg) - x101) + x103) ≤ 100) (g5 : ¬ ((mI M2 (m1 + 1) x2.toNatClampNeg) = 12)) (g7 : ¬ ((mI M2 (m1 + 1) x2.toNatClampNeg) = 13)) (g11 : (mI M2 (m1 + 1) x2.toNatClampNeg) = 14) (g12 : ¬ (0 < (mJ M2 (m1 + 2) x2.toNatClampNeg))), some (aI x113) = v ∧ M6 = M')
    (c12 : ∀ (g2 : x101 ≤ (mI M (m1 + 4) x2.toNatClampNeg)) (g4 : (((mI M (m1 + 4) x2.toNatClampNeg) - x101) + x103) ≤ 100) (g5 : ¬ ((mI M2 (m1 + 1) x2.toNatClampNeg) = 12)) (g7 : ¬ ((mI M2 (m1 + 1) x2.toNatClampNeg) = 13)) (g11 : (mI M2 (m1 + 1) x2.toNatClampNeg) = 14) (g12 : 0 < (mJ M2 (m1 + 2) x2.toNatClampNeg)), Ev K_X2_lead [aR (some 7), aR (some m1), aJ ((x2 + 1 : Int32).toInt64), aI (((mI M (m1 + 4) x2.toNatClampNeg) - x101) + x103)] M2 (some (aI x114)) M7)
    (k13 : ∀ (g2 : x101 ≤ (mI M (m1 + 4) x2.toNatClampNeg)) (g4 : (((mI M (m1 + 4) x2.toNatClampNeg) - x101) + x103) ≤ 100) (g5 : ¬ ((mI M2 (m1 + 1) x2.toNatClampNeg) = 12)) (g7 : ¬ ((mI M2 (m1 + 1) x2.toNatClampNeg) = 13)) (g11 : (mI M2 (m1 + 1) x2.toNatClampNeg) = 14) (g12 : 0 < (mJ M2 (m1 + 2) x2.toNatClampNeg)), some (aI x114) = v ∧ M7 = M')
    (c14 : ∀ (g2 : x101 ≤ (mI M (m1 + 4) x2.toNatClampNeg)) (g4 : (((mI M (m1 + 4) x2.toNatClampNeg) - x101) + x103) ≤ 100) (g5 : ¬ ((mI M2 (m1 + 1) x2.toNatClampNeg) = 12)) (g7 : ¬ ((mI M2 (m1 + 1) x2.toNatClampNeg) = 13)) (g11 : ¬ ((mI M2 (m1 + 1) x2.toNatClampNeg) = 14)) (g15 : (mI M2 (m1 + 1) x2.toNatClampNeg) = 15), Ev K_X4_heightAt [aR (some m1), aI (mI M2 (m1 + 3) x2.toNatClampNeg)] M2 (some (aI x116)) M8)
    (c15 : ∀ (g2 : x101 ≤ (mI M (m1 + 4) x2.toNatClampNeg)) (g4 : (((mI M (m1 + 4) x2.toNatClampNeg) - x101) + x103) ≤ 100) (g5 : ¬ ((mI M2 (m1 + 1) x2.toNatClampNeg) = 12)) (g7 : ¬ ((mI M2 (m1 + 1) x2.toNatClampNeg) = 13)) (g11 : ¬ ((mI M2 (m1 + 1) x2.toNatClampNeg) = 14)) (g15 : (mI M2 (m1 + 1) x2.toNatClampNeg) = 15) (g17 : (mI M (m1 + 4) x2.toNatClampNeg) = x116), Ev K_X2_lead [aR (some 7), aR (some m1), aJ ((x2 + 1 : Int32).toInt64), aI (((mI M (m1 + 4) x2.toNatClampNeg) - x101) + x103)] M8 (some (aI x118)) M9)
    (k16 : ∀ (g2 : x101 ≤ (mI M (m1 + 4) x2.toNatClampNeg)) (g4 : (((mI M (m1 + 4) x2.toNatClampNeg) - x101) + x103) ≤ 100) (g5 : ¬ ((mI M2 (m1 + 1) x2.toNatClampNeg) = 12)) (g7 : ¬ ((mI M2 (m1 + 1) x2.toNatClampNeg) = 13)) (g11 : ¬ ((mI M2 (m1 + 1) x2.toNatClampNeg) = 14)) (g15 : (mI M2 (m1 + 1) x2.toNatClampNeg) = 15) (g17 : (mI M (m1 + 4) x2.toNatClampNeg) = x116), some (aI x118) = v ∧ M9 = M')
    (k17 : ∀ (g2 : x101 ≤ (mI M (m1 + 4) x2.toNatClampNeg)) (g4 : (((mI M (m1 + 4) x2.toNatClampNeg) - x101) + x103) ≤ 100) (g5 : ¬ ((mI M2 (m1 + 1) x2.toNatClampNeg) = 12)) (g7 : ¬ ((mI M2 (m1 + 1) x2.toNatClampNeg) = 13)) (g11 : ¬ ((mI M2 (m1 + 1) x2.toNatClampNeg) = 14)) (g15 : (mI M2 (m1 + 1) x2.toNatClampNeg) = 15) (g17 : ¬ (mI M (m1 + 4) x2.toNatClampNeg) = x116), some (aI 7) = v ∧ M8 = M')
    (k18 : ∀ (g2 : x101 ≤ (mI M (m1 + 4) x2.toNatClampNeg)) (g4 : (((mI M (m1 + 4) x2.toNatClampNeg) - x101) + x103) ≤ 100) (g5 : ¬ ((mI M2 (m1 + 1) x2.toNatClampNeg) = 12)) (g7 : ¬ ((mI M2 (m1 + 1) x2.toNatClampNeg) = 13)) (g11 : ¬ ((mI M2 (m1 + 1) x2.toNatClampNeg) = 14)) (g15 : ¬ ((mI M2 (m1 + 1) x2.toNatClampNeg) = 15)) (g19 : (mI M2 (m1 + 1) x2.toNatClampNeg) = 17) (g20 : (((mI M (m1 + 4) x2.toNatClampNeg) - x101) + x103) ≤ 0), some (aI 0) = v ∧ M2 = M')
    (k19 : ∀ (g2 : x101 ≤ (mI M (m1 + 4) x2.toNatClampNeg)) (g4 : (((mI M (m1 + 4) x2.toNatClampNeg) - x101) + x103) ≤ 100) (g5 : ¬ ((mI M2 (m1 + 1) x2.toNatClampNeg) = 12)) (g7 : ¬ ((mI M2 (m1 + 1) x2.toNatClampNeg) = 13)) (g11 : ¬ ((mI M2 (m1 + 1) x2.toNatClampNeg) = 14)) (g15 : ¬ ((mI M2 (m1 + 1) x2.toNatClampNeg) = 15)) (g19 : (mI M2 (m1 + 1) x2.toNatClampNeg) = 17) (g20 : ¬ ((((mI M (m1 + 4) x2.toNatClampNeg) - x101) + x103) ≤ 0)), some (aI 8) = v ∧ M2 = M')
    (c20 : ∀ (g2 : x101 ≤ (mI M (m1 + 4) x2.toNatClampNeg)) (g4 : (((mI M (m1 + 4) x2.toNatClampNeg) - x101) + x103) ≤ 100) (g5 : ¬ ((mI M2 (m1 + 1) x2.toNatClampNeg) = 12)) (g7 : ¬ ((mI M2 (m1 + 1) x2.toNatClampNeg) = 13)) (g11 : ¬ ((mI M2 (m1 + 1) x2.toNatClampNeg) = 14)) (g15 : ¬ ((mI M2 (m1 + 1) x2.toNatClampNeg) = 15)) (g19 : ¬ ((mI M2 (m1 + 1) x2.toNatClampNeg) = 17)), Ev K_X2_lead [aR (some 7), aR (some m1), aJ ((x2 + 1 : Int32).toInt64), aI (((mI M (m1 + 4) x2.toNatClampNeg) - x101) + x103)] M2 (some (aI x121)) M10)
    (k21 : ∀ (g2 : x101 ≤ (mI M (m1 + 4) x2.toNatClampNeg)) (g4 : (((mI M (m1 + 4) x2.toNatClampNeg) - x101) + x103) ≤ 100) (g5 : ¬ ((mI M2 (m1 + 1) x2.toNatClampNeg) = 12)) (g7 : ¬ ((mI M2 (m1 + 1) x2.toNatClampNeg) = 13)) (g11 : ¬ ((mI M2 (m1 + 1) x2.toNatClampNeg) = 14)) (g15 : ¬ ((mI M2 (m1 + 1) x2.toNatClampNeg) = 15)) (g19 : ¬ ((mI M2 (m1 + 1) x2.toNatClampNeg) = 17)), some (aI x121) = v ∧ M10 = M')
    (k22 : ∀ (g2 : x101 ≤ (mI M (m1 + 4) x2.toNatClampNeg)) (g4 : ¬ ((((mI M (m1 + 4) x2.toNatClampNeg) - x101) + x103) ≤ 100)), some (aI 6) = v ∧ M2 = M')
    (k23 : ∀ (g2 : ¬ (x101 ≤ (mI M (m1 + 4) x2.toNatClampNeg))), some (aI 5) = v ∧ M1 = M') :
    Ev K_X2_faultOfHeight [aR (some 7), aR (some m1), aI x2] M v M' := by
  refine ⟨Nat.le_of_ble_eq_true rfl, ?_⟩
  show E K_X2_faultOfHeight 0 [some (aR (some 7)), some (aR (some m1)), some (aI x2), none, none, none, none] [] M v M'
  refine e_aload_n dX2_faultOfHeight_0 rfl ?_
  refine e_getN ff_4_6 h_m1.l0 w380 dX2_faultOfHeight_1 (w := aR (some (m1 + 4))) h_m1.f6 ?_
  refine e_iload_n dX2_faultOfHeight_4 rfl ?_
  refine e_iald h_m1.l4 (h_m1.b4 b1) dX2_faultOfHeight_5 ?_
  refine e_istore_n dX2_faultOfHeight_6 (Nat.le_of_ble_eq_true rfl) ?_
  show E K_X2_faultOfHeight 7 [some (aR (some 7)), some (aR (some m1)), some (aI x2), some (aI (mI M (m1 + 4) x2.toNatClampNeg)), none, none, none] [] M v M'
  refine e_aload_n dX2_faultOfHeight_7 rfl ?_
  refine e_aload_n dX2_faultOfHeight_8 rfl ?_
  refine e_iload_n dX2_faultOfHeight_9 rfl ?_
  refine e_callV (As := [aR (some m1), aI x2]) (rest := []) vk_X2_takenBy hS.l7 w552 ⟨by decide, by decide⟩ (Nat.le_of_ble_eq_true rfl) dX2_faultOfHeight_10 c2 ?_
  show E K_X2_faultOfHeight 13 [some (aR (some 7)), some (aR (some m1)), some (aI x2), some (aI (mI M (m1 + 4) x2.toNatClampNeg)), none, none, none] [aI x101] M1 v M'
  have hS_1 : St M1 := St.sh (M := M) c2.2.1 hS
  have h_m1_1 : Mt M1 m1 := Mt.sh (M := M) c2.2.1 h_m1
  refine e_istore dX2_faultOfHeight_13 (Nat.le_of_ble_eq_true rfl) ?_
  show E K_X2_faultOfHeight 15 [some (aR (some 7)), some (aR (some m1)), some (aI x2), some (aI (mI M (m1 + 4) x2.toNatClampNeg)), some (aI x101), none, none] [] M1 v M'
  refine e_iload_n dX2_faultOfHeight_15 rfl ?_
  refine e_iload dX2_faultOfHeight_16 rfl ?_
  refine e_icmp_ge (tgt := 23) dX2_faultOfHeight_18 rfl (fun g2 => ?_) (fun g2 => ?_)
  ·
    refine e_iload_n dX2_faultOfHeight_23 rfl ?_
    refine e_iload dX2_faultOfHeight_24 rfl ?_
    refine e_isub dX2_faultOfHeight_26 ?_
    refine e_aload_n dX2_faultOfHeight_27 rfl ?_
    refine e_aload_n dX2_faultOfHeight_28 rfl ?_
    refine e_iload_n dX2_faultOfHeight_29 rfl ?_
    refine e_callV (As := [aR (some m1), aI x2]) (rest := [aI ((mI M (m1 + 4) x2.toNatClampNeg) - x101)]) vk_X2_givenBy hS_1.l7 w558 ⟨by decide, by decide⟩ (Nat.le_of_ble_eq_true rfl) dX2_faultOfHeight_30 (c3 g2) ?_
    show E K_X2_faultOfHeight 33 [some (aR (some 7)), some (aR (some m1)), some (aI x2), some (aI (mI M (m1 + 4) x2.toNatClampNeg)), some (aI x101), none, none] [aI x103, aI ((mI M (m1 + 4) x2.toNatClampNeg) - x101)] M2 v M'
    have hS_2 : St M2 := St.sh (M := M1) (c3 g2).2.1 hS_1
    have h_m1_1_2 : Mt M2 m1 := Mt.sh (M := M1) (c3 g2).2.1 h_m1_1
    refine e_iadd dX2_faultOfHeight_33 ?_
    refine e_istore dX2_faultOfHeight_34 (Nat.le_of_ble_eq_true rfl) ?_
    show E K_X2_faultOfHeight 36 [some (aR (some 7)), some (aR (some m1)), some (aI x2), some (aI (mI M (m1 + 4) x2.toNatClampNeg)), some (aI x101), some (aI (((mI M (m1 + 4) x2.toNatClampNeg) - x101) + x103)), none] [] M2 v M'
    refine e_iload dX2_faultOfHeight_36 rfl ?_
    refine e_bipush (u := 100) dX2_faultOfHeight_38 (by decide) ?_
    refine e_icmp_le (tgt := 46) dX2_faultOfHeight_40 rfl (fun g4 => ?_) (fun g4 => ?_)
    ·
      refine e_aload_n dX2_faultOfHeight_46 rfl ?_
      refine e_getN ff_4_3 h_m1_1_2.l0 w366 dX2_faultOfHeight_47 (w := aR (some (m1 + 1))) h_m1_1_2.f3 ?_
      refine e_iload_n dX2_faultOfHeight_50 rfl ?_
      refine e_iald h_m1_1_2.l1 (h_m1_1_2.b1 b1) dX2_faultOfHeight_51 ?_
      refine e_tsw (d := 221) (tg := [92, 106, 143, 178, 221, 209]) dX2_faultOfHeight_52 rfl rfl rfl ?_
      by_cases g5 : (mI M2 (m1 + 1) x2.toNatClampNeg) = 12
      · have e9 : tsw 12 [92, 106, 143, 178, 221, 209] 221 (mI M2 (m1 + 1) x2.toNatClampNeg) = 92 := by rw [g5]; rfl
        rw [e9]
        refine e_aload_n dX2_faultOfHeight_92 rfl ?_
        refine e_aload_n dX2_faultOfHeight_93 rfl ?_
        refine e_aload_n dX2_faultOfHeight_94 rfl ?_
        refine e_getN ff_4_4 h_m1_1_2.l0 w372 dX2_faultOfHeight_95 (w := aR (some (m1 + 2))) h_m1_1_2.f4 ?_
        refine e_iload_n dX2_faultOfHeight_98 rfl ?_
        refine e_lald h_m1_1_2.l2 (h_m1_1_2.b2 b1) dX2_faultOfHeight_99 ?_
        refine e_iload dX2_faultOfHeight_100 rfl ?_
        refine e_callV (As := [aR (some m1), aJ (mJ M2 (m1 + 2) x2.toNatClampNeg), aI (((mI M (m1 + 4) x2.toNatClampNeg) - x101) + x103)]) (rest := []) vk_X2_lead hS_2.l7 w564 ⟨by decide, by decide⟩ (Nat.le_of_ble_eq_true rfl) dX2_faultOfHeight_102 (c4 g2 g4 g5) ?_
        show E K_X2_faultOfHeight 105 [some (aR (some 7)), some (aR (some m1)), some (aI x2), some (aI (mI M (m1 + 4) x2.toNatClampNeg)), some (aI x101), some (aI (((mI M (m1 + 4) x2.toNatClampNeg) - x101) + x103)), none] [aI x106] M3 v M'
        have hS_3 : St M3 := St.sh (M := M2) (c4 g2 g4 g5).2.1 hS_2
        have h_m1_1_2_3 : Mt M3 m1 := Mt.sh (M := M2) (c4 g2 g4 g5).2.1 h_m1_1_2
        exact e_iret rfl dX2_faultOfHeight_105 (k5 g2 g4 g5)
      by_cases g7 : (mI M2 (m1 + 1) x2.toNatClampNeg) = 13
      · have e9 : tsw 12 [92, 106, 143, 178, 221, 209] 221 (mI M2 (m1 + 1) x2.toNatClampNeg) = 106 := by rw [g7]; rfl
        rw [e9]
        refine e_aload_n dX2_faultOfHeight_106 rfl ?_
        refine e_aload_n dX2_faultOfHeight_107 rfl ?_
        refine e_aload_n dX2_faultOfHeight_108 rfl ?_
        refine e_getN ff_4_4 h_m1_1_2.l0 w372 dX2_faultOfHeight_109 (w := aR (some (m1 + 2))) h_m1_1_2.f4 ?_
        refine e_iload_n dX2_faultOfHeight_112 rfl ?_
        refine e_lald h_m1_1_2.l2 (h_m1_1_2.b2 b1) dX2_faultOfHeight_113 ?_
        refine e_iload dX2_faultOfHeight_114 rfl ?_
        refine e_callV (As := [aR (some m1), aJ (mJ M2 (m1 + 2) x2.toNatClampNeg), aI (((mI M (m1 + 4) x2.toNatClampNeg) - x101) + x103)]) (rest := []) vk_X2_lead hS_2.l7 w564 ⟨by decide, by decide⟩ (Nat.le_of_ble_eq_true rfl) dX2_faultOfHeight_116 (c6 g2 g4 g5 g7) ?_
        show E K_X2_faultOfHeight 119 [some (aR (some 7)), some (aR (some m1)), some (aI x2), some (aI (mI M (m1 + 4) x2.toNatClampNeg)), some (aI x101), some (aI (((mI M (m1 + 4) x2.toNatClampNeg) - x101) + x103)), none] [aI x108] M4 v M'
        have hS_4 : St M4 := St.sh (M := M2) (c6 g2 g4 g5 g7).2.1 hS_2
        have h_m1_1_2_4 : Mt M4 m1 := Mt.sh (M := M2) (c6 g2 g4 g5 g7).2.1 h_m1_1_2
        refine e_istore dX2_faultOfHeight_119 (Nat.le_of_ble_eq_true rfl) ?_
        show E K_X2_faultOfHeight 121 [some (aR (some 7)), some (aR (some m1)), some (aI x2), some (aI (mI M (m1 + 4) x2.toNatClampNeg)), some (aI x101), some (aI (((mI M (m1 + 4) x2.toNatClampNeg) - x101) + x103)), some (aI x108)] [] M4 v M'
        refine e_iload dX2_faultOfHeight_121 rfl ?_
        refine e_if_eq (tgt := 131) dX2_faultOfHeight_123 rfl (fun g9 => ?_) (fun g9 => ?_)
        ·
          refine e_aload_n dX2_faultOfHeight_131 rfl ?_
          refine e_aload_n dX2_faultOfHeight_132 rfl ?_
          refine e_iload_n dX2_faultOfHeight_133 rfl ?_
          refine e_iconst (u := 1) dX2_faultOfHeight_134 (by decide) ?_
          refine e_iadd dX2_faultOfHeight_135 ?_
          refine e_i2l dX2_faultOfHeight_136 ?_
          refine e_iload dX2_faultOfHeight_137 rfl ?_
          refine e_callV (As := [aR (some m1), aJ ((x2 + 1 : Int32).toInt64), aI (((mI M (m1 + 4) x2.toNatClampNeg) - x101) + x103)]) (rest := []) vk_X2_lead hS_4.l7 w564 ⟨by decide, by decide⟩ (Nat.le_of_ble_eq_true rfl) dX2_faultOfHeight_139 (c7 g2 g4 g5 g7 g9) ?_
          show E K_X2_faultOfHeight 142 [some (aR (some 7)), some (aR (some m1)), some (aI x2), some (aI (mI M (m1 + 4) x2.toNatClampNeg)), some (aI x101), some (aI (((mI M (m1 + 4) x2.toNatClampNeg) - x101) + x103)), some (aI x108)] [aI x110] M5 v M'
          have hS_5 : St M5 := St.sh (M := M4) (c7 g2 g4 g5 g7 g9).2.1 hS_4
          have h_m1_1_2_4_5 : Mt M5 m1 := Mt.sh (M := M4) (c7 g2 g4 g5 g7 g9).2.1 h_m1_1_2_4
          exact e_iret rfl dX2_faultOfHeight_142 (k8 g2 g4 g5 g7 g9)
        ·
          refine e_iload dX2_faultOfHeight_126 rfl ?_
          refine e_goto (tgt := 142) dX2_faultOfHeight_128 rfl ?_
          exact e_iret rfl dX2_faultOfHeight_142 (k9 g2 g4 g5 g7 g9)
      by_cases g11 : (mI M2 (m1 + 1) x2.toNatClampNeg) = 14
      · have e9 : tsw 12 [92, 106, 143, 178, 221, 209] 221 (mI M2 (m1 + 1) x2.toNatClampNeg) = 143 := by rw [g11]; rfl
        rw [e9]
        refine e_aload_n dX2_faultOfHeight_143 rfl ?_
        refine e_aload_n dX2_faultOfHeight_144 rfl ?_
        refine e_aload_n dX2_faultOfHeight_145 rfl ?_
        refine e_getN ff_4_4 h_m1_1_2.l0 w372 dX2_faultOfHeight_146 (w := aR (some (m1 + 2))) h_m1_1_2.f4 ?_
        refine e_iload_n dX2_faultOfHeight_149 rfl ?_
        refine e_lald h_m1_1_2.l2 (h_m1_1_2.b2 b1) dX2_faultOfHeight_150 ?_
        refine e_lconst (u := 0) dX2_faultOfHeight_151 (by decide) ?_
        refine e_lcmp_le (tgt := 163) dX2_faultOfHeight_152 dX2_faultOfHeight_153 rfl (fun g12 => ?_) (fun g12 => ?_)
        ·
          refine e_aload_n dX2_faultOfHeight_163 rfl ?_
          refine e_getN ff_4_5 h_m1_1_2.l0 w375 dX2_faultOfHeight_164 (w := aR (some (m1 + 3))) h_m1_1_2.f5 ?_
          refine e_iload_n dX2_faultOfHeight_167 rfl ?_
          refine e_iald h_m1_1_2.l3 (h_m1_1_2.b3 b1) dX2_faultOfHeight_168 ?_
          refine e_iconst (u := 1) dX2_faultOfHeight_169 (by decide) ?_
          refine e_iadd dX2_faultOfHeight_170 ?_
          refine e_i2l dX2_faultOfHeight_171 ?_
          refine e_iload dX2_faultOfHeight_172 rfl ?_
          refine e_callV (As := [aR (some m1), aJ (((mI M2 (m1 + 3) x2.toNatClampNeg) + 1 : Int32).toInt64), aI (((mI M (m1 + 4) x2.toNatClampNeg) - x101) + x103)]) (rest := []) vk_X2_lead hS_2.l7 w564 ⟨by decide, by decide⟩ (Nat.le_of_ble_eq_true rfl) dX2_faultOfHeight_174 (c10 g2 g4 g5 g7 g11 g12) ?_
          show E K_X2_faultOfHeight 177 [some (aR (some 7)), some (aR (some m1)), some (aI x2), some (aI (mI M (m1 + 4) x2.toNatClampNeg)), some (aI x101), some (aI (((mI M (m1 + 4) x2.toNatClampNeg) - x101) + x103)), none] [aI x113] M6 v M'
          have hS_6 : St M6 := St.sh (M := M2) (c10 g2 g4 g5 g7 g11 g12).2.1 hS_2
          have h_m1_1_2_6 : Mt M6 m1 := Mt.sh (M := M2) (c10 g2 g4 g5 g7 g11 g12).2.1 h_m1_1_2
          exact e_iret rfl dX2_faultOfHeight_177 (k11 g2 g4 g5 g7 g11 g12)
        ·
          refine e_iload_n dX2_faultOfHeight_156 rfl ?_
          refine e_iconst (u := 1) dX2_faultOfHeight_157 (by decide) ?_
          refine e_iadd dX2_faultOfHeight_158 ?_
          refine e_i2l dX2_faultOfHeight_159 ?_
          refine e_goto (tgt := 172) dX2_faultOfHeight_160 rfl ?_
          refine e_iload dX2_faultOfHeight_172 rfl ?_
          refine e_callV (As := [aR (some m1), aJ ((x2 + 1 : Int32).toInt64), aI (((mI M (m1 + 4) x2.toNatClampNeg) - x101) + x103)]) (rest := []) vk_X2_lead hS_2.l7 w564 ⟨by decide, by decide⟩ (Nat.le_of_ble_eq_true rfl) dX2_faultOfHeight_174 (c12 g2 g4 g5 g7 g11 g12) ?_
          show E K_X2_faultOfHeight 177 [some (aR (some 7)), some (aR (some m1)), some (aI x2), some (aI (mI M (m1 + 4) x2.toNatClampNeg)), some (aI x101), some (aI (((mI M (m1 + 4) x2.toNatClampNeg) - x101) + x103)), none] [aI x114] M7 v M'
          have hS_7 : St M7 := St.sh (M := M2) (c12 g2 g4 g5 g7 g11 g12).2.1 hS_2
          have h_m1_1_2_7 : Mt M7 m1 := Mt.sh (M := M2) (c12 g2 g4 g5 g7 g11 g12).2.1 h_m1_1_2
          exact e_iret rfl dX2_faultOfHeight_177 (k13 g2 g4 g5 g7 g11 g12)
      by_cases g15 : (mI M2 (m1 + 1) x2.toNatClampNeg) = 15
      · have e9 : tsw 12 [92, 106, 143, 178, 221, 209] 221 (mI M2 (m1 + 1) x2.toNatClampNeg) = 178 := by rw [g15]; rfl
        rw [e9]
        refine e_iload_n dX2_faultOfHeight_178 rfl ?_
        refine e_aload_n dX2_faultOfHeight_179 rfl ?_
        refine e_aload_n dX2_faultOfHeight_180 rfl ?_
        refine e_getN ff_4_5 h_m1_1_2.l0 w375 dX2_faultOfHeight_181 (w := aR (some (m1 + 3))) h_m1_1_2.f5 ?_
        refine e_iload_n dX2_faultOfHeight_184 rfl ?_
        refine e_iald h_m1_1_2.l3 (h_m1_1_2.b3 b1) dX2_faultOfHeight_185 ?_
        refine e_callV (As := [aI (mI M2 (m1 + 3) x2.toNatClampNeg)]) (rest := [aI (mI M (m1 + 4) x2.toNatClampNeg)]) vk_X4_heightAt h_m1_1_2.l0 w568 ⟨by decide, by decide⟩ (Nat.le_of_ble_eq_true rfl) dX2_faultOfHeight_186 (c14 g2 g4 g5 g7 g11 g15) ?_
        show E K_X2_faultOfHeight 189 [some (aR (some 7)), some (aR (some m1)), some (aI x2), some (aI (mI M (m1 + 4) x2.toNatClampNeg)), some (aI x101), some (aI (((mI M (m1 + 4) x2.toNatClampNeg) - x101) + x103)), none] [aI x116, aI (mI M (m1 + 4) x2.toNatClampNeg)] M8 v M'
        have hS_8 : St M8 := St.sh (M := M2) (c14 g2 g4 g5 g7 g11 g15).2.1 hS_2
        have h_m1_1_2_8 : Mt M8 m1 := Mt.sh (M := M2) (c14 g2 g4 g5 g7 g11 g15).2.1 h_m1_1_2
        refine e_icmp_eq (tgt := 197) dX2_faultOfHeight_189 rfl (fun g17 => ?_) (fun g17 => ?_)
        ·
          refine e_aload_n dX2_faultOfHeight_197 rfl ?_
          refine e_aload_n dX2_faultOfHeight_198 rfl ?_
          refine e_iload_n dX2_faultOfHeight_199 rfl ?_
          refine e_iconst (u := 1) dX2_faultOfHeight_200 (by decide) ?_
          refine e_iadd dX2_faultOfHeight_201 ?_
          refine e_i2l dX2_faultOfHeight_202 ?_
          refine e_iload dX2_faultOfHeight_203 rfl ?_
          refine e_callV (As := [aR (some m1), aJ ((x2 + 1 : Int32).toInt64), aI (((mI M (m1 + 4) x2.toNatClampNeg) - x101) + x103)]) (rest := []) vk_X2_lead hS_8.l7 w564 ⟨by decide, by decide⟩ (Nat.le_of_ble_eq_true rfl) dX2_faultOfHeight_205 (c15 g2 g4 g5 g7 g11 g15 g17) ?_
          show E K_X2_faultOfHeight 208 [some (aR (some 7)), some (aR (some m1)), some (aI x2), some (aI (mI M (m1 + 4) x2.toNatClampNeg)), some (aI x101), some (aI (((mI M (m1 + 4) x2.toNatClampNeg) - x101) + x103)), none] [aI x118] M9 v M'
          have hS_9 : St M9 := St.sh (M := M8) (c15 g2 g4 g5 g7 g11 g15 g17).2.1 hS_8
          have h_m1_1_2_8_9 : Mt M9 m1 := Mt.sh (M := M8) (c15 g2 g4 g5 g7 g11 g15 g17).2.1 h_m1_1_2_8
          exact e_iret rfl dX2_faultOfHeight_208 (k16 g2 g4 g5 g7 g11 g15 g17)
        ·
          refine e_bipush (u := 7) dX2_faultOfHeight_192 (by decide) ?_
          refine e_goto (tgt := 208) dX2_faultOfHeight_194 rfl ?_
          exact e_iret rfl dX2_faultOfHeight_208 (k17 g2 g4 g5 g7 g11 g15 g17)
      by_cases g19 : (mI M2 (m1 + 1) x2.toNatClampNeg) = 17
      · have e9 : tsw 12 [92, 106, 143, 178, 221, 209] 221 (mI M2 (m1 + 1) x2.toNatClampNeg) = 209 := by rw [g19]; rfl
        rw [e9]
        refine e_iload dX2_faultOfHeight_209 rfl ?_
        refine e_if_le (tgt := 219) dX2_faultOfHeight_211 rfl (fun g20 => ?_) (fun g20 => ?_)
        ·
          refine e_iconst (u := 0) dX2_faultOfHeight_219 (by decide) ?_
          exact e_iret rfl dX2_faultOfHeight_220 (k18 g2 g4 g5 g7 g11 g15 g19 g20)
        ·
          refine e_bipush (u := 8) dX2_faultOfHeight_214 (by decide) ?_
          refine e_goto (tgt := 220) dX2_faultOfHeight_216 rfl ?_
          exact e_iret rfl dX2_faultOfHeight_220 (k19 g2 g4 g5 g7 g11 g15 g19 g20)
      have e9 : tsw 12 [92, 106, 143, 178, 221, 209] 221 (mI M2 (m1 + 1) x2.toNatClampNeg) = 221 := tsw_out [12, 13, 14, 15, 17] (by decide) (by
          simp only [List.mem_cons, List.not_mem_nil, or_false, forall_eq_or_imp, forall_eq]
          skip
          exact ⟨g5, g7, g11, g15, g19⟩)
      rw [e9]
      refine e_aload_n dX2_faultOfHeight_221 rfl ?_
      refine e_aload_n dX2_faultOfHeight_222 rfl ?_
      refine e_iload_n dX2_faultOfHeight_223 rfl ?_
      refine e_iconst (u := 1) dX2_faultOfHeight_224 (by decide) ?_
      refine e_iadd dX2_faultOfHeight_225 ?_
      refine e_i2l dX2_faultOfHeight_226 ?_
      refine e_iload dX2_faultOfHeight_227 rfl ?_
      refine e_callV (As := [aR (some m1), aJ ((x2 + 1 : Int32).toInt64), aI (((mI M (m1 + 4) x2.toNatClampNeg) - x101) + x103)]) (rest := []) vk_X2_lead hS_2.l7 w564 ⟨by decide, by decide⟩ (Nat.le_of_ble_eq_true rfl) dX2_faultOfHeight_229 (c20 g2 g4 g5 g7 g11 g15 g19) ?_
      show E K_X2_faultOfHeight 232 [some (aR (some 7)), some (aR (some m1)), some (aI x2), some (aI (mI M (m1 + 4) x2.toNatClampNeg)), some (aI x101), some (aI (((mI M (m1 + 4) x2.toNatClampNeg) - x101) + x103)), none] [aI x121] M10 v M'
      have hS_10 : St M10 := St.sh (M := M2) (c20 g2 g4 g5 g7 g11 g15 g19).2.1 hS_2
      have h_m1_1_2_10 : Mt M10 m1 := Mt.sh (M := M2) (c20 g2 g4 g5 g7 g11 g15 g19).2.1 h_m1_1_2
      exact e_iret rfl dX2_faultOfHeight_232 (k21 g2 g4 g5 g7 g11 g15 g19)
    ·
      refine e_bipush (u := 6) dX2_faultOfHeight_43 (by decide) ?_
      exact e_iret rfl dX2_faultOfHeight_45 (k22 g2 g4)
  ·
    refine e_iconst (u := 5) dX2_faultOfHeight_21 (by decide) ?_
    exact e_iret rfl dX2_faultOfHeight_22 (k23 g2)

set_option maxRecDepth 20000 in
theorem s_X2_lead_0 {M M' : AM} {v : Option AV} {m1 : Nat} {x2 : Int64} {x4 : Int32} {M1 : AM} {x101 : Int32} (hS : St M) (h_m1 : Mt M m1)
    (c1 : Ev K_X4_has [aR (some m1), aJ x2] M (some (aI x101)) M1)
    (b2 : ∀ (g2 : ¬ x101 = 0), vp_in ((x2 : Int64).toInt32) 120)
    (k3 : ∀ (g2 : ¬ x101 = 0) (g3 : (mI M1 (m1 + 4) ((x2 : Int64).toInt32).toNatClampNeg) = (-1)), some (aI 0) = v ∧ (wrI M1 (m1 + 4) ((x2 : Int64).toInt32).toNatClampNeg x4) = M')
    (k4 : ∀ (g2 : ¬ x101 = 0) (g3 : ¬ (mI M1 (m1 + 4) ((x2 : Int64).toInt32).toNatClampNeg) = (-1)) (g4 : (mI M1 (m1 + 4) ((x2 : Int64).toInt32).toNatClampNeg) = x4), some (aI 0) = v ∧ (wrI M1 (m1 + 4) ((x2 : Int64).toInt32).toNatClampNeg x4) = M')
    (k5 : ∀ (g2 : ¬ x101 = 0) (g3 : ¬ (mI M1 (m1 + 4) ((x2 : Int64).toInt32).toNatClampNeg) = (-1)) (g4 : ¬ (mI M1 (m1 + 4) ((x2 : Int64).toInt32).toNatClampNeg) = x4), some (aI 7) = v ∧ M1 = M')
    (k6 : ∀ (g2 : x101 = 0), some (aI 9) = v ∧ M1 = M') :
    Ev K_X2_lead [aR (some 7), aR (some m1), aJ x2, aI x4] M v M' := by
  refine ⟨Nat.le_of_ble_eq_true rfl, ?_⟩
  show E K_X2_lead 0 [some (aR (some 7)), some (aR (some m1)), some (aJ x2), none, some (aI x4), none] [] M v M'
  refine e_aload_n dX2_lead_0 rfl ?_
  refine e_lload_n dX2_lead_1 rfl ?_
  refine e_callV (As := [aJ x2]) (rest := []) vk_X4_has h_m1.l0 w536 ⟨by decide, by decide⟩ (Nat.le_of_ble_eq_true rfl) dX2_lead_2 c1 ?_
  show E K_X2_lead 5 [some (aR (some 7)), some (aR (some m1)), some (aJ x2), none, some (aI x4), none] [aI x101] M1 v M'
  have hS_1 : St M1 := St.sh (M := M) c1.2.1 hS
  have h_m1_1 : Mt M1 m1 := Mt.sh (M := M) c1.2.1 h_m1
  refine e_if_ne (tgt := 11) dX2_lead_5 rfl (fun g2 => ?_) (fun g2 => ?_)
  ·
    refine e_lload_n dX2_lead_11 rfl ?_
    refine e_l2i dX2_lead_12 ?_
    refine e_istore dX2_lead_13 (Nat.le_of_ble_eq_true rfl) ?_
    show E K_X2_lead 15 [some (aR (some 7)), some (aR (some m1)), some (aJ x2), none, some (aI x4), some (aI ((x2 : Int64).toInt32))] [] M1 v M'
    refine e_aload_n dX2_lead_15 rfl ?_
    refine e_getN ff_4_6 h_m1_1.l0 w380 dX2_lead_16 (w := aR (some (m1 + 4))) h_m1_1.f6 ?_
    refine e_iload dX2_lead_19 rfl ?_
    refine e_iald h_m1_1.l4 (h_m1_1.b4 (b2 g2)) dX2_lead_21 ?_
    refine e_iconst (u := (-1)) dX2_lead_22 (by decide) ?_
    refine e_icmp_eq (tgt := 41) dX2_lead_23 rfl (fun g3 => ?_) (fun g3 => ?_)
    ·
      refine e_aload_n dX2_lead_41 rfl ?_
      refine e_getN ff_4_6 h_m1_1.l0 w380 dX2_lead_42 (w := aR (some (m1 + 4))) h_m1_1.f6 ?_
      refine e_iload dX2_lead_45 rfl ?_
      refine e_iload dX2_lead_47 rfl ?_
      refine e_iast h_m1_1.l4 (h_m1_1.b4 (b2 g2)) dX2_lead_49 ?_
      refine e_iconst (u := 0) dX2_lead_50 (by decide) ?_
      exact e_iret rfl dX2_lead_51 (k3 g2 g3)
    ·
      refine e_aload_n dX2_lead_26 rfl ?_
      refine e_getN ff_4_6 h_m1_1.l0 w380 dX2_lead_27 (w := aR (some (m1 + 4))) h_m1_1.f6 ?_
      refine e_iload dX2_lead_30 rfl ?_
      refine e_iald h_m1_1.l4 (h_m1_1.b4 (b2 g2)) dX2_lead_32 ?_
      refine e_iload dX2_lead_33 rfl ?_
      refine e_icmp_eq (tgt := 41) dX2_lead_35 rfl (fun g4 => ?_) (fun g4 => ?_)
      ·
        refine e_aload_n dX2_lead_41 rfl ?_
        refine e_getN ff_4_6 h_m1_1.l0 w380 dX2_lead_42 (w := aR (some (m1 + 4))) h_m1_1.f6 ?_
        refine e_iload dX2_lead_45 rfl ?_
        refine e_iload dX2_lead_47 rfl ?_
        refine e_iast h_m1_1.l4 (h_m1_1.b4 (b2 g2)) dX2_lead_49 ?_
        refine e_iconst (u := 0) dX2_lead_50 (by decide) ?_
        exact e_iret rfl dX2_lead_51 (k4 g2 g3 g4)
      ·
        refine e_bipush (u := 7) dX2_lead_38 (by decide) ?_
        exact e_iret rfl dX2_lead_40 (k5 g2 g3 g4)
  ·
    refine e_bipush (u := 9) dX2_lead_8 (by decide) ?_
    exact e_iret rfl dX2_lead_10 (k6 g2)

set_option maxRecDepth 20000 in
theorem s_X2_takenBy_0 {M M' : AM} {v : Option AV} {m1 : Nat} {x2 : Int32} {M1 : AM} {o103 : Option Nat} {M2 : AM} {x105 : Int32} (hS : St M) (h_m1 : Mt M m1)
    (b1 : vp_in x2 120)
    (k2 : ∀ (g1 : (mI M (m1 + 1) x2.toNatClampNeg) = 11), some (aI (((mJ M (m1 + 2) x2.toNatClampNeg : Int64).toInt32) + 1)) = v ∧ M = M')
    (c3 : ∀ (g1 : ¬ ((mI M (m1 + 1) x2.toNatClampNeg) = 11)) (g2 : (mI M (m1 + 1) x2.toNatClampNeg) = 16), Ev K_X5_find [aR (some 4), aJ (mJ M (m1 + 2) x2.toNatClampNeg)] M (some (aR o103)) M1)
    (h4 : ∀ (g1 : ¬ ((mI M (m1 + 1) x2.toNatClampNeg) = 11)) (g2 : (mI M (m1 + 1) x2.toNatClampNeg) = 16) (r103 : Nat) (q103 : o103 = some r103), Mt M1 r103)
    (k5 : ∀ (g1 : ¬ ((mI M (m1 + 1) x2.toNatClampNeg) = 11)) (g2 : (mI M (m1 + 1) x2.toNatClampNeg) = 16) (r103 : Nat) (q103 : o103 = some r103), some (aI (mI M1 r103 0)) = v ∧ M1 = M')
    (k6 : ∀ (g1 : ¬ ((mI M (m1 + 1) x2.toNatClampNeg) = 11)) (g2 : (mI M (m1 + 1) x2.toNatClampNeg) = 16) (q103 : o103 = none), some (aI 0) = v ∧ M1 = M')
    (k7 : ∀ (g1 : ¬ ((mI M (m1 + 1) x2.toNatClampNeg) = 11)) (g2 : ¬ ((mI M (m1 + 1) x2.toNatClampNeg) = 16)) (g4 : (mI M (m1 + 1) x2.toNatClampNeg) = 17), some (aI (mI M m1 1)) = v ∧ M = M')
    (c8 : ∀ (g1 : ¬ ((mI M (m1 + 1) x2.toNatClampNeg) = 11)) (g2 : ¬ ((mI M (m1 + 1) x2.toNatClampNeg) = 16)) (g4 : ¬ ((mI M (m1 + 1) x2.toNatClampNeg) = 17)), Ev K_X6_isOperation [aI (mI M (m1 + 1) x2.toNatClampNeg)] M (some (aI x105)) M2)
    (k9 : ∀ (g1 : ¬ ((mI M (m1 + 1) x2.toNatClampNeg) = 11)) (g2 : ¬ ((mI M (m1 + 1) x2.toNatClampNeg) = 16)) (g4 : ¬ ((mI M (m1 + 1) x2.toNatClampNeg) = 17)) (g6 : x105 = 0), some (aI 0) = v ∧ M2 = M')
    (b10 : ∀ (g1 : ¬ ((mI M (m1 + 1) x2.toNatClampNeg) = 11)) (g2 : ¬ ((mI M (m1 + 1) x2.toNatClampNeg) = 16)) (g4 : ¬ ((mI M (m1 + 1) x2.toNatClampNeg) = 17)) (g6 : ¬ x105 = 0), vp_in (mI M2 (m1 + 1) x2.toNatClampNeg) 18)
    (k11 : ∀ (g1 : ¬ ((mI M (m1 + 1) x2.toNatClampNeg) = 11)) (g2 : ¬ ((mI M (m1 + 1) x2.toNatClampNeg) = 16)) (g4 : ¬ ((mI M (m1 + 1) x2.toNatClampNeg) = 17)) (g6 : ¬ x105 = 0), some (aI (tkI (mI M2 (m1 + 1) x2.toNatClampNeg).toNatClampNeg)) = v ∧ M2 = M') :
    Ev K_X2_takenBy [aR (some 7), aR (some m1), aI x2] M v M' := by
  refine ⟨Nat.le_of_ble_eq_true rfl, ?_⟩
  show E K_X2_takenBy 0 [some (aR (some 7)), some (aR (some m1)), some (aI x2), none] [] M v M'
  refine e_aload_n dX2_takenBy_0 rfl ?_
  refine e_getN ff_4_3 h_m1.l0 w366 dX2_takenBy_1 (w := aR (some (m1 + 1))) h_m1.f3 ?_
  refine e_iload_n dX2_takenBy_4 rfl ?_
  refine e_iald h_m1.l1 (h_m1.b1 b1) dX2_takenBy_5 ?_
  refine e_lsw (d := 82) (qs := [(11, 40), (16, 50), (17, 77)]) dX2_takenBy_6 rfl rfl rfl ?_
  by_cases g1 : (mI M (m1 + 1) x2.toNatClampNeg) = 11
  · have e9 : lsw [(11, 40), (16, 50), (17, 77)] 82 (mI M (m1 + 1) x2.toNatClampNeg) = 40 := by rw [g1]; rfl
    rw [e9]
    refine e_aload_n dX2_takenBy_40 rfl ?_
    refine e_getN ff_4_4 h_m1.l0 w372 dX2_takenBy_41 (w := aR (some (m1 + 2))) h_m1.f4 ?_
    refine e_iload_n dX2_takenBy_44 rfl ?_
    refine e_lald h_m1.l2 (h_m1.b2 b1) dX2_takenBy_45 ?_
    refine e_l2i dX2_takenBy_46 ?_
    refine e_iconst (u := 1) dX2_takenBy_47 (by decide) ?_
    refine e_iadd dX2_takenBy_48 ?_
    exact e_iret rfl dX2_takenBy_49 (k2 g1)
  by_cases g2 : (mI M (m1 + 1) x2.toNatClampNeg) = 16
  · have e9 : lsw [(11, 40), (16, 50), (17, 77)] 82 (mI M (m1 + 1) x2.toNatClampNeg) = 50 := by rw [g2]; rfl
    rw [e9]
    refine e_aload_n dX2_takenBy_50 rfl ?_
    refine e_get ff_2_0 hS.l7 w119 dX2_takenBy_51 (w := aR (some 4)) hS.f7_0 ?_
    refine e_aload_n dX2_takenBy_54 rfl ?_
    refine e_getN ff_4_4 h_m1.l0 w372 dX2_takenBy_55 (w := aR (some (m1 + 2))) h_m1.f4 ?_
    refine e_iload_n dX2_takenBy_58 rfl ?_
    refine e_lald h_m1.l2 (h_m1.b2 b1) dX2_takenBy_59 ?_
    refine e_callV (As := [aJ (mJ M (m1 + 2) x2.toNatClampNeg)]) (rest := []) vk_X5_find hS.l4 w510 ⟨by decide, by decide⟩ (Nat.le_of_ble_eq_true rfl) dX2_takenBy_60 (c3 g1 g2) ?_
    show E K_X2_takenBy 63 [some (aR (some 7)), some (aR (some m1)), some (aI x2), none] [aR o103] M1 v M'
    have hS_1 : St M1 := St.sh (M := M) (c3 g1 g2).2.1 hS
    have h_m1_1 : Mt M1 m1 := Mt.sh (M := M) (c3 g1 g2).2.1 h_m1
    refine e_astore_n dX2_takenBy_63 (Nat.le_of_ble_eq_true rfl) ?_
    show E K_X2_takenBy 64 [some (aR (some 7)), some (aR (some m1)), some (aI x2), some (aR o103)] [] M1 v M'
    refine e_aload_n dX2_takenBy_64 rfl ?_
    refine e_ifnonnull (tgt := 72) dX2_takenBy_65 rfl (fun z => ?_) (fun z => ?_)
    ·
      obtain ⟨r103, q103⟩ : ∃ r, o103 = some r := by cases o103 with | none => exact absurd rfl z | some r => exact ⟨r, rfl⟩
      have h_r103 : Mt M1 r103 := (h4 g1 g2 r103 q103)
      rw [q103]
      refine e_aload_n dX2_takenBy_72 rfl ?_
      refine e_getN ff_4_0 h_r103.l0 w355 dX2_takenBy_73 (w := aI (mI M1 r103 0)) rfl ?_
      exact e_iret rfl dX2_takenBy_76 (k5 g1 g2 r103 q103)
    ·
      have q103 : o103 = none := z
      refine e_iconst (u := 0) dX2_takenBy_68 (by decide) ?_
      refine e_goto (tgt := 76) dX2_takenBy_69 rfl ?_
      exact e_iret rfl dX2_takenBy_76 (k6 g1 g2 q103)
  by_cases g4 : (mI M (m1 + 1) x2.toNatClampNeg) = 17
  · have e9 : lsw [(11, 40), (16, 50), (17, 77)] 82 (mI M (m1 + 1) x2.toNatClampNeg) = 77 := by rw [g4]; rfl
    rw [e9]
    refine e_aload_n dX2_takenBy_77 rfl ?_
    refine e_getN ff_4_1 h_m1.l0 w359 dX2_takenBy_78 (w := aI (mI M m1 1)) rfl ?_
    exact e_iret rfl dX2_takenBy_81 (k7 g1 g2 g4)
  have e9 : lsw [(11, 40), (16, 50), (17, 77)] 82 (mI M (m1 + 1) x2.toNatClampNeg) = 82 := lsw_out [11, 16, 17] (by decide) (by
      simp only [List.mem_cons, List.not_mem_nil, or_false, forall_eq_or_imp, forall_eq]
      skip
      exact ⟨g1, g2, g4⟩)
  rw [e9]
  refine e_aload_n dX2_takenBy_82 rfl ?_
  refine e_getN ff_4_3 h_m1.l0 w366 dX2_takenBy_83 (w := aR (some (m1 + 1))) h_m1.f3 ?_
  refine e_iload_n dX2_takenBy_86 rfl ?_
  refine e_iald h_m1.l1 (h_m1.b1 b1) dX2_takenBy_87 ?_
  refine e_callSN (As := [aI (mI M (m1 + 1) x2.toNatClampNeg)]) (rest := []) sk_X6_isOperation w538 ⟨by decide, by decide⟩ (Nat.le_of_ble_eq_true rfl) dX2_takenBy_88 (c8 g1 g2 g4) ?_
  show E K_X2_takenBy 91 [some (aR (some 7)), some (aR (some m1)), some (aI x2), none] [aI x105] M2 v M'
  have hS_2 : St M2 := St.sh (M := M) (c8 g1 g2 g4).2.1 hS
  have h_m1_2 : Mt M2 m1 := Mt.sh (M := M) (c8 g1 g2 g4).2.1 h_m1
  refine e_if_eq (tgt := 107) dX2_takenBy_91 rfl (fun g6 => ?_) (fun g6 => ?_)
  ·
    refine e_iconst (u := 0) dX2_takenBy_107 (by decide) ?_
    exact e_iret rfl dX2_takenBy_108 (k9 g1 g2 g4 g6)
  ·
    refine e_getsTAKES w556 dX2_takenBy_94 ?_
    refine e_aload_n dX2_takenBy_97 rfl ?_
    refine e_getN ff_4_3 h_m1_2.l0 w366 dX2_takenBy_98 (w := aR (some (m1 + 1))) h_m1_2.f3 ?_
    refine e_iload_n dX2_takenBy_101 rfl ?_
    refine e_iald h_m1_2.l1 (h_m1_2.b1 b1) dX2_takenBy_102 ?_
    refine e_tk (b10 g1 g2 g4 g6) dX2_takenBy_103 ?_
    refine e_goto (tgt := 108) dX2_takenBy_104 rfl ?_
    exact e_iret rfl dX2_takenBy_108 (k11 g1 g2 g4 g6)

set_option maxRecDepth 20000 in
theorem s_X2_givenBy_0 {M M' : AM} {v : Option AV} {m1 : Nat} {x2 : Int32} {M1 : AM} {o103 : Option Nat} {M2 : AM} {x104 : Int32} (hS : St M) (h_m1 : Mt M m1)
    (b1 : vp_in x2 120)
    (k2 : ∀ (g1 : (mI M (m1 + 1) x2.toNatClampNeg) = 11), some (aI (((mJ M (m1 + 2) x2.toNatClampNeg : Int64).toInt32) + 2)) = v ∧ M = M')
    (c3 : ∀ (g1 : ¬ ((mI M (m1 + 1) x2.toNatClampNeg) = 11)) (g2 : (mI M (m1 + 1) x2.toNatClampNeg) = 16), Ev K_X5_find [aR (some 4), aJ (mJ M (m1 + 2) x2.toNatClampNeg)] M (some (aR o103)) M1)
    (h4 : ∀ (g1 : ¬ ((mI M (m1 + 1) x2.toNatClampNeg) = 11)) (g2 : (mI M (m1 + 1) x2.toNatClampNeg) = 16) (r103 : Nat) (q103 : o103 = some r103), Mt M1 r103)
    (k5 : ∀ (g1 : ¬ ((mI M (m1 + 1) x2.toNatClampNeg) = 11)) (g2 : (mI M (m1 + 1) x2.toNatClampNeg) = 16) (r103 : Nat) (q103 : o103 = some r103), some (aI (mI M1 r103 1)) = v ∧ M1 = M')
    (k6 : ∀ (g1 : ¬ ((mI M (m1 + 1) x2.toNatClampNeg) = 11)) (g2 : (mI M (m1 + 1) x2.toNatClampNeg) = 16) (q103 : o103 = none), some (aI 0) = v ∧ M1 = M')
    (c7 : ∀ (g1 : ¬ ((mI M (m1 + 1) x2.toNatClampNeg) = 11)) (g2 : ¬ ((mI M (m1 + 1) x2.toNatClampNeg) = 16)), Ev K_X6_isOperation [aI (mI M (m1 + 1) x2.toNatClampNeg)] M (some (aI x104)) M2)
    (k8 : ∀ (g1 : ¬ ((mI M (m1 + 1) x2.toNatClampNeg) = 11)) (g2 : ¬ ((mI M (m1 + 1) x2.toNatClampNeg) = 16)) (g5 : x104 = 0), some (aI 0) = v ∧ M2 = M')
    (b9 : ∀ (g1 : ¬ ((mI M (m1 + 1) x2.toNatClampNeg) = 11)) (g2 : ¬ ((mI M (m1 + 1) x2.toNatClampNeg) = 16)) (g5 : ¬ x104 = 0), vp_in (mI M2 (m1 + 1) x2.toNatClampNeg) 18)
    (k10 : ∀ (g1 : ¬ ((mI M (m1 + 1) x2.toNatClampNeg) = 11)) (g2 : ¬ ((mI M (m1 + 1) x2.toNatClampNeg) = 16)) (g5 : ¬ x104 = 0), some (aI (gvI (mI M2 (m1 + 1) x2.toNatClampNeg).toNatClampNeg)) = v ∧ M2 = M') :
    Ev K_X2_givenBy [aR (some 7), aR (some m1), aI x2] M v M' := by
  refine ⟨Nat.le_of_ble_eq_true rfl, ?_⟩
  show E K_X2_givenBy 0 [some (aR (some 7)), some (aR (some m1)), some (aI x2), none] [] M v M'
  refine e_aload_n dX2_givenBy_0 rfl ?_
  refine e_getN ff_4_3 h_m1.l0 w366 dX2_givenBy_1 (w := aR (some (m1 + 1))) h_m1.f3 ?_
  refine e_iload_n dX2_givenBy_4 rfl ?_
  refine e_iald h_m1.l1 (h_m1.b1 b1) dX2_givenBy_5 ?_
  refine e_lsw (d := 69) (qs := [(11, 32), (16, 42)]) dX2_givenBy_6 rfl rfl rfl ?_
  by_cases g1 : (mI M (m1 + 1) x2.toNatClampNeg) = 11
  · have e9 : lsw [(11, 32), (16, 42)] 69 (mI M (m1 + 1) x2.toNatClampNeg) = 32 := by rw [g1]; rfl
    rw [e9]
    refine e_aload_n dX2_givenBy_32 rfl ?_
    refine e_getN ff_4_4 h_m1.l0 w372 dX2_givenBy_33 (w := aR (some (m1 + 2))) h_m1.f4 ?_
    refine e_iload_n dX2_givenBy_36 rfl ?_
    refine e_lald h_m1.l2 (h_m1.b2 b1) dX2_givenBy_37 ?_
    refine e_l2i dX2_givenBy_38 ?_
    refine e_iconst (u := 2) dX2_givenBy_39 (by decide) ?_
    refine e_iadd dX2_givenBy_40 ?_
    exact e_iret rfl dX2_givenBy_41 (k2 g1)
  by_cases g2 : (mI M (m1 + 1) x2.toNatClampNeg) = 16
  · have e9 : lsw [(11, 32), (16, 42)] 69 (mI M (m1 + 1) x2.toNatClampNeg) = 42 := by rw [g2]; rfl
    rw [e9]
    refine e_aload_n dX2_givenBy_42 rfl ?_
    refine e_get ff_2_0 hS.l7 w119 dX2_givenBy_43 (w := aR (some 4)) hS.f7_0 ?_
    refine e_aload_n dX2_givenBy_46 rfl ?_
    refine e_getN ff_4_4 h_m1.l0 w372 dX2_givenBy_47 (w := aR (some (m1 + 2))) h_m1.f4 ?_
    refine e_iload_n dX2_givenBy_50 rfl ?_
    refine e_lald h_m1.l2 (h_m1.b2 b1) dX2_givenBy_51 ?_
    refine e_callV (As := [aJ (mJ M (m1 + 2) x2.toNatClampNeg)]) (rest := []) vk_X5_find hS.l4 w510 ⟨by decide, by decide⟩ (Nat.le_of_ble_eq_true rfl) dX2_givenBy_52 (c3 g1 g2) ?_
    show E K_X2_givenBy 55 [some (aR (some 7)), some (aR (some m1)), some (aI x2), none] [aR o103] M1 v M'
    have hS_1 : St M1 := St.sh (M := M) (c3 g1 g2).2.1 hS
    have h_m1_1 : Mt M1 m1 := Mt.sh (M := M) (c3 g1 g2).2.1 h_m1
    refine e_astore_n dX2_givenBy_55 (Nat.le_of_ble_eq_true rfl) ?_
    show E K_X2_givenBy 56 [some (aR (some 7)), some (aR (some m1)), some (aI x2), some (aR o103)] [] M1 v M'
    refine e_aload_n dX2_givenBy_56 rfl ?_
    refine e_ifnonnull (tgt := 64) dX2_givenBy_57 rfl (fun z => ?_) (fun z => ?_)
    ·
      obtain ⟨r103, q103⟩ : ∃ r, o103 = some r := by cases o103 with | none => exact absurd rfl z | some r => exact ⟨r, rfl⟩
      have h_r103 : Mt M1 r103 := (h4 g1 g2 r103 q103)
      rw [q103]
      refine e_aload_n dX2_givenBy_64 rfl ?_
      refine e_getN ff_4_1 h_r103.l0 w359 dX2_givenBy_65 (w := aI (mI M1 r103 1)) rfl ?_
      exact e_iret rfl dX2_givenBy_68 (k5 g1 g2 r103 q103)
    ·
      have q103 : o103 = none := z
      refine e_iconst (u := 0) dX2_givenBy_60 (by decide) ?_
      refine e_goto (tgt := 68) dX2_givenBy_61 rfl ?_
      exact e_iret rfl dX2_givenBy_68 (k6 g1 g2 q103)
  have e9 : lsw [(11, 32), (16, 42)] 69 (mI M (m1 + 1) x2.toNatClampNeg) = 69 := lsw_out [11, 16] (by decide) (by
      simp only [List.mem_cons, List.not_mem_nil, or_false, forall_eq_or_imp, forall_eq]
      skip
      exact ⟨g1, g2⟩)
  rw [e9]
  refine e_aload_n dX2_givenBy_69 rfl ?_
  refine e_getN ff_4_3 h_m1.l0 w366 dX2_givenBy_70 (w := aR (some (m1 + 1))) h_m1.f3 ?_
  refine e_iload_n dX2_givenBy_73 rfl ?_
  refine e_iald h_m1.l1 (h_m1.b1 b1) dX2_givenBy_74 ?_
  refine e_callSN (As := [aI (mI M (m1 + 1) x2.toNatClampNeg)]) (rest := []) sk_X6_isOperation w538 ⟨by decide, by decide⟩ (Nat.le_of_ble_eq_true rfl) dX2_givenBy_75 (c7 g1 g2) ?_
  show E K_X2_givenBy 78 [some (aR (some 7)), some (aR (some m1)), some (aI x2), none] [aI x104] M2 v M'
  have hS_2 : St M2 := St.sh (M := M) (c7 g1 g2).2.1 hS
  have h_m1_2 : Mt M2 m1 := Mt.sh (M := M) (c7 g1 g2).2.1 h_m1
  refine e_if_eq (tgt := 94) dX2_givenBy_78 rfl (fun g5 => ?_) (fun g5 => ?_)
  ·
    refine e_iconst (u := 0) dX2_givenBy_94 (by decide) ?_
    exact e_iret rfl dX2_givenBy_95 (k8 g1 g2 g5)
  ·
    refine e_getsGIVES w562 dX2_givenBy_81 ?_
    refine e_aload_n dX2_givenBy_84 rfl ?_
    refine e_getN ff_4_3 h_m1_2.l0 w366 dX2_givenBy_85 (w := aR (some (m1 + 1))) h_m1_2.f3 ?_
    refine e_iload_n dX2_givenBy_88 rfl ?_
    refine e_iald h_m1_2.l1 (h_m1_2.b1 b1) dX2_givenBy_89 ?_
    refine e_gv (b9 g1 g2 g5) dX2_givenBy_90 ?_
    refine e_goto (tgt := 95) dX2_givenBy_91 rfl ?_
    exact e_iret rfl dX2_givenBy_95 (k10 g1 g2 g5)
