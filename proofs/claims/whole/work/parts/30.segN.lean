set_option maxRecDepth 20000 in
theorem s_X6_init_0 {M : AM} {fin : Fin'} {M2 : AM} {M4 : AM} {M6 : AM} {M8 : AM} (h_t : Lv M 3 6) (hN : mN M = 4)
    (c1 : Tv K_X5_init [aR (some 4)] (mk M 5 3) (.inl (none, M2)))
    (h2 : Lv M2 3 6)
    (n3 : mN M2 = 7)
    (f4 : mR (mk (wrR M2 3 0 (some 4)) 2 4) 3 0 = some 4)
    (c5 : Tv K_X2_init [aR (some 7), aR (some 4)] (mk (wrR M2 3 0 (some 4)) 2 4) (.inl (none, M4)))
    (h6 : Lv M4 3 6)
    (n7 : mN M4 = 11)
    (f8 : mR (mk (wrR M4 3 1 (some 7)) 0 7) 3 0 = some 4)
    (c9 : Tv K_X0_init [aR (some 11), aR (some 4)] (mk (wrR M4 3 1 (some 7)) 0 7) (.inl (none, M6)))
    (h10 : Lv M6 3 6)
    (n11 : mN M6 = 18)
    (f12 : mR (mk (wrR M6 3 2 (some 11)) 3 15) 3 0 = some 4)
    (c13 : Tv K_X3_init [aR (some 18), aR (some 4)] (mk (wrR M6 3 2 (some 11)) 3 15) (.inl (none, M8)))
    (h14 : Lv M8 3 6)
    (n15 : mN M8 = 25)
    (k16 : (.inl (none, wrI (wrI (wrR (mk (wrR M8 3 3 (some 18)) 12 8) 3 4 (some 25)) 3 5 0) 3 6 (-1)) : Fin') = fin) :
    Tv K_X6_init [aR (some 3)] M fin := by
  refine ⟨Nat.le_of_ble_eq_true rfl, ?_⟩
  show T K_X6_init 0 [some (aR (some 3))] [] M fin
  refine th_aload_n dX6_init_0 rfl ?_
  refine th_objI w86 w87 w88 (by decide) (Nat.le_of_ble_eq_true rfl) dX6_init_1 ?_
  refine th_aload_n dX6_init_4 rfl ?_
  refine th_new KF5 PT5 w89 w90 w66 dX6_init_5 ?_
  rw [show mN M = 4 from hN]
  have h_c3_1 := lvMk (k' := 5) (n := 3) (M := M) h_t
  have h_c4_1 : Lv (mk M 5 3) 4 5 := lvNew (by omega) hN
  have hN_1 : mN (mk M 5 3) = 5 := by show mN M + 1 = 5; rw [show mN M = 4 from hN]
  show T K_X6_init 8 [some (aR (some 3))] [aR (some 4), aR (some 3)] (mk M 5 3) fin
  refine th_dupR dX6_init_8 ?_
  refine th_callI (As := []) (rest := [aR (some 4), aR (some 3)]) yk_X5_init w92 ⟨by decide, by decide, by show _ = some 0; decide +kernel⟩ rfl rfl w91 ⟨by decide, by decide⟩ (Nat.le_of_ble_eq_true rfl) dX6_init_9 c1 ?_
  show T K_X6_init 12 [some (aR (some 3))] [aR (some 4), aR (some 3)] M2 fin
  refine th_putFR ff_6_0 rfl rfl rfl h2 w238 dX6_init_12 ?_
  refine th_aload_n dX6_init_15 rfl ?_
  refine th_new KF2 PT2 w113 w114 w68 dX6_init_16 ?_
  rw [show mN (wrR M2 3 0 (some 4)) = 7 from n3]
  have h_c3_3 := lvMk (k' := 2) (n := 4) (M := (wrR M2 3 0 (some 4))) h2
  have h_c7_3 : Lv (mk (wrR M2 3 0 (some 4)) 2 4) 7 2 := lvNew (by omega) n3
  have hN_3 : mN (mk (wrR M2 3 0 (some 4)) 2 4) = 8 := by show mN (wrR M2 3 0 (some 4)) + 1 = 8; rw [show mN (wrR M2 3 0 (some 4)) = 7 from n3]
  show T K_X6_init 19 [some (aR (some 3))] [aR (some 7), aR (some 3)] (mk (wrR M2 3 0 (some 4)) 2 4) fin
  refine th_dupR dX6_init_19 ?_
  refine th_aload_n dX6_init_20 rfl ?_
  refine th_get ff_6_0 h_c3_3 w238 dX6_init_21 (w := aR (some 4)) (congrArg aR f4) ?_
  refine th_callI (As := [aR (some 4)]) (rest := [aR (some 7), aR (some 3)]) yk_X2_init w116 ⟨by decide, by decide, by show _ = some 1; decide +kernel⟩ rfl rfl w115 ⟨by decide, by decide⟩ (Nat.le_of_ble_eq_true rfl) dX6_init_24 c5 ?_
  show T K_X6_init 27 [some (aR (some 3))] [aR (some 7), aR (some 3)] M4 fin
  refine th_putFR ff_6_1 rfl rfl rfl h6 w239 dX6_init_27 ?_
  refine th_aload_n dX6_init_30 rfl ?_
  refine th_new KF0 PT0 w132 w133 w69 dX6_init_31 ?_
  rw [show mN (wrR M4 3 1 (some 7)) = 11 from n7]
  have h_c3_5 := lvMk (k' := 0) (n := 7) (M := (wrR M4 3 1 (some 7))) h6
  have h_c11_5 : Lv (mk (wrR M4 3 1 (some 7)) 0 7) 11 0 := lvNew (by omega) n7
  have hN_5 : mN (mk (wrR M4 3 1 (some 7)) 0 7) = 12 := by show mN (wrR M4 3 1 (some 7)) + 1 = 12; rw [show mN (wrR M4 3 1 (some 7)) = 11 from n7]
  show T K_X6_init 34 [some (aR (some 3))] [aR (some 11), aR (some 3)] (mk (wrR M4 3 1 (some 7)) 0 7) fin
  refine th_dupR dX6_init_34 ?_
  refine th_aload_n dX6_init_35 rfl ?_
  refine th_get ff_6_0 h_c3_5 w238 dX6_init_36 (w := aR (some 4)) (congrArg aR f8) ?_
  refine th_callI (As := [aR (some 4)]) (rest := [aR (some 11), aR (some 3)]) yk_X0_init w135 ⟨by decide, by decide, by show _ = some 1; decide +kernel⟩ rfl rfl w134 ⟨by decide, by decide⟩ (Nat.le_of_ble_eq_true rfl) dX6_init_39 c9 ?_
  show T K_X6_init 42 [some (aR (some 3))] [aR (some 11), aR (some 3)] M6 fin
  refine th_putFR ff_6_2 rfl rfl rfl h10 w240 dX6_init_42 ?_
  refine th_aload_n dX6_init_45 rfl ?_
  refine th_new KF3 PT3 w185 w186 w71 dX6_init_46 ?_
  rw [show mN (wrR M6 3 2 (some 11)) = 18 from n11]
  have h_c3_7 := lvMk (k' := 3) (n := 15) (M := (wrR M6 3 2 (some 11))) h10
  have h_c18_7 : Lv (mk (wrR M6 3 2 (some 11)) 3 15) 18 3 := lvNew (by omega) n11
  have hN_7 : mN (mk (wrR M6 3 2 (some 11)) 3 15) = 19 := by show mN (wrR M6 3 2 (some 11)) + 1 = 19; rw [show mN (wrR M6 3 2 (some 11)) = 18 from n11]
  show T K_X6_init 49 [some (aR (some 3))] [aR (some 18), aR (some 3)] (mk (wrR M6 3 2 (some 11)) 3 15) fin
  refine th_dupR dX6_init_49 ?_
  refine th_aload_n dX6_init_50 rfl ?_
  refine th_get ff_6_0 h_c3_7 w238 dX6_init_51 (w := aR (some 4)) (congrArg aR f12) ?_
  refine th_callI (As := [aR (some 4)]) (rest := [aR (some 18), aR (some 3)]) yk_X3_init w188 ⟨by decide, by decide, by show _ = some 1; decide +kernel⟩ rfl rfl w187 ⟨by decide, by decide⟩ (Nat.le_of_ble_eq_true rfl) dX6_init_54 c13 ?_
  show T K_X6_init 57 [some (aR (some 3))] [aR (some 18), aR (some 3)] M8 fin
  refine th_putFR ff_6_3 rfl rfl rfl h14 w241 dX6_init_57 ?_
  refine th_aload_n dX6_init_60 rfl ?_
  refine th_bipush (u := 8) dX6_init_61 (by decide) ?_
  refine th_newaJ w162 dX6_init_63 (by decide) (n := 8) (by decide) (by decide) ?_
  rw [show mN (wrR M8 3 3 (some 18)) = 25 from n15]
  have h_c3_9 := lvMk (k' := 12) (n := 8) (M := (wrR M8 3 3 (some 18))) h14
  have h_c25_9 : Lv (mk (wrR M8 3 3 (some 18)) 12 8) 25 12 := lvNew (by omega) n15
  have hN_9 : mN (mk (wrR M8 3 3 (some 18)) 12 8) = 26 := by show mN (wrR M8 3 3 (some 18)) + 1 = 26; rw [show mN (wrR M8 3 3 (some 18)) = 25 from n15]
  show T K_X6_init 65 [some (aR (some 3))] [aR (some 25), aR (some 3)] (mk (wrR M8 3 3 (some 18)) 12 8) fin
  refine th_putFR ff_6_4 rfl rfl rfl h_c3_9 w242 dX6_init_65 ?_
  refine th_aload_n dX6_init_68 rfl ?_
  refine th_iconst (u := 0) dX6_init_69 (by decide) ?_
  refine th_putI ff_6_5 rfl h_c3_9 w243 dX6_init_70 ?_
  refine th_aload_n dX6_init_73 rfl ?_
  refine th_iconst (u := (-1)) dX6_init_74 (by decide) ?_
  refine th_putI ff_6_6 rfl h_c3_9 w244 dX6_init_75 ?_
  exact th_vret rfl dX6_init_78 k16

set_option maxRecDepth 20000 in
theorem s_X5_init_0 {M : AM} {fin : Fin'} {M3 : AM} (h_t : Lv M 4 5) (hN : mN M = 5)
    (f1 : mR (wrR (mk (wrR (mk M 14 32) 4 0 (some 5)) 11 18) 4 1 (some 6)) 4 1 = some 6)
    (c2 : Ev K_J7_fill_53178 [aR (some 6), aI 1] (wrR (mk (wrR (mk M 14 32) 4 0 (some 5)) 11 18) 4 1 (some 6)) (none) M3)
    (k3 : (.inl (none, wrI M3 4 2 0) : Fin') = fin) :
    Tv K_X5_init [aR (some 4)] M fin := by
  refine ⟨Nat.le_of_ble_eq_true rfl, ?_⟩
  show T K_X5_init 0 [some (aR (some 4))] [] M fin
  refine th_aload_n dX5_init_0 rfl ?_
  refine th_objI w94 w87 w88 (by decide) (Nat.le_of_ble_eq_true rfl) dX5_init_1 ?_
  refine th_aload_n dX5_init_4 rfl ?_
  refine th_bipush (u := 32) dX5_init_5 (by decide) ?_
  refine th_anew w95 dX5_init_7 (by decide) (n := 32) (by decide) (by decide) ?_
  rw [show mN M = 5 from hN]
  have h_c4_1 := lvMk (k' := 14) (n := 32) (M := M) h_t
  have h_c5_1 : Lv (mk M 14 32) 5 14 := lvNew (by omega) hN
  have hN_1 : mN (mk M 14 32) = 6 := by show mN M + 1 = 6; rw [show mN M = 5 from hN]
  show T K_X5_init 10 [some (aR (some 4))] [aR (some 5), aR (some 4)] (mk M 14 32) fin
  refine th_putFR ff_5_0 rfl rfl rfl h_c4_1 w100 dX5_init_10 ?_
  refine th_aload_n dX5_init_13 rfl ?_
  refine th_bipush (u := 18) dX5_init_14 (by decide) ?_
  refine th_newaI w112 dX5_init_16 (by decide) (n := 18) (by decide) (by decide) ?_
  rw [show mN (wrR (mk M 14 32) 4 0 (some 5)) = 6 from hN_1]
  have h_c4_2 := lvMk (k' := 11) (n := 18) (M := (wrR (mk M 14 32) 4 0 (some 5))) h_c4_1
  have h_c5_2 := lvMk (k' := 11) (n := 18) (M := (wrR (mk M 14 32) 4 0 (some 5))) h_c5_1
  have h_c6_2 : Lv (mk (wrR (mk M 14 32) 4 0 (some 5)) 11 18) 6 11 := lvNew (by omega) hN_1
  have hN_2 : mN (mk (wrR (mk M 14 32) 4 0 (some 5)) 11 18) = 7 := by show mN (wrR (mk M 14 32) 4 0 (some 5)) + 1 = 7; rw [show mN (wrR (mk M 14 32) 4 0 (some 5)) = 6 from hN_1]
  show T K_X5_init 18 [some (aR (some 4))] [aR (some 6), aR (some 4)] (mk (wrR (mk M 14 32) 4 0 (some 5)) 11 18) fin
  refine th_putFR ff_5_1 rfl rfl rfl h_c4_2 w101 dX5_init_18 ?_
  refine th_aload_n dX5_init_21 rfl ?_
  refine th_get ff_5_1 h_c4_2 w101 dX5_init_22 (w := aR (some 6)) (congrArg aR f1) ?_
  refine th_iconst (u := 1) dX5_init_25 (by decide) ?_
  refine th_callS (As := [aR (some 6), aI 1]) (rest := []) sk_J7_fill_53178 w97 ⟨by decide, by decide⟩ (Nat.le_of_ble_eq_true rfl) dX5_init_26 c2 ?_
  show T K_X5_init 29 [some (aR (some 4))] [] M3 fin
  have hN_3 : mN M3 = _ := (Sh.eN (M := (wrR (mk (wrR (mk M 14 32) 4 0 (some 5)) 11 18) 4 1 (some 6))) c2.2.1).trans hN_2
  have h_c4_3 := Lv.sh (M := (wrR (mk (wrR (mk M 14 32) 4 0 (some 5)) 11 18) 4 1 (some 6))) (M' := M3) c2.2.1 h_c4_2
  have h_c5_3 := Lv.sh (M := (wrR (mk (wrR (mk M 14 32) 4 0 (some 5)) 11 18) 4 1 (some 6))) (M' := M3) c2.2.1 h_c5_2
  have h_c6_3 := Lv.sh (M := (wrR (mk (wrR (mk M 14 32) 4 0 (some 5)) 11 18) 4 1 (some 6))) (M' := M3) c2.2.1 h_c6_2
  refine th_aload_n dX5_init_29 rfl ?_
  refine th_iconst (u := 0) dX5_init_30 (by decide) ?_
  refine th_putI ff_5_2 rfl h_c4_3 w102 dX5_init_31 ?_
  exact th_vret rfl dX5_init_34 k3

set_option maxRecDepth 20000 in
theorem s_X2_init_0 {M : AM} {fin : Fin'} (h_t : Lv M 7 2) (hN : mN M = 8)
    (k1 : (.inl (none, wrR (mk (wrR (mk (wrR (mk (wrR M 7 0 (some 4)) 11 120) 7 1 (some 8)) 11 120) 7 2 (some 9)) 11 120) 7 3 (some 10)) : Fin') = fin) :
    Tv K_X2_init [aR (some 7), aR (some 4)] M fin := by
  refine ⟨Nat.le_of_ble_eq_true rfl, ?_⟩
  show T K_X2_init 0 [some (aR (some 7)), some (aR (some 4))] [] M fin
  refine th_aload_n dX2_init_0 rfl ?_
  refine th_objI w118 w87 w88 (by decide) (Nat.le_of_ble_eq_true rfl) dX2_init_1 ?_
  refine th_aload_n dX2_init_4 rfl ?_
  refine th_aload_n dX2_init_5 rfl ?_
  refine th_putFR ff_2_0 rfl rfl rfl h_t w119 dX2_init_6 ?_
  refine th_aload_n dX2_init_9 rfl ?_
  refine th_bipush (u := 120) dX2_init_10 (by decide) ?_
  refine th_newaI w112 dX2_init_12 (by decide) (n := 120) (by decide) (by decide) ?_
  rw [show mN (wrR M 7 0 (some 4)) = 8 from hN]
  have h_c7_1 := lvMk (k' := 11) (n := 120) (M := (wrR M 7 0 (some 4))) h_t
  have h_c8_1 : Lv (mk (wrR M 7 0 (some 4)) 11 120) 8 11 := lvNew (by omega) hN
  have hN_1 : mN (mk (wrR M 7 0 (some 4)) 11 120) = 9 := by show mN (wrR M 7 0 (some 4)) + 1 = 9; rw [show mN (wrR M 7 0 (some 4)) = 8 from hN]
  show T K_X2_init 14 [some (aR (some 7)), some (aR (some 4))] [aR (some 8), aR (some 7)] (mk (wrR M 7 0 (some 4)) 11 120) fin
  refine th_putFR ff_2_1 rfl rfl rfl h_c7_1 w120 dX2_init_14 ?_
  refine th_aload_n dX2_init_17 rfl ?_
  refine th_bipush (u := 120) dX2_init_18 (by decide) ?_
  refine th_newaI w112 dX2_init_20 (by decide) (n := 120) (by decide) (by decide) ?_
  rw [show mN (wrR (mk (wrR M 7 0 (some 4)) 11 120) 7 1 (some 8)) = 9 from hN_1]
  have h_c7_2 := lvMk (k' := 11) (n := 120) (M := (wrR (mk (wrR M 7 0 (some 4)) 11 120) 7 1 (some 8))) h_c7_1
  have h_c8_2 := lvMk (k' := 11) (n := 120) (M := (wrR (mk (wrR M 7 0 (some 4)) 11 120) 7 1 (some 8))) h_c8_1
  have h_c9_2 : Lv (mk (wrR (mk (wrR M 7 0 (some 4)) 11 120) 7 1 (some 8)) 11 120) 9 11 := lvNew (by omega) hN_1
  have hN_2 : mN (mk (wrR (mk (wrR M 7 0 (some 4)) 11 120) 7 1 (some 8)) 11 120) = 10 := by show mN (wrR (mk (wrR M 7 0 (some 4)) 11 120) 7 1 (some 8)) + 1 = 10; rw [show mN (wrR (mk (wrR M 7 0 (some 4)) 11 120) 7 1 (some 8)) = 9 from hN_1]
  show T K_X2_init 22 [some (aR (some 7)), some (aR (some 4))] [aR (some 9), aR (some 7)] (mk (wrR (mk (wrR M 7 0 (some 4)) 11 120) 7 1 (some 8)) 11 120) fin
  refine th_putFR ff_2_2 rfl rfl rfl h_c7_2 w121 dX2_init_22 ?_
  refine th_aload_n dX2_init_25 rfl ?_
  refine th_bipush (u := 120) dX2_init_26 (by decide) ?_
  refine th_newaI w112 dX2_init_28 (by decide) (n := 120) (by decide) (by decide) ?_
  rw [show mN (wrR (mk (wrR (mk (wrR M 7 0 (some 4)) 11 120) 7 1 (some 8)) 11 120) 7 2 (some 9)) = 10 from hN_2]
  have h_c7_3 := lvMk (k' := 11) (n := 120) (M := (wrR (mk (wrR (mk (wrR M 7 0 (some 4)) 11 120) 7 1 (some 8)) 11 120) 7 2 (some 9))) h_c7_2
  have h_c8_3 := lvMk (k' := 11) (n := 120) (M := (wrR (mk (wrR (mk (wrR M 7 0 (some 4)) 11 120) 7 1 (some 8)) 11 120) 7 2 (some 9))) h_c8_2
  have h_c9_3 := lvMk (k' := 11) (n := 120) (M := (wrR (mk (wrR (mk (wrR M 7 0 (some 4)) 11 120) 7 1 (some 8)) 11 120) 7 2 (some 9))) h_c9_2
  have h_c10_3 : Lv (mk (wrR (mk (wrR (mk (wrR M 7 0 (some 4)) 11 120) 7 1 (some 8)) 11 120) 7 2 (some 9)) 11 120) 10 11 := lvNew (by omega) hN_2
  have hN_3 : mN (mk (wrR (mk (wrR (mk (wrR M 7 0 (some 4)) 11 120) 7 1 (some 8)) 11 120) 7 2 (some 9)) 11 120) = 11 := by show mN (wrR (mk (wrR (mk (wrR M 7 0 (some 4)) 11 120) 7 1 (some 8)) 11 120) 7 2 (some 9)) + 1 = 11; rw [show mN (wrR (mk (wrR (mk (wrR M 7 0 (some 4)) 11 120) 7 1 (some 8)) 11 120) 7 2 (some 9)) = 10 from hN_2]
  show T K_X2_init 30 [some (aR (some 7)), some (aR (some 4))] [aR (some 10), aR (some 7)] (mk (wrR (mk (wrR (mk (wrR M 7 0 (some 4)) 11 120) 7 1 (some 8)) 11 120) 7 2 (some 9)) 11 120) fin
  refine th_putFR ff_2_3 rfl rfl rfl h_c7_3 w122 dX2_init_30 ?_
  exact th_vret rfl dX2_init_33 k1

set_option maxRecDepth 20000 in
theorem s_X0_init_0 {M : AM} {fin : Fin'} {M2 : AM} (h_t : Lv M 11 0) (hN : mN M = 12)
    (c1 : Tv K_X1_init [aR (some 12), aR (some 4)] (mk (wrR M 11 0 (some 4)) 1 5) (.inl (none, M2)))
    (h2 : Lv M2 11 0)
    (n3 : mN M2 = 17)
    (k4 : (.inl (none, wrI (wrI (wrI (wrI (wrR (mk (wrR M2 11 1 (some 12)) 11 32) 11 2 (some 17)) 11 3 0) 11 4 0) 11 5 0) 11 6 0) : Fin') = fin) :
    Tv K_X0_init [aR (some 11), aR (some 4)] M fin := by
  refine ⟨Nat.le_of_ble_eq_true rfl, ?_⟩
  show T K_X0_init 0 [some (aR (some 11)), some (aR (some 4))] [] M fin
  refine th_aload_n dX0_init_0 rfl ?_
  refine th_objI w137 w87 w88 (by decide) (Nat.le_of_ble_eq_true rfl) dX0_init_1 ?_
  refine th_aload_n dX0_init_4 rfl ?_
  refine th_aload_n dX0_init_5 rfl ?_
  refine th_putFR ff_0_0 rfl rfl rfl h_t w163 dX0_init_6 ?_
  refine th_aload_n dX0_init_9 rfl ?_
  refine th_new KF1 PT1 w138 w139 w70 dX0_init_10 ?_
  rw [show mN (wrR M 11 0 (some 4)) = 12 from hN]
  have h_c11_1 := lvMk (k' := 1) (n := 5) (M := (wrR M 11 0 (some 4))) h_t
  have h_c12_1 : Lv (mk (wrR M 11 0 (some 4)) 1 5) 12 1 := lvNew (by omega) hN
  have hN_1 : mN (mk (wrR M 11 0 (some 4)) 1 5) = 13 := by show mN (wrR M 11 0 (some 4)) + 1 = 13; rw [show mN (wrR M 11 0 (some 4)) = 12 from hN]
  show T K_X0_init 13 [some (aR (some 11)), some (aR (some 4))] [aR (some 12), aR (some 11)] (mk (wrR M 11 0 (some 4)) 1 5) fin
  refine th_dupR dX0_init_13 ?_
  refine th_aload_n dX0_init_14 rfl ?_
  refine th_callI (As := [aR (some 4)]) (rest := [aR (some 12), aR (some 11)]) yk_X1_init w141 ⟨by decide, by decide, by show _ = some 1; decide +kernel⟩ rfl rfl w140 ⟨by decide, by decide⟩ (Nat.le_of_ble_eq_true rfl) dX0_init_15 c1 ?_
  show T K_X0_init 18 [some (aR (some 11)), some (aR (some 4))] [aR (some 12), aR (some 11)] M2 fin
  refine th_putFR ff_0_1 rfl rfl rfl h2 w164 dX0_init_18 ?_
  refine th_aload_n dX0_init_21 rfl ?_
  refine th_bipush (u := 32) dX0_init_22 (by decide) ?_
  refine th_newaI w112 dX0_init_24 (by decide) (n := 32) (by decide) (by decide) ?_
  rw [show mN (wrR M2 11 1 (some 12)) = 17 from n3]
  have h_c11_3 := lvMk (k' := 11) (n := 32) (M := (wrR M2 11 1 (some 12))) h2
  have h_c17_3 : Lv (mk (wrR M2 11 1 (some 12)) 11 32) 17 11 := lvNew (by omega) n3
  have hN_3 : mN (mk (wrR M2 11 1 (some 12)) 11 32) = 18 := by show mN (wrR M2 11 1 (some 12)) + 1 = 18; rw [show mN (wrR M2 11 1 (some 12)) = 17 from n3]
  show T K_X0_init 26 [some (aR (some 11)), some (aR (some 4))] [aR (some 17), aR (some 11)] (mk (wrR M2 11 1 (some 12)) 11 32) fin
  refine th_putFR ff_0_2 rfl rfl rfl h_c11_3 w165 dX0_init_26 ?_
  refine th_aload_n dX0_init_29 rfl ?_
  refine th_iconst (u := 0) dX0_init_30 (by decide) ?_
  refine th_putI ff_0_3 rfl h_c11_3 w166 dX0_init_31 ?_
  refine th_aload_n dX0_init_34 rfl ?_
  refine th_iconst (u := 0) dX0_init_35 (by decide) ?_
  refine th_putI ff_0_4 rfl h_c11_3 w167 dX0_init_36 ?_
  refine th_aload_n dX0_init_39 rfl ?_
  refine th_iconst (u := 0) dX0_init_40 (by decide) ?_
  refine th_putI ff_0_5 rfl h_c11_3 w168 dX0_init_41 ?_
  refine th_aload_n dX0_init_44 rfl ?_
  refine th_iconst (u := 0) dX0_init_45 (by decide) ?_
  refine th_putZ ff_0_6 rfl (Or.inl rfl) h_c11_3 w169 dX0_init_46 ?_
  exact th_vret rfl dX0_init_49 k4

set_option maxRecDepth 20000 in
theorem s_X1_init_0 {M : AM} {fin : Fin'} (h_t : Lv M 12 1) (hN : mN M = 13)
    (k1 : (.inl (none, wrR (mk (wrR (mk (wrR (mk (wrR (mk (wrR M 12 0 (some 4)) 12 32) 12 1 (some 13)) 12 32) 12 2 (some 14)) 12 121) 12 3 (some 15)) 12 121) 12 4 (some 16)) : Fin') = fin) :
    Tv K_X1_init [aR (some 12), aR (some 4)] M fin := by
  refine ⟨Nat.le_of_ble_eq_true rfl, ?_⟩
  show T K_X1_init 0 [some (aR (some 12)), some (aR (some 4))] [] M fin
  refine th_aload_n dX1_init_0 rfl ?_
  refine th_objI w143 w87 w88 (by decide) (Nat.le_of_ble_eq_true rfl) dX1_init_1 ?_
  refine th_aload_n dX1_init_4 rfl ?_
  refine th_aload_n dX1_init_5 rfl ?_
  refine th_putFR ff_1_0 rfl rfl rfl h_t w144 dX1_init_6 ?_
  refine th_aload_n dX1_init_9 rfl ?_
  refine th_bipush (u := 32) dX1_init_10 (by decide) ?_
  refine th_newaJ w162 dX1_init_12 (by decide) (n := 32) (by decide) (by decide) ?_
  rw [show mN (wrR M 12 0 (some 4)) = 13 from hN]
  have h_c12_1 := lvMk (k' := 12) (n := 32) (M := (wrR M 12 0 (some 4))) h_t
  have h_c13_1 : Lv (mk (wrR M 12 0 (some 4)) 12 32) 13 12 := lvNew (by omega) hN
  have hN_1 : mN (mk (wrR M 12 0 (some 4)) 12 32) = 14 := by show mN (wrR M 12 0 (some 4)) + 1 = 14; rw [show mN (wrR M 12 0 (some 4)) = 13 from hN]
  show T K_X1_init 14 [some (aR (some 12)), some (aR (some 4))] [aR (some 13), aR (some 12)] (mk (wrR M 12 0 (some 4)) 12 32) fin
  refine th_putFR ff_1_1 rfl rfl rfl h_c12_1 w145 dX1_init_14 ?_
  refine th_aload_n dX1_init_17 rfl ?_
  refine th_bipush (u := 32) dX1_init_18 (by decide) ?_
  refine th_newaJ w162 dX1_init_20 (by decide) (n := 32) (by decide) (by decide) ?_
  rw [show mN (wrR (mk (wrR M 12 0 (some 4)) 12 32) 12 1 (some 13)) = 14 from hN_1]
  have h_c12_2 := lvMk (k' := 12) (n := 32) (M := (wrR (mk (wrR M 12 0 (some 4)) 12 32) 12 1 (some 13))) h_c12_1
  have h_c13_2 := lvMk (k' := 12) (n := 32) (M := (wrR (mk (wrR M 12 0 (some 4)) 12 32) 12 1 (some 13))) h_c13_1
  have h_c14_2 : Lv (mk (wrR (mk (wrR M 12 0 (some 4)) 12 32) 12 1 (some 13)) 12 32) 14 12 := lvNew (by omega) hN_1
  have hN_2 : mN (mk (wrR (mk (wrR M 12 0 (some 4)) 12 32) 12 1 (some 13)) 12 32) = 15 := by show mN (wrR (mk (wrR M 12 0 (some 4)) 12 32) 12 1 (some 13)) + 1 = 15; rw [show mN (wrR (mk (wrR M 12 0 (some 4)) 12 32) 12 1 (some 13)) = 14 from hN_1]
  show T K_X1_init 22 [some (aR (some 12)), some (aR (some 4))] [aR (some 14), aR (some 12)] (mk (wrR (mk (wrR M 12 0 (some 4)) 12 32) 12 1 (some 13)) 12 32) fin
  refine th_putFR ff_1_2 rfl rfl rfl h_c12_2 w147 dX1_init_22 ?_
  refine th_aload_n dX1_init_25 rfl ?_
  refine th_bipush (u := 121) dX1_init_26 (by decide) ?_
  refine th_newaJ w162 dX1_init_28 (by decide) (n := 121) (by decide) (by decide) ?_
  rw [show mN (wrR (mk (wrR (mk (wrR M 12 0 (some 4)) 12 32) 12 1 (some 13)) 12 32) 12 2 (some 14)) = 15 from hN_2]
  have h_c12_3 := lvMk (k' := 12) (n := 121) (M := (wrR (mk (wrR (mk (wrR M 12 0 (some 4)) 12 32) 12 1 (some 13)) 12 32) 12 2 (some 14))) h_c12_2
  have h_c13_3 := lvMk (k' := 12) (n := 121) (M := (wrR (mk (wrR (mk (wrR M 12 0 (some 4)) 12 32) 12 1 (some 13)) 12 32) 12 2 (some 14))) h_c13_2
  have h_c14_3 := lvMk (k' := 12) (n := 121) (M := (wrR (mk (wrR (mk (wrR M 12 0 (some 4)) 12 32) 12 1 (some 13)) 12 32) 12 2 (some 14))) h_c14_2
  have h_c15_3 : Lv (mk (wrR (mk (wrR (mk (wrR M 12 0 (some 4)) 12 32) 12 1 (some 13)) 12 32) 12 2 (some 14)) 12 121) 15 12 := lvNew (by omega) hN_2
  have hN_3 : mN (mk (wrR (mk (wrR (mk (wrR M 12 0 (some 4)) 12 32) 12 1 (some 13)) 12 32) 12 2 (some 14)) 12 121) = 16 := by show mN (wrR (mk (wrR (mk (wrR M 12 0 (some 4)) 12 32) 12 1 (some 13)) 12 32) 12 2 (some 14)) + 1 = 16; rw [show mN (wrR (mk (wrR (mk (wrR M 12 0 (some 4)) 12 32) 12 1 (some 13)) 12 32) 12 2 (some 14)) = 15 from hN_2]
  show T K_X1_init 30 [some (aR (some 12)), some (aR (some 4))] [aR (some 15), aR (some 12)] (mk (wrR (mk (wrR (mk (wrR M 12 0 (some 4)) 12 32) 12 1 (some 13)) 12 32) 12 2 (some 14)) 12 121) fin
  refine th_putFR ff_1_3 rfl rfl rfl h_c12_3 w149 dX1_init_30 ?_
  refine th_aload_n dX1_init_33 rfl ?_
  refine th_bipush (u := 121) dX1_init_34 (by decide) ?_
  refine th_newaJ w162 dX1_init_36 (by decide) (n := 121) (by decide) (by decide) ?_
  rw [show mN (wrR (mk (wrR (mk (wrR (mk (wrR M 12 0 (some 4)) 12 32) 12 1 (some 13)) 12 32) 12 2 (some 14)) 12 121) 12 3 (some 15)) = 16 from hN_3]
  have h_c12_4 := lvMk (k' := 12) (n := 121) (M := (wrR (mk (wrR (mk (wrR (mk (wrR M 12 0 (some 4)) 12 32) 12 1 (some 13)) 12 32) 12 2 (some 14)) 12 121) 12 3 (some 15))) h_c12_3
  have h_c13_4 := lvMk (k' := 12) (n := 121) (M := (wrR (mk (wrR (mk (wrR (mk (wrR M 12 0 (some 4)) 12 32) 12 1 (some 13)) 12 32) 12 2 (some 14)) 12 121) 12 3 (some 15))) h_c13_3
  have h_c14_4 := lvMk (k' := 12) (n := 121) (M := (wrR (mk (wrR (mk (wrR (mk (wrR M 12 0 (some 4)) 12 32) 12 1 (some 13)) 12 32) 12 2 (some 14)) 12 121) 12 3 (some 15))) h_c14_3
  have h_c15_4 := lvMk (k' := 12) (n := 121) (M := (wrR (mk (wrR (mk (wrR (mk (wrR M 12 0 (some 4)) 12 32) 12 1 (some 13)) 12 32) 12 2 (some 14)) 12 121) 12 3 (some 15))) h_c15_3
  have h_c16_4 : Lv (mk (wrR (mk (wrR (mk (wrR (mk (wrR M 12 0 (some 4)) 12 32) 12 1 (some 13)) 12 32) 12 2 (some 14)) 12 121) 12 3 (some 15)) 12 121) 16 12 := lvNew (by omega) hN_3
  have hN_4 : mN (mk (wrR (mk (wrR (mk (wrR (mk (wrR M 12 0 (some 4)) 12 32) 12 1 (some 13)) 12 32) 12 2 (some 14)) 12 121) 12 3 (some 15)) 12 121) = 17 := by show mN (wrR (mk (wrR (mk (wrR (mk (wrR M 12 0 (some 4)) 12 32) 12 1 (some 13)) 12 32) 12 2 (some 14)) 12 121) 12 3 (some 15)) + 1 = 17; rw [show mN (wrR (mk (wrR (mk (wrR (mk (wrR M 12 0 (some 4)) 12 32) 12 1 (some 13)) 12 32) 12 2 (some 14)) 12 121) 12 3 (some 15)) = 16 from hN_3]
  show T K_X1_init 38 [some (aR (some 12)), some (aR (some 4))] [aR (some 16), aR (some 12)] (mk (wrR (mk (wrR (mk (wrR (mk (wrR M 12 0 (some 4)) 12 32) 12 1 (some 13)) 12 32) 12 2 (some 14)) 12 121) 12 3 (some 15)) 12 121) fin
  refine th_putFR ff_1_4 rfl rfl rfl h_c12_4 w150 dX1_init_38 ?_
  exact th_vret rfl dX1_init_41 k1

set_option maxRecDepth 20000 in
theorem s_X3_init_0 {M : AM} {fin : Fin'} (h_t : Lv M 18 3) (hN : mN M = 19)
    (k1 : (.inl (none, wrR (mk (wrR (mk (wrR (mk (wrR (mk (wrR (mk (wrR (mk (wrR M 18 0 (some 4)) 12 11600) 18 1 (some 19)) 11 800) 18 2 (some 20)) 14 100) 18 3 (some 21)) 11 100) 18 4 (some 22)) 11 100) 18 5 (some 23)) 11 100) 18 6 (some 24)) : Fin') = fin) :
    Tv K_X3_init [aR (some 18), aR (some 4)] M fin := by
  refine ⟨Nat.le_of_ble_eq_true rfl, ?_⟩
  show T K_X3_init 0 [some (aR (some 18)), some (aR (some 4))] [] M fin
  refine th_aload_n dX3_init_0 rfl ?_
  refine th_objI w190 w87 w88 (by decide) (Nat.le_of_ble_eq_true rfl) dX3_init_1 ?_
  refine th_aload_n dX3_init_4 rfl ?_
  refine th_aload_n dX3_init_5 rfl ?_
  refine th_putFR ff_3_0 rfl rfl rfl h_t w192 dX3_init_6 ?_
  refine th_aload_n dX3_init_9 rfl ?_
  refine th_sipush (u := 11600) dX3_init_10 (by decide) ?_
  refine th_newaJ w162 dX3_init_13 (by decide) (n := 11600) (by decide) (by decide) ?_
  rw [show mN (wrR M 18 0 (some 4)) = 19 from hN]
  have h_c18_1 := lvMk (k' := 12) (n := 11600) (M := (wrR M 18 0 (some 4))) h_t
  have h_c19_1 : Lv (mk (wrR M 18 0 (some 4)) 12 11600) 19 12 := lvNew (by omega) hN
  have hN_1 : mN (mk (wrR M 18 0 (some 4)) 12 11600) = 20 := by show mN (wrR M 18 0 (some 4)) + 1 = 20; rw [show mN (wrR M 18 0 (some 4)) = 19 from hN]
  show T K_X3_init 15 [some (aR (some 18)), some (aR (some 4))] [aR (some 19), aR (some 18)] (mk (wrR M 18 0 (some 4)) 12 11600) fin
  refine th_putFR ff_3_1 rfl rfl rfl h_c18_1 w193 dX3_init_15 ?_
  refine th_aload_n dX3_init_18 rfl ?_
  refine th_sipush (u := 800) dX3_init_19 (by decide) ?_
  refine th_newaI w112 dX3_init_22 (by decide) (n := 800) (by decide) (by decide) ?_
  rw [show mN (wrR (mk (wrR M 18 0 (some 4)) 12 11600) 18 1 (some 19)) = 20 from hN_1]
  have h_c18_2 := lvMk (k' := 11) (n := 800) (M := (wrR (mk (wrR M 18 0 (some 4)) 12 11600) 18 1 (some 19))) h_c18_1
  have h_c19_2 := lvMk (k' := 11) (n := 800) (M := (wrR (mk (wrR M 18 0 (some 4)) 12 11600) 18 1 (some 19))) h_c19_1
  have h_c20_2 : Lv (mk (wrR (mk (wrR M 18 0 (some 4)) 12 11600) 18 1 (some 19)) 11 800) 20 11 := lvNew (by omega) hN_1
  have hN_2 : mN (mk (wrR (mk (wrR M 18 0 (some 4)) 12 11600) 18 1 (some 19)) 11 800) = 21 := by show mN (wrR (mk (wrR M 18 0 (some 4)) 12 11600) 18 1 (some 19)) + 1 = 21; rw [show mN (wrR (mk (wrR M 18 0 (some 4)) 12 11600) 18 1 (some 19)) = 20 from hN_1]
  show T K_X3_init 24 [some (aR (some 18)), some (aR (some 4))] [aR (some 20), aR (some 18)] (mk (wrR (mk (wrR M 18 0 (some 4)) 12 11600) 18 1 (some 19)) 11 800) fin
  refine th_putFR ff_3_2 rfl rfl rfl h_c18_2 w194 dX3_init_24 ?_
  refine th_aload_n dX3_init_27 rfl ?_
  refine th_bipush (u := 100) dX3_init_28 (by decide) ?_
  refine th_anew w191 dX3_init_30 (by decide) (n := 100) (by decide) (by decide) ?_
  rw [show mN (wrR (mk (wrR (mk (wrR M 18 0 (some 4)) 12 11600) 18 1 (some 19)) 11 800) 18 2 (some 20)) = 21 from hN_2]
  have h_c18_3 := lvMk (k' := 14) (n := 100) (M := (wrR (mk (wrR (mk (wrR M 18 0 (some 4)) 12 11600) 18 1 (some 19)) 11 800) 18 2 (some 20))) h_c18_2
  have h_c19_3 := lvMk (k' := 14) (n := 100) (M := (wrR (mk (wrR (mk (wrR M 18 0 (some 4)) 12 11600) 18 1 (some 19)) 11 800) 18 2 (some 20))) h_c19_2
  have h_c20_3 := lvMk (k' := 14) (n := 100) (M := (wrR (mk (wrR (mk (wrR M 18 0 (some 4)) 12 11600) 18 1 (some 19)) 11 800) 18 2 (some 20))) h_c20_2
  have h_c21_3 : Lv (mk (wrR (mk (wrR (mk (wrR M 18 0 (some 4)) 12 11600) 18 1 (some 19)) 11 800) 18 2 (some 20)) 14 100) 21 14 := lvNew (by omega) hN_2
  have hN_3 : mN (mk (wrR (mk (wrR (mk (wrR M 18 0 (some 4)) 12 11600) 18 1 (some 19)) 11 800) 18 2 (some 20)) 14 100) = 22 := by show mN (wrR (mk (wrR (mk (wrR M 18 0 (some 4)) 12 11600) 18 1 (some 19)) 11 800) 18 2 (some 20)) + 1 = 22; rw [show mN (wrR (mk (wrR (mk (wrR M 18 0 (some 4)) 12 11600) 18 1 (some 19)) 11 800) 18 2 (some 20)) = 21 from hN_2]
  show T K_X3_init 33 [some (aR (some 18)), some (aR (some 4))] [aR (some 21), aR (some 18)] (mk (wrR (mk (wrR (mk (wrR M 18 0 (some 4)) 12 11600) 18 1 (some 19)) 11 800) 18 2 (some 20)) 14 100) fin
  refine th_putFR ff_3_3 rfl rfl rfl h_c18_3 w195 dX3_init_33 ?_
  refine th_aload_n dX3_init_36 rfl ?_
  refine th_bipush (u := 100) dX3_init_37 (by decide) ?_
  refine th_newaI w112 dX3_init_39 (by decide) (n := 100) (by decide) (by decide) ?_
  rw [show mN (wrR (mk (wrR (mk (wrR (mk (wrR M 18 0 (some 4)) 12 11600) 18 1 (some 19)) 11 800) 18 2 (some 20)) 14 100) 18 3 (some 21)) = 22 from hN_3]
  have h_c18_4 := lvMk (k' := 11) (n := 100) (M := (wrR (mk (wrR (mk (wrR (mk (wrR M 18 0 (some 4)) 12 11600) 18 1 (some 19)) 11 800) 18 2 (some 20)) 14 100) 18 3 (some 21))) h_c18_3
  have h_c19_4 := lvMk (k' := 11) (n := 100) (M := (wrR (mk (wrR (mk (wrR (mk (wrR M 18 0 (some 4)) 12 11600) 18 1 (some 19)) 11 800) 18 2 (some 20)) 14 100) 18 3 (some 21))) h_c19_3
  have h_c20_4 := lvMk (k' := 11) (n := 100) (M := (wrR (mk (wrR (mk (wrR (mk (wrR M 18 0 (some 4)) 12 11600) 18 1 (some 19)) 11 800) 18 2 (some 20)) 14 100) 18 3 (some 21))) h_c20_3
  have h_c21_4 := lvMk (k' := 11) (n := 100) (M := (wrR (mk (wrR (mk (wrR (mk (wrR M 18 0 (some 4)) 12 11600) 18 1 (some 19)) 11 800) 18 2 (some 20)) 14 100) 18 3 (some 21))) h_c21_3
  have h_c22_4 : Lv (mk (wrR (mk (wrR (mk (wrR (mk (wrR M 18 0 (some 4)) 12 11600) 18 1 (some 19)) 11 800) 18 2 (some 20)) 14 100) 18 3 (some 21)) 11 100) 22 11 := lvNew (by omega) hN_3
  have hN_4 : mN (mk (wrR (mk (wrR (mk (wrR (mk (wrR M 18 0 (some 4)) 12 11600) 18 1 (some 19)) 11 800) 18 2 (some 20)) 14 100) 18 3 (some 21)) 11 100) = 23 := by show mN (wrR (mk (wrR (mk (wrR (mk (wrR M 18 0 (some 4)) 12 11600) 18 1 (some 19)) 11 800) 18 2 (some 20)) 14 100) 18 3 (some 21)) + 1 = 23; rw [show mN (wrR (mk (wrR (mk (wrR (mk (wrR M 18 0 (some 4)) 12 11600) 18 1 (some 19)) 11 800) 18 2 (some 20)) 14 100) 18 3 (some 21)) = 22 from hN_3]
  show T K_X3_init 41 [some (aR (some 18)), some (aR (some 4))] [aR (some 22), aR (some 18)] (mk (wrR (mk (wrR (mk (wrR (mk (wrR M 18 0 (some 4)) 12 11600) 18 1 (some 19)) 11 800) 18 2 (some 20)) 14 100) 18 3 (some 21)) 11 100) fin
  refine th_putFR ff_3_4 rfl rfl rfl h_c18_4 w196 dX3_init_41 ?_
  refine th_aload_n dX3_init_44 rfl ?_
  refine th_bipush (u := 100) dX3_init_45 (by decide) ?_
  refine th_newaI w112 dX3_init_47 (by decide) (n := 100) (by decide) (by decide) ?_
  rw [show mN (wrR (mk (wrR (mk (wrR (mk (wrR (mk (wrR M 18 0 (some 4)) 12 11600) 18 1 (some 19)) 11 800) 18 2 (some 20)) 14 100) 18 3 (some 21)) 11 100) 18 4 (some 22)) = 23 from hN_4]
  have h_c18_5 := lvMk (k' := 11) (n := 100) (M := (wrR (mk (wrR (mk (wrR (mk (wrR (mk (wrR M 18 0 (some 4)) 12 11600) 18 1 (some 19)) 11 800) 18 2 (some 20)) 14 100) 18 3 (some 21)) 11 100) 18 4 (some 22))) h_c18_4
  have h_c19_5 := lvMk (k' := 11) (n := 100) (M := (wrR (mk (wrR (mk (wrR (mk (wrR (mk (wrR M 18 0 (some 4)) 12 11600) 18 1 (some 19)) 11 800) 18 2 (some 20)) 14 100) 18 3 (some 21)) 11 100) 18 4 (some 22))) h_c19_4
  have h_c20_5 := lvMk (k' := 11) (n := 100) (M := (wrR (mk (wrR (mk (wrR (mk (wrR (mk (wrR M 18 0 (some 4)) 12 11600) 18 1 (some 19)) 11 800) 18 2 (some 20)) 14 100) 18 3 (some 21)) 11 100) 18 4 (some 22))) h_c20_4
  have h_c21_5 := lvMk (k' := 11) (n := 100) (M := (wrR (mk (wrR (mk (wrR (mk (wrR (mk (wrR M 18 0 (some 4)) 12 11600) 18 1 (some 19)) 11 800) 18 2 (some 20)) 14 100) 18 3 (some 21)) 11 100) 18 4 (some 22))) h_c21_4
  have h_c22_5 := lvMk (k' := 11) (n := 100) (M := (wrR (mk (wrR (mk (wrR (mk (wrR (mk (wrR M 18 0 (some 4)) 12 11600) 18 1 (some 19)) 11 800) 18 2 (some 20)) 14 100) 18 3 (some 21)) 11 100) 18 4 (some 22))) h_c22_4
  have h_c23_5 : Lv (mk (wrR (mk (wrR (mk (wrR (mk (wrR (mk (wrR M 18 0 (some 4)) 12 11600) 18 1 (some 19)) 11 800) 18 2 (some 20)) 14 100) 18 3 (some 21)) 11 100) 18 4 (some 22)) 11 100) 23 11 := lvNew (by omega) hN_4
  have hN_5 : mN (mk (wrR (mk (wrR (mk (wrR (mk (wrR (mk (wrR M 18 0 (some 4)) 12 11600) 18 1 (some 19)) 11 800) 18 2 (some 20)) 14 100) 18 3 (some 21)) 11 100) 18 4 (some 22)) 11 100) = 24 := by show mN (wrR (mk (wrR (mk (wrR (mk (wrR (mk (wrR M 18 0 (some 4)) 12 11600) 18 1 (some 19)) 11 800) 18 2 (some 20)) 14 100) 18 3 (some 21)) 11 100) 18 4 (some 22)) + 1 = 24; rw [show mN (wrR (mk (wrR (mk (wrR (mk (wrR (mk (wrR M 18 0 (some 4)) 12 11600) 18 1 (some 19)) 11 800) 18 2 (some 20)) 14 100) 18 3 (some 21)) 11 100) 18 4 (some 22)) = 23 from hN_4]
  show T K_X3_init 49 [some (aR (some 18)), some (aR (some 4))] [aR (some 23), aR (some 18)] (mk (wrR (mk (wrR (mk (wrR (mk (wrR (mk (wrR M 18 0 (some 4)) 12 11600) 18 1 (some 19)) 11 800) 18 2 (some 20)) 14 100) 18 3 (some 21)) 11 100) 18 4 (some 22)) 11 100) fin
  refine th_putFR ff_3_5 rfl rfl rfl h_c18_5 w197 dX3_init_49 ?_
  refine th_aload_n dX3_init_52 rfl ?_
  refine th_bipush (u := 100) dX3_init_53 (by decide) ?_
  refine th_newaI w112 dX3_init_55 (by decide) (n := 100) (by decide) (by decide) ?_
  rw [show mN (wrR (mk (wrR (mk (wrR (mk (wrR (mk (wrR (mk (wrR M 18 0 (some 4)) 12 11600) 18 1 (some 19)) 11 800) 18 2 (some 20)) 14 100) 18 3 (some 21)) 11 100) 18 4 (some 22)) 11 100) 18 5 (some 23)) = 24 from hN_5]
  have h_c18_6 := lvMk (k' := 11) (n := 100) (M := (wrR (mk (wrR (mk (wrR (mk (wrR (mk (wrR (mk (wrR M 18 0 (some 4)) 12 11600) 18 1 (some 19)) 11 800) 18 2 (some 20)) 14 100) 18 3 (some 21)) 11 100) 18 4 (some 22)) 11 100) 18 5 (some 23))) h_c18_5
  have h_c19_6 := lvMk (k' := 11) (n := 100) (M := (wrR (mk (wrR (mk (wrR (mk (wrR (mk (wrR (mk (wrR M 18 0 (some 4)) 12 11600) 18 1 (some 19)) 11 800) 18 2 (some 20)) 14 100) 18 3 (some 21)) 11 100) 18 4 (some 22)) 11 100) 18 5 (some 23))) h_c19_5
  have h_c20_6 := lvMk (k' := 11) (n := 100) (M := (wrR (mk (wrR (mk (wrR (mk (wrR (mk (wrR (mk (wrR M 18 0 (some 4)) 12 11600) 18 1 (some 19)) 11 800) 18 2 (some 20)) 14 100) 18 3 (some 21)) 11 100) 18 4 (some 22)) 11 100) 18 5 (some 23))) h_c20_5
  have h_c21_6 := lvMk (k' := 11) (n := 100) (M := (wrR (mk (wrR (mk (wrR (mk (wrR (mk (wrR (mk (wrR M 18 0 (some 4)) 12 11600) 18 1 (some 19)) 11 800) 18 2 (some 20)) 14 100) 18 3 (some 21)) 11 100) 18 4 (some 22)) 11 100) 18 5 (some 23))) h_c21_5
  have h_c22_6 := lvMk (k' := 11) (n := 100) (M := (wrR (mk (wrR (mk (wrR (mk (wrR (mk (wrR (mk (wrR M 18 0 (some 4)) 12 11600) 18 1 (some 19)) 11 800) 18 2 (some 20)) 14 100) 18 3 (some 21)) 11 100) 18 4 (some 22)) 11 100) 18 5 (some 23))) h_c22_5
  have h_c23_6 := lvMk (k' := 11) (n := 100) (M := (wrR (mk (wrR (mk (wrR (mk (wrR (mk (wrR (mk (wrR M 18 0 (some 4)) 12 11600) 18 1 (some 19)) 11 800) 18 2 (some 20)) 14 100) 18 3 (some 21)) 11 100) 18 4 (some 22)) 11 100) 18 5 (some 23))) h_c23_5
  have h_c24_6 : Lv (mk (wrR (mk (wrR (mk (wrR (mk (wrR (mk (wrR (mk (wrR M 18 0 (some 4)) 12 11600) 18 1 (some 19)) 11 800) 18 2 (some 20)) 14 100) 18 3 (some 21)) 11 100) 18 4 (some 22)) 11 100) 18 5 (some 23)) 11 100) 24 11 := lvNew (by omega) hN_5
  have hN_6 : mN (mk (wrR (mk (wrR (mk (wrR (mk (wrR (mk (wrR (mk (wrR M 18 0 (some 4)) 12 11600) 18 1 (some 19)) 11 800) 18 2 (some 20)) 14 100) 18 3 (some 21)) 11 100) 18 4 (some 22)) 11 100) 18 5 (some 23)) 11 100) = 25 := by show mN (wrR (mk (wrR (mk (wrR (mk (wrR (mk (wrR (mk (wrR M 18 0 (some 4)) 12 11600) 18 1 (some 19)) 11 800) 18 2 (some 20)) 14 100) 18 3 (some 21)) 11 100) 18 4 (some 22)) 11 100) 18 5 (some 23)) + 1 = 25; rw [show mN (wrR (mk (wrR (mk (wrR (mk (wrR (mk (wrR (mk (wrR M 18 0 (some 4)) 12 11600) 18 1 (some 19)) 11 800) 18 2 (some 20)) 14 100) 18 3 (some 21)) 11 100) 18 4 (some 22)) 11 100) 18 5 (some 23)) = 24 from hN_5]
  show T K_X3_init 57 [some (aR (some 18)), some (aR (some 4))] [aR (some 24), aR (some 18)] (mk (wrR (mk (wrR (mk (wrR (mk (wrR (mk (wrR (mk (wrR M 18 0 (some 4)) 12 11600) 18 1 (some 19)) 11 800) 18 2 (some 20)) 14 100) 18 3 (some 21)) 11 100) 18 4 (some 22)) 11 100) 18 5 (some 23)) 11 100) fin
  refine th_putFR ff_3_6 rfl rfl rfl h_c18_6 w198 dX3_init_57 ?_
  exact th_vret rfl dX3_init_60 k1

set_option maxRecDepth 20000 in
theorem s_X4_init_0 {M : AM} {fin : Fin'} {m0 : Nat} {x1 : Int32} {x2 : Int32} {x3 : Int32} (h_t : Lv M m0 4) (hN : mN M = m0 + 1)
    (k1 : (.inl (none, wrI (wrI (wrI (wrI (wrR (mk (wrR (mk (wrR (mk (wrR (mk (wrI (wrI (wrI M m0 0 x1) m0 1 x2) m0 2 x3) 11 120) m0 3 (some (m0 + 1))) 12 120) m0 4 (some (m0 + 2))) 11 120) m0 5 (some (m0 + 3))) 11 120) m0 6 (some (m0 + 4))) m0 7 0) m0 8 0) m0 9 (-1)) m0 10 0) : Fin') = fin) :
    Tv K_X4_init [aR (some m0), aI x1, aI x2, aI x3] M fin := by
  refine ⟨Nat.le_of_ble_eq_true rfl, ?_⟩
  show T K_X4_init 0 [some (aR (some m0)), some (aI x1), some (aI x2), some (aI x3)] [] M fin
  refine th_aload_n dX4_init_0 rfl ?_
  refine th_objI w351 w87 w88 (by decide) (Nat.le_of_ble_eq_true rfl) dX4_init_1 ?_
  refine th_aload_n dX4_init_4 rfl ?_
  refine th_iload_n dX4_init_5 rfl ?_
  refine th_putFI ff_4_0 rfl rfl rfl h_t w352 dX4_init_6 ?_
  refine th_aload_n dX4_init_9 rfl ?_
  refine th_iload_n dX4_init_10 rfl ?_
  refine th_putFI ff_4_1 rfl rfl rfl h_t w357 dX4_init_11 ?_
  refine th_aload_n dX4_init_14 rfl ?_
  refine th_iload_n dX4_init_15 rfl ?_
  refine th_putFI ff_4_2 rfl rfl rfl h_t w360 dX4_init_16 ?_
  refine th_aload_n dX4_init_19 rfl ?_
  refine th_bipush (u := 120) dX4_init_20 (by decide) ?_
  refine th_newaI w112 dX4_init_22 (by decide) (n := 120) (by decide) (by decide) ?_
  rw [show mN (wrI (wrI (wrI M m0 0 x1) m0 1 x2) m0 2 x3) = m0 + 1 from hN]
  have h_cm0_1 := lvMk (k' := 11) (n := 120) (M := (wrI (wrI (wrI M m0 0 x1) m0 1 x2) m0 2 x3)) h_t
  have h_cm01_1 : Lv (mk (wrI (wrI (wrI M m0 0 x1) m0 1 x2) m0 2 x3) 11 120) (m0 + 1) 11 := lvNew (by have := h_t.1; omega) hN
  have hN_1 : mN (mk (wrI (wrI (wrI M m0 0 x1) m0 1 x2) m0 2 x3) 11 120) = m0 + 2 := by show mN (wrI (wrI (wrI M m0 0 x1) m0 1 x2) m0 2 x3) + 1 = m0 + 2; rw [show mN (wrI (wrI (wrI M m0 0 x1) m0 1 x2) m0 2 x3) = m0 + 1 from hN]
  show T K_X4_init 24 [some (aR (some m0)), some (aI x1), some (aI x2), some (aI x3)] [aR (some (m0 + 1)), aR (some m0)] (mk (wrI (wrI (wrI M m0 0 x1) m0 1 x2) m0 2 x3) 11 120) fin
  refine th_putFR ff_4_3 rfl rfl rfl h_cm0_1 w364 dX4_init_24 ?_
  refine th_aload_n dX4_init_27 rfl ?_
  refine th_bipush (u := 120) dX4_init_28 (by decide) ?_
  refine th_newaJ w162 dX4_init_30 (by decide) (n := 120) (by decide) (by decide) ?_
  rw [show mN (wrR (mk (wrI (wrI (wrI M m0 0 x1) m0 1 x2) m0 2 x3) 11 120) m0 3 (some (m0 + 1))) = m0 + 2 from hN_1]
  have h_cm0_2 := lvMk (k' := 12) (n := 120) (M := (wrR (mk (wrI (wrI (wrI M m0 0 x1) m0 1 x2) m0 2 x3) 11 120) m0 3 (some (m0 + 1)))) h_cm0_1
  have h_cm01_2 := lvMk (k' := 12) (n := 120) (M := (wrR (mk (wrI (wrI (wrI M m0 0 x1) m0 1 x2) m0 2 x3) 11 120) m0 3 (some (m0 + 1)))) h_cm01_1
  have h_cm02_2 : Lv (mk (wrR (mk (wrI (wrI (wrI M m0 0 x1) m0 1 x2) m0 2 x3) 11 120) m0 3 (some (m0 + 1))) 12 120) (m0 + 2) 12 := lvNew (by have := h_t.1; omega) hN_1
  have hN_2 : mN (mk (wrR (mk (wrI (wrI (wrI M m0 0 x1) m0 1 x2) m0 2 x3) 11 120) m0 3 (some (m0 + 1))) 12 120) = m0 + 3 := by show mN (wrR (mk (wrI (wrI (wrI M m0 0 x1) m0 1 x2) m0 2 x3) 11 120) m0 3 (some (m0 + 1))) + 1 = m0 + 3; rw [show mN (wrR (mk (wrI (wrI (wrI M m0 0 x1) m0 1 x2) m0 2 x3) 11 120) m0 3 (some (m0 + 1))) = m0 + 2 from hN_1]
  show T K_X4_init 32 [some (aR (some m0)), some (aI x1), some (aI x2), some (aI x3)] [aR (some (m0 + 2)), aR (some m0)] (mk (wrR (mk (wrI (wrI (wrI M m0 0 x1) m0 1 x2) m0 2 x3) 11 120) m0 3 (some (m0 + 1))) 12 120) fin
  refine th_putFR ff_4_4 rfl rfl rfl h_cm0_2 w369 dX4_init_32 ?_
  refine th_aload_n dX4_init_35 rfl ?_
  refine th_bipush (u := 120) dX4_init_36 (by decide) ?_
  refine th_newaI w112 dX4_init_38 (by decide) (n := 120) (by decide) (by decide) ?_
  rw [show mN (wrR (mk (wrR (mk (wrI (wrI (wrI M m0 0 x1) m0 1 x2) m0 2 x3) 11 120) m0 3 (some (m0 + 1))) 12 120) m0 4 (some (m0 + 2))) = m0 + 3 from hN_2]
  have h_cm0_3 := lvMk (k' := 11) (n := 120) (M := (wrR (mk (wrR (mk (wrI (wrI (wrI M m0 0 x1) m0 1 x2) m0 2 x3) 11 120) m0 3 (some (m0 + 1))) 12 120) m0 4 (some (m0 + 2)))) h_cm0_2
  have h_cm01_3 := lvMk (k' := 11) (n := 120) (M := (wrR (mk (wrR (mk (wrI (wrI (wrI M m0 0 x1) m0 1 x2) m0 2 x3) 11 120) m0 3 (some (m0 + 1))) 12 120) m0 4 (some (m0 + 2)))) h_cm01_2
  have h_cm02_3 := lvMk (k' := 11) (n := 120) (M := (wrR (mk (wrR (mk (wrI (wrI (wrI M m0 0 x1) m0 1 x2) m0 2 x3) 11 120) m0 3 (some (m0 + 1))) 12 120) m0 4 (some (m0 + 2)))) h_cm02_2
  have h_cm03_3 : Lv (mk (wrR (mk (wrR (mk (wrI (wrI (wrI M m0 0 x1) m0 1 x2) m0 2 x3) 11 120) m0 3 (some (m0 + 1))) 12 120) m0 4 (some (m0 + 2))) 11 120) (m0 + 3) 11 := lvNew (by have := h_t.1; omega) hN_2
  have hN_3 : mN (mk (wrR (mk (wrR (mk (wrI (wrI (wrI M m0 0 x1) m0 1 x2) m0 2 x3) 11 120) m0 3 (some (m0 + 1))) 12 120) m0 4 (some (m0 + 2))) 11 120) = m0 + 4 := by show mN (wrR (mk (wrR (mk (wrI (wrI (wrI M m0 0 x1) m0 1 x2) m0 2 x3) 11 120) m0 3 (some (m0 + 1))) 12 120) m0 4 (some (m0 + 2))) + 1 = m0 + 4; rw [show mN (wrR (mk (wrR (mk (wrI (wrI (wrI M m0 0 x1) m0 1 x2) m0 2 x3) 11 120) m0 3 (some (m0 + 1))) 12 120) m0 4 (some (m0 + 2))) = m0 + 3 from hN_2]
  show T K_X4_init 40 [some (aR (some m0)), some (aI x1), some (aI x2), some (aI x3)] [aR (some (m0 + 3)), aR (some m0)] (mk (wrR (mk (wrR (mk (wrI (wrI (wrI M m0 0 x1) m0 1 x2) m0 2 x3) 11 120) m0 3 (some (m0 + 1))) 12 120) m0 4 (some (m0 + 2))) 11 120) fin
  refine th_putFR ff_4_5 rfl rfl rfl h_cm0_3 w374 dX4_init_40 ?_
  refine th_aload_n dX4_init_43 rfl ?_
  refine th_bipush (u := 120) dX4_init_44 (by decide) ?_
  refine th_newaI w112 dX4_init_46 (by decide) (n := 120) (by decide) (by decide) ?_
  rw [show mN (wrR (mk (wrR (mk (wrR (mk (wrI (wrI (wrI M m0 0 x1) m0 1 x2) m0 2 x3) 11 120) m0 3 (some (m0 + 1))) 12 120) m0 4 (some (m0 + 2))) 11 120) m0 5 (some (m0 + 3))) = m0 + 4 from hN_3]
  have h_cm0_4 := lvMk (k' := 11) (n := 120) (M := (wrR (mk (wrR (mk (wrR (mk (wrI (wrI (wrI M m0 0 x1) m0 1 x2) m0 2 x3) 11 120) m0 3 (some (m0 + 1))) 12 120) m0 4 (some (m0 + 2))) 11 120) m0 5 (some (m0 + 3)))) h_cm0_3
  have h_cm01_4 := lvMk (k' := 11) (n := 120) (M := (wrR (mk (wrR (mk (wrR (mk (wrI (wrI (wrI M m0 0 x1) m0 1 x2) m0 2 x3) 11 120) m0 3 (some (m0 + 1))) 12 120) m0 4 (some (m0 + 2))) 11 120) m0 5 (some (m0 + 3)))) h_cm01_3
  have h_cm02_4 := lvMk (k' := 11) (n := 120) (M := (wrR (mk (wrR (mk (wrR (mk (wrI (wrI (wrI M m0 0 x1) m0 1 x2) m0 2 x3) 11 120) m0 3 (some (m0 + 1))) 12 120) m0 4 (some (m0 + 2))) 11 120) m0 5 (some (m0 + 3)))) h_cm02_3
  have h_cm03_4 := lvMk (k' := 11) (n := 120) (M := (wrR (mk (wrR (mk (wrR (mk (wrI (wrI (wrI M m0 0 x1) m0 1 x2) m0 2 x3) 11 120) m0 3 (some (m0 + 1))) 12 120) m0 4 (some (m0 + 2))) 11 120) m0 5 (some (m0 + 3)))) h_cm03_3
  have h_cm04_4 : Lv (mk (wrR (mk (wrR (mk (wrR (mk (wrI (wrI (wrI M m0 0 x1) m0 1 x2) m0 2 x3) 11 120) m0 3 (some (m0 + 1))) 12 120) m0 4 (some (m0 + 2))) 11 120) m0 5 (some (m0 + 3))) 11 120) (m0 + 4) 11 := lvNew (by have := h_t.1; omega) hN_3
  have hN_4 : mN (mk (wrR (mk (wrR (mk (wrR (mk (wrI (wrI (wrI M m0 0 x1) m0 1 x2) m0 2 x3) 11 120) m0 3 (some (m0 + 1))) 12 120) m0 4 (some (m0 + 2))) 11 120) m0 5 (some (m0 + 3))) 11 120) = m0 + 5 := by show mN (wrR (mk (wrR (mk (wrR (mk (wrI (wrI (wrI M m0 0 x1) m0 1 x2) m0 2 x3) 11 120) m0 3 (some (m0 + 1))) 12 120) m0 4 (some (m0 + 2))) 11 120) m0 5 (some (m0 + 3))) + 1 = m0 + 5; rw [show mN (wrR (mk (wrR (mk (wrR (mk (wrI (wrI (wrI M m0 0 x1) m0 1 x2) m0 2 x3) 11 120) m0 3 (some (m0 + 1))) 12 120) m0 4 (some (m0 + 2))) 11 120) m0 5 (some (m0 + 3))) = m0 + 4 from hN_3]
  show T K_X4_init 48 [some (aR (some m0)), some (aI x1), some (aI x2), some (aI x3)] [aR (some (m0 + 4)), aR (some m0)] (mk (wrR (mk (wrR (mk (wrR (mk (wrI (wrI (wrI M m0 0 x1) m0 1 x2) m0 2 x3) 11 120) m0 3 (some (m0 + 1))) 12 120) m0 4 (some (m0 + 2))) 11 120) m0 5 (some (m0 + 3))) 11 120) fin
  refine th_putFR ff_4_6 rfl rfl rfl h_cm0_4 w378 dX4_init_48 ?_
  refine th_aload_n dX4_init_51 rfl ?_
  refine th_iconst (u := 0) dX4_init_52 (by decide) ?_
  refine th_putI ff_4_7 rfl h_cm0_4 w381 dX4_init_53 ?_
  refine th_aload_n dX4_init_56 rfl ?_
  refine th_iconst (u := 0) dX4_init_57 (by decide) ?_
  refine th_putI ff_4_8 rfl h_cm0_4 w385 dX4_init_58 ?_
  refine th_aload_n dX4_init_61 rfl ?_
  refine th_iconst (u := (-1)) dX4_init_62 (by decide) ?_
  refine th_putI ff_4_9 rfl h_cm0_4 w387 dX4_init_63 ?_
  refine th_aload_n dX4_init_66 rfl ?_
  refine th_iconst (u := 0) dX4_init_67 (by decide) ?_
  refine th_putI ff_4_10 rfl h_cm0_4 w389 dX4_init_68 ?_
  exact th_vret rfl dX4_init_71 k1

set_option maxRecDepth 20000 in
theorem s_X7_init_0 {M : AM} {fin : Fin'} (h_t : Lv M 26 7) (hN : mN M = 27)
    (k1 : T K_X7_init 36 [some (aR (some 26)), none] [] (wrR (mk (wrR (mk (wrR (mk (wrR (mk M 11 32) 26 0 (some 27)) 11 32) 26 1 (some 28)) 11 32) 26 2 (some 29)) 11 32) 26 3 (some 30)) fin) :
    Tv K_X7_init [aR (some 26)] M fin := by
  refine ⟨Nat.le_of_ble_eq_true rfl, ?_⟩
  show T K_X7_init 0 [some (aR (some 26)), none] [] M fin
  refine th_aload_n dX7_init_0 rfl ?_
  refine th_objI w834 w87 w88 (by decide) (Nat.le_of_ble_eq_true rfl) dX7_init_1 ?_
  refine th_aload_n dX7_init_4 rfl ?_
  refine th_bipush (u := 32) dX7_init_5 (by decide) ?_
  refine th_newaI w112 dX7_init_7 (by decide) (n := 32) (by decide) (by decide) ?_
  rw [show mN M = 27 from hN]
  have h_c26_1 := lvMk (k' := 11) (n := 32) (M := M) h_t
  have h_c27_1 : Lv (mk M 11 32) 27 11 := lvNew (by omega) hN
  have hN_1 : mN (mk M 11 32) = 28 := by show mN M + 1 = 28; rw [show mN M = 27 from hN]
  show T K_X7_init 9 [some (aR (some 26)), none] [aR (some 27), aR (some 26)] (mk M 11 32) fin
  refine th_putFR ff_7_0 rfl rfl rfl h_c26_1 w835 dX7_init_9 ?_
  refine th_aload_n dX7_init_12 rfl ?_
  refine th_bipush (u := 32) dX7_init_13 (by decide) ?_
  refine th_newaI w112 dX7_init_15 (by decide) (n := 32) (by decide) (by decide) ?_
  rw [show mN (wrR (mk M 11 32) 26 0 (some 27)) = 28 from hN_1]
  have h_c26_2 := lvMk (k' := 11) (n := 32) (M := (wrR (mk M 11 32) 26 0 (some 27))) h_c26_1
  have h_c27_2 := lvMk (k' := 11) (n := 32) (M := (wrR (mk M 11 32) 26 0 (some 27))) h_c27_1
  have h_c28_2 : Lv (mk (wrR (mk M 11 32) 26 0 (some 27)) 11 32) 28 11 := lvNew (by omega) hN_1
  have hN_2 : mN (mk (wrR (mk M 11 32) 26 0 (some 27)) 11 32) = 29 := by show mN (wrR (mk M 11 32) 26 0 (some 27)) + 1 = 29; rw [show mN (wrR (mk M 11 32) 26 0 (some 27)) = 28 from hN_1]
  show T K_X7_init 17 [some (aR (some 26)), none] [aR (some 28), aR (some 26)] (mk (wrR (mk M 11 32) 26 0 (some 27)) 11 32) fin
  refine th_putFR ff_7_1 rfl rfl rfl h_c26_2 w836 dX7_init_17 ?_
  refine th_aload_n dX7_init_20 rfl ?_
  refine th_bipush (u := 32) dX7_init_21 (by decide) ?_
  refine th_newaI w112 dX7_init_23 (by decide) (n := 32) (by decide) (by decide) ?_
  rw [show mN (wrR (mk (wrR (mk M 11 32) 26 0 (some 27)) 11 32) 26 1 (some 28)) = 29 from hN_2]
  have h_c26_3 := lvMk (k' := 11) (n := 32) (M := (wrR (mk (wrR (mk M 11 32) 26 0 (some 27)) 11 32) 26 1 (some 28))) h_c26_2
  have h_c27_3 := lvMk (k' := 11) (n := 32) (M := (wrR (mk (wrR (mk M 11 32) 26 0 (some 27)) 11 32) 26 1 (some 28))) h_c27_2
  have h_c28_3 := lvMk (k' := 11) (n := 32) (M := (wrR (mk (wrR (mk M 11 32) 26 0 (some 27)) 11 32) 26 1 (some 28))) h_c28_2
  have h_c29_3 : Lv (mk (wrR (mk (wrR (mk M 11 32) 26 0 (some 27)) 11 32) 26 1 (some 28)) 11 32) 29 11 := lvNew (by omega) hN_2
  have hN_3 : mN (mk (wrR (mk (wrR (mk M 11 32) 26 0 (some 27)) 11 32) 26 1 (some 28)) 11 32) = 30 := by show mN (wrR (mk (wrR (mk M 11 32) 26 0 (some 27)) 11 32) 26 1 (some 28)) + 1 = 30; rw [show mN (wrR (mk (wrR (mk M 11 32) 26 0 (some 27)) 11 32) 26 1 (some 28)) = 29 from hN_2]
  show T K_X7_init 25 [some (aR (some 26)), none] [aR (some 29), aR (some 26)] (mk (wrR (mk (wrR (mk M 11 32) 26 0 (some 27)) 11 32) 26 1 (some 28)) 11 32) fin
  refine th_putFR ff_7_2 rfl rfl rfl h_c26_3 w837 dX7_init_25 ?_
  refine th_aload_n dX7_init_28 rfl ?_
  refine th_bipush (u := 32) dX7_init_29 (by decide) ?_
  refine th_newaI w112 dX7_init_31 (by decide) (n := 32) (by decide) (by decide) ?_
  rw [show mN (wrR (mk (wrR (mk (wrR (mk M 11 32) 26 0 (some 27)) 11 32) 26 1 (some 28)) 11 32) 26 2 (some 29)) = 30 from hN_3]
  have h_c26_4 := lvMk (k' := 11) (n := 32) (M := (wrR (mk (wrR (mk (wrR (mk M 11 32) 26 0 (some 27)) 11 32) 26 1 (some 28)) 11 32) 26 2 (some 29))) h_c26_3
  have h_c27_4 := lvMk (k' := 11) (n := 32) (M := (wrR (mk (wrR (mk (wrR (mk M 11 32) 26 0 (some 27)) 11 32) 26 1 (some 28)) 11 32) 26 2 (some 29))) h_c27_3
  have h_c28_4 := lvMk (k' := 11) (n := 32) (M := (wrR (mk (wrR (mk (wrR (mk M 11 32) 26 0 (some 27)) 11 32) 26 1 (some 28)) 11 32) 26 2 (some 29))) h_c28_3
  have h_c29_4 := lvMk (k' := 11) (n := 32) (M := (wrR (mk (wrR (mk (wrR (mk M 11 32) 26 0 (some 27)) 11 32) 26 1 (some 28)) 11 32) 26 2 (some 29))) h_c29_3
  have h_c30_4 : Lv (mk (wrR (mk (wrR (mk (wrR (mk M 11 32) 26 0 (some 27)) 11 32) 26 1 (some 28)) 11 32) 26 2 (some 29)) 11 32) 30 11 := lvNew (by omega) hN_3
  have hN_4 : mN (mk (wrR (mk (wrR (mk (wrR (mk M 11 32) 26 0 (some 27)) 11 32) 26 1 (some 28)) 11 32) 26 2 (some 29)) 11 32) = 31 := by show mN (wrR (mk (wrR (mk (wrR (mk M 11 32) 26 0 (some 27)) 11 32) 26 1 (some 28)) 11 32) 26 2 (some 29)) + 1 = 31; rw [show mN (wrR (mk (wrR (mk (wrR (mk M 11 32) 26 0 (some 27)) 11 32) 26 1 (some 28)) 11 32) 26 2 (some 29)) = 30 from hN_3]
  show T K_X7_init 33 [some (aR (some 26)), none] [aR (some 30), aR (some 26)] (mk (wrR (mk (wrR (mk (wrR (mk M 11 32) 26 0 (some 27)) 11 32) 26 1 (some 28)) 11 32) 26 2 (some 29)) 11 32) fin
  refine th_putFR ff_7_3 rfl rfl rfl h_c26_4 w838 dX7_init_33 ?_
  exact k1

set_option maxRecDepth 20000 in
theorem s_X7_init_36 {M : AM} {fin : Fin'} (h_t : Lv M 26 7) (hN : mN M = 31)
    (k1 : T K_X7_init 76 [some (aR (some 26)), none] [] (wrR (mk (wrI (wrR (mk (wrR (mk (wrR (mk M 11 3840) 26 5 (some 31)) 12 3840) 26 6 (some 32)) 12 18) 26 7 (some 33)) 26 8 (-1)) 11 3840) 26 10 (some 34)) fin) :
    T K_X7_init 36 [some (aR (some 26)), none] [] M fin := by
  refine th_aload_n dX7_init_36 rfl ?_
  refine th_sipush (u := 3840) dX7_init_37 (by decide) ?_
  refine th_newaI w112 dX7_init_40 (by decide) (n := 3840) (by decide) (by decide) ?_
  rw [show mN M = 31 from hN]
  have h_c26_1 := lvMk (k' := 11) (n := 3840) (M := M) h_t
  have h_c31_1 : Lv (mk M 11 3840) 31 11 := lvNew (by omega) hN
  have hN_1 : mN (mk M 11 3840) = 32 := by show mN M + 1 = 32; rw [show mN M = 31 from hN]
  show T K_X7_init 42 [some (aR (some 26)), none] [aR (some 31), aR (some 26)] (mk M 11 3840) fin
  refine th_putFR ff_7_5 rfl rfl rfl h_c26_1 w840 dX7_init_42 ?_
  refine th_aload_n dX7_init_45 rfl ?_
  refine th_sipush (u := 3840) dX7_init_46 (by decide) ?_
  refine th_newaJ w162 dX7_init_49 (by decide) (n := 3840) (by decide) (by decide) ?_
  rw [show mN (wrR (mk M 11 3840) 26 5 (some 31)) = 32 from hN_1]
  have h_c26_2 := lvMk (k' := 12) (n := 3840) (M := (wrR (mk M 11 3840) 26 5 (some 31))) h_c26_1
  have h_c31_2 := lvMk (k' := 12) (n := 3840) (M := (wrR (mk M 11 3840) 26 5 (some 31))) h_c31_1
  have h_c32_2 : Lv (mk (wrR (mk M 11 3840) 26 5 (some 31)) 12 3840) 32 12 := lvNew (by omega) hN_1
  have hN_2 : mN (mk (wrR (mk M 11 3840) 26 5 (some 31)) 12 3840) = 33 := by show mN (wrR (mk M 11 3840) 26 5 (some 31)) + 1 = 33; rw [show mN (wrR (mk M 11 3840) 26 5 (some 31)) = 32 from hN_1]
  show T K_X7_init 51 [some (aR (some 26)), none] [aR (some 32), aR (some 26)] (mk (wrR (mk M 11 3840) 26 5 (some 31)) 12 3840) fin
  refine th_putFR ff_7_6 rfl rfl rfl h_c26_2 w841 dX7_init_51 ?_
  refine th_aload_n dX7_init_54 rfl ?_
  refine th_bipush (u := 18) dX7_init_55 (by decide) ?_
  refine th_newaJ w162 dX7_init_57 (by decide) (n := 18) (by decide) (by decide) ?_
  rw [show mN (wrR (mk (wrR (mk M 11 3840) 26 5 (some 31)) 12 3840) 26 6 (some 32)) = 33 from hN_2]
  have h_c26_3 := lvMk (k' := 12) (n := 18) (M := (wrR (mk (wrR (mk M 11 3840) 26 5 (some 31)) 12 3840) 26 6 (some 32))) h_c26_2
  have h_c31_3 := lvMk (k' := 12) (n := 18) (M := (wrR (mk (wrR (mk M 11 3840) 26 5 (some 31)) 12 3840) 26 6 (some 32))) h_c31_2
  have h_c32_3 := lvMk (k' := 12) (n := 18) (M := (wrR (mk (wrR (mk M 11 3840) 26 5 (some 31)) 12 3840) 26 6 (some 32))) h_c32_2
  have h_c33_3 : Lv (mk (wrR (mk (wrR (mk M 11 3840) 26 5 (some 31)) 12 3840) 26 6 (some 32)) 12 18) 33 12 := lvNew (by omega) hN_2
  have hN_3 : mN (mk (wrR (mk (wrR (mk M 11 3840) 26 5 (some 31)) 12 3840) 26 6 (some 32)) 12 18) = 34 := by show mN (wrR (mk (wrR (mk M 11 3840) 26 5 (some 31)) 12 3840) 26 6 (some 32)) + 1 = 34; rw [show mN (wrR (mk (wrR (mk M 11 3840) 26 5 (some 31)) 12 3840) 26 6 (some 32)) = 33 from hN_2]
  show T K_X7_init 59 [some (aR (some 26)), none] [aR (some 33), aR (some 26)] (mk (wrR (mk (wrR (mk M 11 3840) 26 5 (some 31)) 12 3840) 26 6 (some 32)) 12 18) fin
  refine th_putFR ff_7_7 rfl rfl rfl h_c26_3 w842 dX7_init_59 ?_
  refine th_aload_n dX7_init_62 rfl ?_
  refine th_iconst (u := (-1)) dX7_init_63 (by decide) ?_
  refine th_putI ff_7_8 rfl h_c26_3 w843 dX7_init_64 ?_
  refine th_aload_n dX7_init_67 rfl ?_
  refine th_sipush (u := 3840) dX7_init_68 (by decide) ?_
  refine th_newaI w112 dX7_init_71 (by decide) (n := 3840) (by decide) (by decide) ?_
  rw [show mN (wrI (wrR (mk (wrR (mk (wrR (mk M 11 3840) 26 5 (some 31)) 12 3840) 26 6 (some 32)) 12 18) 26 7 (some 33)) 26 8 (-1)) = 34 from hN_3]
  have h_c26_4 := lvMk (k' := 11) (n := 3840) (M := (wrI (wrR (mk (wrR (mk (wrR (mk M 11 3840) 26 5 (some 31)) 12 3840) 26 6 (some 32)) 12 18) 26 7 (some 33)) 26 8 (-1))) h_c26_3
  have h_c31_4 := lvMk (k' := 11) (n := 3840) (M := (wrI (wrR (mk (wrR (mk (wrR (mk M 11 3840) 26 5 (some 31)) 12 3840) 26 6 (some 32)) 12 18) 26 7 (some 33)) 26 8 (-1))) h_c31_3
  have h_c32_4 := lvMk (k' := 11) (n := 3840) (M := (wrI (wrR (mk (wrR (mk (wrR (mk M 11 3840) 26 5 (some 31)) 12 3840) 26 6 (some 32)) 12 18) 26 7 (some 33)) 26 8 (-1))) h_c32_3
  have h_c33_4 := lvMk (k' := 11) (n := 3840) (M := (wrI (wrR (mk (wrR (mk (wrR (mk M 11 3840) 26 5 (some 31)) 12 3840) 26 6 (some 32)) 12 18) 26 7 (some 33)) 26 8 (-1))) h_c33_3
  have h_c34_4 : Lv (mk (wrI (wrR (mk (wrR (mk (wrR (mk M 11 3840) 26 5 (some 31)) 12 3840) 26 6 (some 32)) 12 18) 26 7 (some 33)) 26 8 (-1)) 11 3840) 34 11 := lvNew (by omega) hN_3
  have hN_4 : mN (mk (wrI (wrR (mk (wrR (mk (wrR (mk M 11 3840) 26 5 (some 31)) 12 3840) 26 6 (some 32)) 12 18) 26 7 (some 33)) 26 8 (-1)) 11 3840) = 35 := by show mN (wrI (wrR (mk (wrR (mk (wrR (mk M 11 3840) 26 5 (some 31)) 12 3840) 26 6 (some 32)) 12 18) 26 7 (some 33)) 26 8 (-1)) + 1 = 35; rw [show mN (wrI (wrR (mk (wrR (mk (wrR (mk M 11 3840) 26 5 (some 31)) 12 3840) 26 6 (some 32)) 12 18) 26 7 (some 33)) 26 8 (-1)) = 34 from hN_3]
  show T K_X7_init 73 [some (aR (some 26)), none] [aR (some 34), aR (some 26)] (mk (wrI (wrR (mk (wrR (mk (wrR (mk M 11 3840) 26 5 (some 31)) 12 3840) 26 6 (some 32)) 12 18) 26 7 (some 33)) 26 8 (-1)) 11 3840) fin
  refine th_putFR ff_7_10 rfl rfl rfl h_c26_4 w845 dX7_init_73 ?_
  exact k1

set_option maxRecDepth 20000 in
theorem s_X7_init_76 {M : AM} {fin : Fin'} (h_t : Lv M 26 7) (hN : mN M = 35)
    (k1 : T K_X7_init 111 [some (aR (some 26)), none] [] (wrR (mk (wrR (mk (wrR (mk (wrR (mk M 11 3840) 26 11 (some 35)) 11 3840) 26 12 (some 36)) 11 3840) 26 13 (some 37)) 11 32) 26 14 (some 38)) fin) :
    T K_X7_init 76 [some (aR (some 26)), none] [] M fin := by
  refine th_aload_n dX7_init_76 rfl ?_
  refine th_sipush (u := 3840) dX7_init_77 (by decide) ?_
  refine th_newaI w112 dX7_init_80 (by decide) (n := 3840) (by decide) (by decide) ?_
  rw [show mN M = 35 from hN]
  have h_c26_1 := lvMk (k' := 11) (n := 3840) (M := M) h_t
  have h_c35_1 : Lv (mk M 11 3840) 35 11 := lvNew (by omega) hN
  have hN_1 : mN (mk M 11 3840) = 36 := by show mN M + 1 = 36; rw [show mN M = 35 from hN]
  show T K_X7_init 82 [some (aR (some 26)), none] [aR (some 35), aR (some 26)] (mk M 11 3840) fin
  refine th_putFR ff_7_11 rfl rfl rfl h_c26_1 w846 dX7_init_82 ?_
  refine th_aload_n dX7_init_85 rfl ?_
  refine th_sipush (u := 3840) dX7_init_86 (by decide) ?_
  refine th_newaI w112 dX7_init_89 (by decide) (n := 3840) (by decide) (by decide) ?_
  rw [show mN (wrR (mk M 11 3840) 26 11 (some 35)) = 36 from hN_1]
  have h_c26_2 := lvMk (k' := 11) (n := 3840) (M := (wrR (mk M 11 3840) 26 11 (some 35))) h_c26_1
  have h_c35_2 := lvMk (k' := 11) (n := 3840) (M := (wrR (mk M 11 3840) 26 11 (some 35))) h_c35_1
  have h_c36_2 : Lv (mk (wrR (mk M 11 3840) 26 11 (some 35)) 11 3840) 36 11 := lvNew (by omega) hN_1
  have hN_2 : mN (mk (wrR (mk M 11 3840) 26 11 (some 35)) 11 3840) = 37 := by show mN (wrR (mk M 11 3840) 26 11 (some 35)) + 1 = 37; rw [show mN (wrR (mk M 11 3840) 26 11 (some 35)) = 36 from hN_1]
  show T K_X7_init 91 [some (aR (some 26)), none] [aR (some 36), aR (some 26)] (mk (wrR (mk M 11 3840) 26 11 (some 35)) 11 3840) fin
  refine th_putFR ff_7_12 rfl rfl rfl h_c26_2 w847 dX7_init_91 ?_
  refine th_aload_n dX7_init_94 rfl ?_
  refine th_sipush (u := 3840) dX7_init_95 (by decide) ?_
  refine th_newaI w112 dX7_init_98 (by decide) (n := 3840) (by decide) (by decide) ?_
  rw [show mN (wrR (mk (wrR (mk M 11 3840) 26 11 (some 35)) 11 3840) 26 12 (some 36)) = 37 from hN_2]
  have h_c26_3 := lvMk (k' := 11) (n := 3840) (M := (wrR (mk (wrR (mk M 11 3840) 26 11 (some 35)) 11 3840) 26 12 (some 36))) h_c26_2
  have h_c35_3 := lvMk (k' := 11) (n := 3840) (M := (wrR (mk (wrR (mk M 11 3840) 26 11 (some 35)) 11 3840) 26 12 (some 36))) h_c35_2
  have h_c36_3 := lvMk (k' := 11) (n := 3840) (M := (wrR (mk (wrR (mk M 11 3840) 26 11 (some 35)) 11 3840) 26 12 (some 36))) h_c36_2
  have h_c37_3 : Lv (mk (wrR (mk (wrR (mk M 11 3840) 26 11 (some 35)) 11 3840) 26 12 (some 36)) 11 3840) 37 11 := lvNew (by omega) hN_2
  have hN_3 : mN (mk (wrR (mk (wrR (mk M 11 3840) 26 11 (some 35)) 11 3840) 26 12 (some 36)) 11 3840) = 38 := by show mN (wrR (mk (wrR (mk M 11 3840) 26 11 (some 35)) 11 3840) 26 12 (some 36)) + 1 = 38; rw [show mN (wrR (mk (wrR (mk M 11 3840) 26 11 (some 35)) 11 3840) 26 12 (some 36)) = 37 from hN_2]
  show T K_X7_init 100 [some (aR (some 26)), none] [aR (some 37), aR (some 26)] (mk (wrR (mk (wrR (mk M 11 3840) 26 11 (some 35)) 11 3840) 26 12 (some 36)) 11 3840) fin
  refine th_putFR ff_7_13 rfl rfl rfl h_c26_3 w848 dX7_init_100 ?_
  refine th_aload_n dX7_init_103 rfl ?_
  refine th_bipush (u := 32) dX7_init_104 (by decide) ?_
  refine th_newaI w112 dX7_init_106 (by decide) (n := 32) (by decide) (by decide) ?_
  rw [show mN (wrR (mk (wrR (mk (wrR (mk M 11 3840) 26 11 (some 35)) 11 3840) 26 12 (some 36)) 11 3840) 26 13 (some 37)) = 38 from hN_3]
  have h_c26_4 := lvMk (k' := 11) (n := 32) (M := (wrR (mk (wrR (mk (wrR (mk M 11 3840) 26 11 (some 35)) 11 3840) 26 12 (some 36)) 11 3840) 26 13 (some 37))) h_c26_3
  have h_c35_4 := lvMk (k' := 11) (n := 32) (M := (wrR (mk (wrR (mk (wrR (mk M 11 3840) 26 11 (some 35)) 11 3840) 26 12 (some 36)) 11 3840) 26 13 (some 37))) h_c35_3
  have h_c36_4 := lvMk (k' := 11) (n := 32) (M := (wrR (mk (wrR (mk (wrR (mk M 11 3840) 26 11 (some 35)) 11 3840) 26 12 (some 36)) 11 3840) 26 13 (some 37))) h_c36_3
  have h_c37_4 := lvMk (k' := 11) (n := 32) (M := (wrR (mk (wrR (mk (wrR (mk M 11 3840) 26 11 (some 35)) 11 3840) 26 12 (some 36)) 11 3840) 26 13 (some 37))) h_c37_3
  have h_c38_4 : Lv (mk (wrR (mk (wrR (mk (wrR (mk M 11 3840) 26 11 (some 35)) 11 3840) 26 12 (some 36)) 11 3840) 26 13 (some 37)) 11 32) 38 11 := lvNew (by omega) hN_3
  have hN_4 : mN (mk (wrR (mk (wrR (mk (wrR (mk M 11 3840) 26 11 (some 35)) 11 3840) 26 12 (some 36)) 11 3840) 26 13 (some 37)) 11 32) = 39 := by show mN (wrR (mk (wrR (mk (wrR (mk M 11 3840) 26 11 (some 35)) 11 3840) 26 12 (some 36)) 11 3840) 26 13 (some 37)) + 1 = 39; rw [show mN (wrR (mk (wrR (mk (wrR (mk M 11 3840) 26 11 (some 35)) 11 3840) 26 12 (some 36)) 11 3840) 26 13 (some 37)) = 38 from hN_3]
  show T K_X7_init 108 [some (aR (some 26)), none] [aR (some 38), aR (some 26)] (mk (wrR (mk (wrR (mk (wrR (mk M 11 3840) 26 11 (some 35)) 11 3840) 26 12 (some 36)) 11 3840) 26 13 (some 37)) 11 32) fin
  refine th_putFR ff_7_14 rfl rfl rfl h_c26_4 w849 dX7_init_108 ?_
  exact k1

set_option maxRecDepth 20000 in
theorem s_X7_init_111 {M : AM} {fin : Fin'} (h_t : Lv M 26 7) (hN : mN M = 39)
    (k1 : T K_X7_init 143 [some (aR (some 26)), none] [] (wrR (mk (wrR (mk (wrR (mk (wrR (mk M 11 32) 26 15 (some 39)) 13 32) 26 16 (some 40)) 13 32) 26 17 (some 41)) 13 32) 26 18 (some 42)) fin) :
    T K_X7_init 111 [some (aR (some 26)), none] [] M fin := by
  refine th_aload_n dX7_init_111 rfl ?_
  refine th_bipush (u := 32) dX7_init_112 (by decide) ?_
  refine th_newaI w112 dX7_init_114 (by decide) (n := 32) (by decide) (by decide) ?_
  rw [show mN M = 39 from hN]
  have h_c26_1 := lvMk (k' := 11) (n := 32) (M := M) h_t
  have h_c39_1 : Lv (mk M 11 32) 39 11 := lvNew (by omega) hN
  have hN_1 : mN (mk M 11 32) = 40 := by show mN M + 1 = 40; rw [show mN M = 39 from hN]
  show T K_X7_init 116 [some (aR (some 26)), none] [aR (some 39), aR (some 26)] (mk M 11 32) fin
  refine th_putFR ff_7_15 rfl rfl rfl h_c26_1 w850 dX7_init_116 ?_
  refine th_aload_n dX7_init_119 rfl ?_
  refine th_bipush (u := 32) dX7_init_120 (by decide) ?_
  refine th_newaZ w959 dX7_init_122 (by decide) (n := 32) (by decide) (by decide) ?_
  rw [show mN (wrR (mk M 11 32) 26 15 (some 39)) = 40 from hN_1]
  have h_c26_2 := lvMk (k' := 13) (n := 32) (M := (wrR (mk M 11 32) 26 15 (some 39))) h_c26_1
  have h_c39_2 := lvMk (k' := 13) (n := 32) (M := (wrR (mk M 11 32) 26 15 (some 39))) h_c39_1
  have h_c40_2 : Lv (mk (wrR (mk M 11 32) 26 15 (some 39)) 13 32) 40 13 := lvNew (by omega) hN_1
  have hN_2 : mN (mk (wrR (mk M 11 32) 26 15 (some 39)) 13 32) = 41 := by show mN (wrR (mk M 11 32) 26 15 (some 39)) + 1 = 41; rw [show mN (wrR (mk M 11 32) 26 15 (some 39)) = 40 from hN_1]
  show T K_X7_init 124 [some (aR (some 26)), none] [aR (some 40), aR (some 26)] (mk (wrR (mk M 11 32) 26 15 (some 39)) 13 32) fin
  refine th_putFR ff_7_16 rfl rfl rfl h_c26_2 w851 dX7_init_124 ?_
  refine th_aload_n dX7_init_127 rfl ?_
  refine th_bipush (u := 32) dX7_init_128 (by decide) ?_
  refine th_newaZ w959 dX7_init_130 (by decide) (n := 32) (by decide) (by decide) ?_
  rw [show mN (wrR (mk (wrR (mk M 11 32) 26 15 (some 39)) 13 32) 26 16 (some 40)) = 41 from hN_2]
  have h_c26_3 := lvMk (k' := 13) (n := 32) (M := (wrR (mk (wrR (mk M 11 32) 26 15 (some 39)) 13 32) 26 16 (some 40))) h_c26_2
  have h_c39_3 := lvMk (k' := 13) (n := 32) (M := (wrR (mk (wrR (mk M 11 32) 26 15 (some 39)) 13 32) 26 16 (some 40))) h_c39_2
  have h_c40_3 := lvMk (k' := 13) (n := 32) (M := (wrR (mk (wrR (mk M 11 32) 26 15 (some 39)) 13 32) 26 16 (some 40))) h_c40_2
  have h_c41_3 : Lv (mk (wrR (mk (wrR (mk M 11 32) 26 15 (some 39)) 13 32) 26 16 (some 40)) 13 32) 41 13 := lvNew (by omega) hN_2
  have hN_3 : mN (mk (wrR (mk (wrR (mk M 11 32) 26 15 (some 39)) 13 32) 26 16 (some 40)) 13 32) = 42 := by show mN (wrR (mk (wrR (mk M 11 32) 26 15 (some 39)) 13 32) 26 16 (some 40)) + 1 = 42; rw [show mN (wrR (mk (wrR (mk M 11 32) 26 15 (some 39)) 13 32) 26 16 (some 40)) = 41 from hN_2]
  show T K_X7_init 132 [some (aR (some 26)), none] [aR (some 41), aR (some 26)] (mk (wrR (mk (wrR (mk M 11 32) 26 15 (some 39)) 13 32) 26 16 (some 40)) 13 32) fin
  refine th_putFR ff_7_17 rfl rfl rfl h_c26_3 w852 dX7_init_132 ?_
  refine th_aload_n dX7_init_135 rfl ?_
  refine th_bipush (u := 32) dX7_init_136 (by decide) ?_
  refine th_newaZ w959 dX7_init_138 (by decide) (n := 32) (by decide) (by decide) ?_
  rw [show mN (wrR (mk (wrR (mk (wrR (mk M 11 32) 26 15 (some 39)) 13 32) 26 16 (some 40)) 13 32) 26 17 (some 41)) = 42 from hN_3]
  have h_c26_4 := lvMk (k' := 13) (n := 32) (M := (wrR (mk (wrR (mk (wrR (mk M 11 32) 26 15 (some 39)) 13 32) 26 16 (some 40)) 13 32) 26 17 (some 41))) h_c26_3
  have h_c39_4 := lvMk (k' := 13) (n := 32) (M := (wrR (mk (wrR (mk (wrR (mk M 11 32) 26 15 (some 39)) 13 32) 26 16 (some 40)) 13 32) 26 17 (some 41))) h_c39_3
  have h_c40_4 := lvMk (k' := 13) (n := 32) (M := (wrR (mk (wrR (mk (wrR (mk M 11 32) 26 15 (some 39)) 13 32) 26 16 (some 40)) 13 32) 26 17 (some 41))) h_c40_3
  have h_c41_4 := lvMk (k' := 13) (n := 32) (M := (wrR (mk (wrR (mk (wrR (mk M 11 32) 26 15 (some 39)) 13 32) 26 16 (some 40)) 13 32) 26 17 (some 41))) h_c41_3
  have h_c42_4 : Lv (mk (wrR (mk (wrR (mk (wrR (mk M 11 32) 26 15 (some 39)) 13 32) 26 16 (some 40)) 13 32) 26 17 (some 41)) 13 32) 42 13 := lvNew (by omega) hN_3
  have hN_4 : mN (mk (wrR (mk (wrR (mk (wrR (mk M 11 32) 26 15 (some 39)) 13 32) 26 16 (some 40)) 13 32) 26 17 (some 41)) 13 32) = 43 := by show mN (wrR (mk (wrR (mk (wrR (mk M 11 32) 26 15 (some 39)) 13 32) 26 16 (some 40)) 13 32) 26 17 (some 41)) + 1 = 43; rw [show mN (wrR (mk (wrR (mk (wrR (mk M 11 32) 26 15 (some 39)) 13 32) 26 16 (some 40)) 13 32) 26 17 (some 41)) = 42 from hN_3]
  show T K_X7_init 140 [some (aR (some 26)), none] [aR (some 42), aR (some 26)] (mk (wrR (mk (wrR (mk (wrR (mk M 11 32) 26 15 (some 39)) 13 32) 26 16 (some 40)) 13 32) 26 17 (some 41)) 13 32) fin
  refine th_putFR ff_7_18 rfl rfl rfl h_c26_4 w853 dX7_init_140 ?_
  exact k1

set_option maxRecDepth 20000 in
theorem s_X7_init_143 {M : AM} {fin : Fin'} (h_t : Lv M 26 7) (hN : mN M = 43)
    (k1 : T K_X7_init 175 [some (aR (some 26)), none] [] (wrR (mk (wrR (mk (wrR (mk (wrR (mk M 13 32) 26 19 (some 43)) 12 32) 26 20 (some 44)) 12 32) 26 21 (some 45)) 12 121) 26 22 (some 46)) fin) :
    T K_X7_init 143 [some (aR (some 26)), none] [] M fin := by
  refine th_aload_n dX7_init_143 rfl ?_
  refine th_bipush (u := 32) dX7_init_144 (by decide) ?_
  refine th_newaZ w959 dX7_init_146 (by decide) (n := 32) (by decide) (by decide) ?_
  rw [show mN M = 43 from hN]
  have h_c26_1 := lvMk (k' := 13) (n := 32) (M := M) h_t
  have h_c43_1 : Lv (mk M 13 32) 43 13 := lvNew (by omega) hN
  have hN_1 : mN (mk M 13 32) = 44 := by show mN M + 1 = 44; rw [show mN M = 43 from hN]
  show T K_X7_init 148 [some (aR (some 26)), none] [aR (some 43), aR (some 26)] (mk M 13 32) fin
  refine th_putFR ff_7_19 rfl rfl rfl h_c26_1 w854 dX7_init_148 ?_
  refine th_aload_n dX7_init_151 rfl ?_
  refine th_bipush (u := 32) dX7_init_152 (by decide) ?_
  refine th_newaJ w162 dX7_init_154 (by decide) (n := 32) (by decide) (by decide) ?_
  rw [show mN (wrR (mk M 13 32) 26 19 (some 43)) = 44 from hN_1]
  have h_c26_2 := lvMk (k' := 12) (n := 32) (M := (wrR (mk M 13 32) 26 19 (some 43))) h_c26_1
  have h_c43_2 := lvMk (k' := 12) (n := 32) (M := (wrR (mk M 13 32) 26 19 (some 43))) h_c43_1
  have h_c44_2 : Lv (mk (wrR (mk M 13 32) 26 19 (some 43)) 12 32) 44 12 := lvNew (by omega) hN_1
  have hN_2 : mN (mk (wrR (mk M 13 32) 26 19 (some 43)) 12 32) = 45 := by show mN (wrR (mk M 13 32) 26 19 (some 43)) + 1 = 45; rw [show mN (wrR (mk M 13 32) 26 19 (some 43)) = 44 from hN_1]
  show T K_X7_init 156 [some (aR (some 26)), none] [aR (some 44), aR (some 26)] (mk (wrR (mk M 13 32) 26 19 (some 43)) 12 32) fin
  refine th_putFR ff_7_20 rfl rfl rfl h_c26_2 w855 dX7_init_156 ?_
  refine th_aload_n dX7_init_159 rfl ?_
  refine th_bipush (u := 32) dX7_init_160 (by decide) ?_
  refine th_newaJ w162 dX7_init_162 (by decide) (n := 32) (by decide) (by decide) ?_
  rw [show mN (wrR (mk (wrR (mk M 13 32) 26 19 (some 43)) 12 32) 26 20 (some 44)) = 45 from hN_2]
  have h_c26_3 := lvMk (k' := 12) (n := 32) (M := (wrR (mk (wrR (mk M 13 32) 26 19 (some 43)) 12 32) 26 20 (some 44))) h_c26_2
  have h_c43_3 := lvMk (k' := 12) (n := 32) (M := (wrR (mk (wrR (mk M 13 32) 26 19 (some 43)) 12 32) 26 20 (some 44))) h_c43_2
  have h_c44_3 := lvMk (k' := 12) (n := 32) (M := (wrR (mk (wrR (mk M 13 32) 26 19 (some 43)) 12 32) 26 20 (some 44))) h_c44_2
  have h_c45_3 : Lv (mk (wrR (mk (wrR (mk M 13 32) 26 19 (some 43)) 12 32) 26 20 (some 44)) 12 32) 45 12 := lvNew (by omega) hN_2
  have hN_3 : mN (mk (wrR (mk (wrR (mk M 13 32) 26 19 (some 43)) 12 32) 26 20 (some 44)) 12 32) = 46 := by show mN (wrR (mk (wrR (mk M 13 32) 26 19 (some 43)) 12 32) 26 20 (some 44)) + 1 = 46; rw [show mN (wrR (mk (wrR (mk M 13 32) 26 19 (some 43)) 12 32) 26 20 (some 44)) = 45 from hN_2]
  show T K_X7_init 164 [some (aR (some 26)), none] [aR (some 45), aR (some 26)] (mk (wrR (mk (wrR (mk M 13 32) 26 19 (some 43)) 12 32) 26 20 (some 44)) 12 32) fin
  refine th_putFR ff_7_21 rfl rfl rfl h_c26_3 w856 dX7_init_164 ?_
  refine th_aload_n dX7_init_167 rfl ?_
  refine th_bipush (u := 121) dX7_init_168 (by decide) ?_
  refine th_newaJ w162 dX7_init_170 (by decide) (n := 121) (by decide) (by decide) ?_
  rw [show mN (wrR (mk (wrR (mk (wrR (mk M 13 32) 26 19 (some 43)) 12 32) 26 20 (some 44)) 12 32) 26 21 (some 45)) = 46 from hN_3]
  have h_c26_4 := lvMk (k' := 12) (n := 121) (M := (wrR (mk (wrR (mk (wrR (mk M 13 32) 26 19 (some 43)) 12 32) 26 20 (some 44)) 12 32) 26 21 (some 45))) h_c26_3
  have h_c43_4 := lvMk (k' := 12) (n := 121) (M := (wrR (mk (wrR (mk (wrR (mk M 13 32) 26 19 (some 43)) 12 32) 26 20 (some 44)) 12 32) 26 21 (some 45))) h_c43_3
  have h_c44_4 := lvMk (k' := 12) (n := 121) (M := (wrR (mk (wrR (mk (wrR (mk M 13 32) 26 19 (some 43)) 12 32) 26 20 (some 44)) 12 32) 26 21 (some 45))) h_c44_3
  have h_c45_4 := lvMk (k' := 12) (n := 121) (M := (wrR (mk (wrR (mk (wrR (mk M 13 32) 26 19 (some 43)) 12 32) 26 20 (some 44)) 12 32) 26 21 (some 45))) h_c45_3
  have h_c46_4 : Lv (mk (wrR (mk (wrR (mk (wrR (mk M 13 32) 26 19 (some 43)) 12 32) 26 20 (some 44)) 12 32) 26 21 (some 45)) 12 121) 46 12 := lvNew (by omega) hN_3
  have hN_4 : mN (mk (wrR (mk (wrR (mk (wrR (mk M 13 32) 26 19 (some 43)) 12 32) 26 20 (some 44)) 12 32) 26 21 (some 45)) 12 121) = 47 := by show mN (wrR (mk (wrR (mk (wrR (mk M 13 32) 26 19 (some 43)) 12 32) 26 20 (some 44)) 12 32) 26 21 (some 45)) + 1 = 47; rw [show mN (wrR (mk (wrR (mk (wrR (mk M 13 32) 26 19 (some 43)) 12 32) 26 20 (some 44)) 12 32) 26 21 (some 45)) = 46 from hN_3]
  show T K_X7_init 172 [some (aR (some 26)), none] [aR (some 46), aR (some 26)] (mk (wrR (mk (wrR (mk (wrR (mk M 13 32) 26 19 (some 43)) 12 32) 26 20 (some 44)) 12 32) 26 21 (some 45)) 12 121) fin
  refine th_putFR ff_7_22 rfl rfl rfl h_c26_4 w857 dX7_init_172 ?_
  exact k1

set_option maxRecDepth 20000 in
theorem s_X7_init_175 {M : AM} {fin : Fin'} (h_t : Lv M 26 7) (hN : mN M = 47)
    (k1 : T K_X7_init 208 [some (aR (some 26)), none] [] (wrR (mk (wrR (mk (wrR (mk (wrR (mk M 12 120) 26 23 (some 47)) 12 120) 26 24 (some 48)) 13 1024) 26 25 (some 49)) 12 8) 26 26 (some 50)) fin) :
    T K_X7_init 175 [some (aR (some 26)), none] [] M fin := by
  refine th_aload_n dX7_init_175 rfl ?_
  refine th_bipush (u := 120) dX7_init_176 (by decide) ?_
  refine th_newaJ w162 dX7_init_178 (by decide) (n := 120) (by decide) (by decide) ?_
  rw [show mN M = 47 from hN]
  have h_c26_1 := lvMk (k' := 12) (n := 120) (M := M) h_t
  have h_c47_1 : Lv (mk M 12 120) 47 12 := lvNew (by omega) hN
  have hN_1 : mN (mk M 12 120) = 48 := by show mN M + 1 = 48; rw [show mN M = 47 from hN]
  show T K_X7_init 180 [some (aR (some 26)), none] [aR (some 47), aR (some 26)] (mk M 12 120) fin
  refine th_putFR ff_7_23 rfl rfl rfl h_c26_1 w858 dX7_init_180 ?_
  refine th_aload_n dX7_init_183 rfl ?_
  refine th_bipush (u := 120) dX7_init_184 (by decide) ?_
  refine th_newaJ w162 dX7_init_186 (by decide) (n := 120) (by decide) (by decide) ?_
  rw [show mN (wrR (mk M 12 120) 26 23 (some 47)) = 48 from hN_1]
  have h_c26_2 := lvMk (k' := 12) (n := 120) (M := (wrR (mk M 12 120) 26 23 (some 47))) h_c26_1
  have h_c47_2 := lvMk (k' := 12) (n := 120) (M := (wrR (mk M 12 120) 26 23 (some 47))) h_c47_1
  have h_c48_2 : Lv (mk (wrR (mk M 12 120) 26 23 (some 47)) 12 120) 48 12 := lvNew (by omega) hN_1
  have hN_2 : mN (mk (wrR (mk M 12 120) 26 23 (some 47)) 12 120) = 49 := by show mN (wrR (mk M 12 120) 26 23 (some 47)) + 1 = 49; rw [show mN (wrR (mk M 12 120) 26 23 (some 47)) = 48 from hN_1]
  show T K_X7_init 188 [some (aR (some 26)), none] [aR (some 48), aR (some 26)] (mk (wrR (mk M 12 120) 26 23 (some 47)) 12 120) fin
  refine th_putFR ff_7_24 rfl rfl rfl h_c26_2 w859 dX7_init_188 ?_
  refine th_aload_n dX7_init_191 rfl ?_
  refine th_sipush (u := 1024) dX7_init_192 (by decide) ?_
  refine th_newaZ w959 dX7_init_195 (by decide) (n := 1024) (by decide) (by decide) ?_
  rw [show mN (wrR (mk (wrR (mk M 12 120) 26 23 (some 47)) 12 120) 26 24 (some 48)) = 49 from hN_2]
  have h_c26_3 := lvMk (k' := 13) (n := 1024) (M := (wrR (mk (wrR (mk M 12 120) 26 23 (some 47)) 12 120) 26 24 (some 48))) h_c26_2
  have h_c47_3 := lvMk (k' := 13) (n := 1024) (M := (wrR (mk (wrR (mk M 12 120) 26 23 (some 47)) 12 120) 26 24 (some 48))) h_c47_2
  have h_c48_3 := lvMk (k' := 13) (n := 1024) (M := (wrR (mk (wrR (mk M 12 120) 26 23 (some 47)) 12 120) 26 24 (some 48))) h_c48_2
  have h_c49_3 : Lv (mk (wrR (mk (wrR (mk M 12 120) 26 23 (some 47)) 12 120) 26 24 (some 48)) 13 1024) 49 13 := lvNew (by omega) hN_2
  have hN_3 : mN (mk (wrR (mk (wrR (mk M 12 120) 26 23 (some 47)) 12 120) 26 24 (some 48)) 13 1024) = 50 := by show mN (wrR (mk (wrR (mk M 12 120) 26 23 (some 47)) 12 120) 26 24 (some 48)) + 1 = 50; rw [show mN (wrR (mk (wrR (mk M 12 120) 26 23 (some 47)) 12 120) 26 24 (some 48)) = 49 from hN_2]
  show T K_X7_init 197 [some (aR (some 26)), none] [aR (some 49), aR (some 26)] (mk (wrR (mk (wrR (mk M 12 120) 26 23 (some 47)) 12 120) 26 24 (some 48)) 13 1024) fin
  refine th_putFR ff_7_25 rfl rfl rfl h_c26_3 w860 dX7_init_197 ?_
  refine th_aload_n dX7_init_200 rfl ?_
  refine th_bipush (u := 8) dX7_init_201 (by decide) ?_
  refine th_newaJ w162 dX7_init_203 (by decide) (n := 8) (by decide) (by decide) ?_
  rw [show mN (wrR (mk (wrR (mk (wrR (mk M 12 120) 26 23 (some 47)) 12 120) 26 24 (some 48)) 13 1024) 26 25 (some 49)) = 50 from hN_3]
  have h_c26_4 := lvMk (k' := 12) (n := 8) (M := (wrR (mk (wrR (mk (wrR (mk M 12 120) 26 23 (some 47)) 12 120) 26 24 (some 48)) 13 1024) 26 25 (some 49))) h_c26_3
  have h_c47_4 := lvMk (k' := 12) (n := 8) (M := (wrR (mk (wrR (mk (wrR (mk M 12 120) 26 23 (some 47)) 12 120) 26 24 (some 48)) 13 1024) 26 25 (some 49))) h_c47_3
  have h_c48_4 := lvMk (k' := 12) (n := 8) (M := (wrR (mk (wrR (mk (wrR (mk M 12 120) 26 23 (some 47)) 12 120) 26 24 (some 48)) 13 1024) 26 25 (some 49))) h_c48_3
  have h_c49_4 := lvMk (k' := 12) (n := 8) (M := (wrR (mk (wrR (mk (wrR (mk M 12 120) 26 23 (some 47)) 12 120) 26 24 (some 48)) 13 1024) 26 25 (some 49))) h_c49_3
  have h_c50_4 : Lv (mk (wrR (mk (wrR (mk (wrR (mk M 12 120) 26 23 (some 47)) 12 120) 26 24 (some 48)) 13 1024) 26 25 (some 49)) 12 8) 50 12 := lvNew (by omega) hN_3
  have hN_4 : mN (mk (wrR (mk (wrR (mk (wrR (mk M 12 120) 26 23 (some 47)) 12 120) 26 24 (some 48)) 13 1024) 26 25 (some 49)) 12 8) = 51 := by show mN (wrR (mk (wrR (mk (wrR (mk M 12 120) 26 23 (some 47)) 12 120) 26 24 (some 48)) 13 1024) 26 25 (some 49)) + 1 = 51; rw [show mN (wrR (mk (wrR (mk (wrR (mk M 12 120) 26 23 (some 47)) 12 120) 26 24 (some 48)) 13 1024) 26 25 (some 49)) = 50 from hN_3]
  show T K_X7_init 205 [some (aR (some 26)), none] [aR (some 50), aR (some 26)] (mk (wrR (mk (wrR (mk (wrR (mk M 12 120) 26 23 (some 47)) 12 120) 26 24 (some 48)) 13 1024) 26 25 (some 49)) 12 8) fin
  refine th_putFR ff_7_26 rfl rfl rfl h_c26_4 w861 dX7_init_205 ?_
  exact k1

set_option maxRecDepth 20000 in
theorem s_X7_init_208 {M : AM} {fin : Fin'} (h_t : Lv M 26 7) (hN : mN M = 51)
    (k1 : T K_X7_init 241 [some (aR (some 26)), none] [] (wrR (mk (wrR (mk (wrR (mk (wrR (mk M 11 100) 26 28 (some 51)) 11 100) 26 29 (some 52)) 11 100) 26 30 (some 53)) 12 1600) 26 31 (some 54)) fin) :
    T K_X7_init 208 [some (aR (some 26)), none] [] M fin := by
  refine th_aload_n dX7_init_208 rfl ?_
  refine th_bipush (u := 100) dX7_init_209 (by decide) ?_
  refine th_newaI w112 dX7_init_211 (by decide) (n := 100) (by decide) (by decide) ?_
  rw [show mN M = 51 from hN]
  have h_c26_1 := lvMk (k' := 11) (n := 100) (M := M) h_t
  have h_c51_1 : Lv (mk M 11 100) 51 11 := lvNew (by omega) hN
  have hN_1 : mN (mk M 11 100) = 52 := by show mN M + 1 = 52; rw [show mN M = 51 from hN]
  show T K_X7_init 213 [some (aR (some 26)), none] [aR (some 51), aR (some 26)] (mk M 11 100) fin
  refine th_putFR ff_7_28 rfl rfl rfl h_c26_1 w863 dX7_init_213 ?_
  refine th_aload_n dX7_init_216 rfl ?_
  refine th_bipush (u := 100) dX7_init_217 (by decide) ?_
  refine th_newaI w112 dX7_init_219 (by decide) (n := 100) (by decide) (by decide) ?_
  rw [show mN (wrR (mk M 11 100) 26 28 (some 51)) = 52 from hN_1]
  have h_c26_2 := lvMk (k' := 11) (n := 100) (M := (wrR (mk M 11 100) 26 28 (some 51))) h_c26_1
  have h_c51_2 := lvMk (k' := 11) (n := 100) (M := (wrR (mk M 11 100) 26 28 (some 51))) h_c51_1
  have h_c52_2 : Lv (mk (wrR (mk M 11 100) 26 28 (some 51)) 11 100) 52 11 := lvNew (by omega) hN_1
  have hN_2 : mN (mk (wrR (mk M 11 100) 26 28 (some 51)) 11 100) = 53 := by show mN (wrR (mk M 11 100) 26 28 (some 51)) + 1 = 53; rw [show mN (wrR (mk M 11 100) 26 28 (some 51)) = 52 from hN_1]
  show T K_X7_init 221 [some (aR (some 26)), none] [aR (some 52), aR (some 26)] (mk (wrR (mk M 11 100) 26 28 (some 51)) 11 100) fin
  refine th_putFR ff_7_29 rfl rfl rfl h_c26_2 w864 dX7_init_221 ?_
  refine th_aload_n dX7_init_224 rfl ?_
  refine th_bipush (u := 100) dX7_init_225 (by decide) ?_
  refine th_newaI w112 dX7_init_227 (by decide) (n := 100) (by decide) (by decide) ?_
  rw [show mN (wrR (mk (wrR (mk M 11 100) 26 28 (some 51)) 11 100) 26 29 (some 52)) = 53 from hN_2]
  have h_c26_3 := lvMk (k' := 11) (n := 100) (M := (wrR (mk (wrR (mk M 11 100) 26 28 (some 51)) 11 100) 26 29 (some 52))) h_c26_2
  have h_c51_3 := lvMk (k' := 11) (n := 100) (M := (wrR (mk (wrR (mk M 11 100) 26 28 (some 51)) 11 100) 26 29 (some 52))) h_c51_2
  have h_c52_3 := lvMk (k' := 11) (n := 100) (M := (wrR (mk (wrR (mk M 11 100) 26 28 (some 51)) 11 100) 26 29 (some 52))) h_c52_2
  have h_c53_3 : Lv (mk (wrR (mk (wrR (mk M 11 100) 26 28 (some 51)) 11 100) 26 29 (some 52)) 11 100) 53 11 := lvNew (by omega) hN_2
  have hN_3 : mN (mk (wrR (mk (wrR (mk M 11 100) 26 28 (some 51)) 11 100) 26 29 (some 52)) 11 100) = 54 := by show mN (wrR (mk (wrR (mk M 11 100) 26 28 (some 51)) 11 100) 26 29 (some 52)) + 1 = 54; rw [show mN (wrR (mk (wrR (mk M 11 100) 26 28 (some 51)) 11 100) 26 29 (some 52)) = 53 from hN_2]
  show T K_X7_init 229 [some (aR (some 26)), none] [aR (some 53), aR (some 26)] (mk (wrR (mk (wrR (mk M 11 100) 26 28 (some 51)) 11 100) 26 29 (some 52)) 11 100) fin
  refine th_putFR ff_7_30 rfl rfl rfl h_c26_3 w865 dX7_init_229 ?_
  refine th_aload_n dX7_init_232 rfl ?_
  refine th_sipush (u := 1600) dX7_init_233 (by decide) ?_
  refine th_newaJ w162 dX7_init_236 (by decide) (n := 1600) (by decide) (by decide) ?_
  rw [show mN (wrR (mk (wrR (mk (wrR (mk M 11 100) 26 28 (some 51)) 11 100) 26 29 (some 52)) 11 100) 26 30 (some 53)) = 54 from hN_3]
  have h_c26_4 := lvMk (k' := 12) (n := 1600) (M := (wrR (mk (wrR (mk (wrR (mk M 11 100) 26 28 (some 51)) 11 100) 26 29 (some 52)) 11 100) 26 30 (some 53))) h_c26_3
  have h_c51_4 := lvMk (k' := 12) (n := 1600) (M := (wrR (mk (wrR (mk (wrR (mk M 11 100) 26 28 (some 51)) 11 100) 26 29 (some 52)) 11 100) 26 30 (some 53))) h_c51_3
  have h_c52_4 := lvMk (k' := 12) (n := 1600) (M := (wrR (mk (wrR (mk (wrR (mk M 11 100) 26 28 (some 51)) 11 100) 26 29 (some 52)) 11 100) 26 30 (some 53))) h_c52_3
  have h_c53_4 := lvMk (k' := 12) (n := 1600) (M := (wrR (mk (wrR (mk (wrR (mk M 11 100) 26 28 (some 51)) 11 100) 26 29 (some 52)) 11 100) 26 30 (some 53))) h_c53_3
  have h_c54_4 : Lv (mk (wrR (mk (wrR (mk (wrR (mk M 11 100) 26 28 (some 51)) 11 100) 26 29 (some 52)) 11 100) 26 30 (some 53)) 12 1600) 54 12 := lvNew (by omega) hN_3
  have hN_4 : mN (mk (wrR (mk (wrR (mk (wrR (mk M 11 100) 26 28 (some 51)) 11 100) 26 29 (some 52)) 11 100) 26 30 (some 53)) 12 1600) = 55 := by show mN (wrR (mk (wrR (mk (wrR (mk M 11 100) 26 28 (some 51)) 11 100) 26 29 (some 52)) 11 100) 26 30 (some 53)) + 1 = 55; rw [show mN (wrR (mk (wrR (mk (wrR (mk M 11 100) 26 28 (some 51)) 11 100) 26 29 (some 52)) 11 100) 26 30 (some 53)) = 54 from hN_3]
  show T K_X7_init 238 [some (aR (some 26)), none] [aR (some 54), aR (some 26)] (mk (wrR (mk (wrR (mk (wrR (mk M 11 100) 26 28 (some 51)) 11 100) 26 29 (some 52)) 11 100) 26 30 (some 53)) 12 1600) fin
  refine th_putFR ff_7_31 rfl rfl rfl h_c26_4 w866 dX7_init_238 ?_
  exact k1

set_option maxRecDepth 20000 in
theorem s_X7_init_241 {M : AM} {fin : Fin'} (h_t : Lv M 26 7) (hN : mN M = 55)
    (k1 : T K_X7_init 261 [some (aR (some 26)), some (aI 0)] [] (wrR (mk (wrR (mk M 12 10100) 26 32 (some 55)) 12 900) 26 33 (some 56)) fin) :
    T K_X7_init 241 [some (aR (some 26)), none] [] M fin := by
  refine th_aload_n dX7_init_241 rfl ?_
  refine th_sipush (u := 10100) dX7_init_242 (by decide) ?_
  refine th_newaJ w162 dX7_init_245 (by decide) (n := 10100) (by decide) (by decide) ?_
  rw [show mN M = 55 from hN]
  have h_c26_1 := lvMk (k' := 12) (n := 10100) (M := M) h_t
  have h_c55_1 : Lv (mk M 12 10100) 55 12 := lvNew (by omega) hN
  have hN_1 : mN (mk M 12 10100) = 56 := by show mN M + 1 = 56; rw [show mN M = 55 from hN]
  show T K_X7_init 247 [some (aR (some 26)), none] [aR (some 55), aR (some 26)] (mk M 12 10100) fin
  refine th_putFR ff_7_32 rfl rfl rfl h_c26_1 w867 dX7_init_247 ?_
  refine th_aload_n dX7_init_250 rfl ?_
  refine th_sipush (u := 900) dX7_init_251 (by decide) ?_
  refine th_newaJ w162 dX7_init_254 (by decide) (n := 900) (by decide) (by decide) ?_
  rw [show mN (wrR (mk M 12 10100) 26 32 (some 55)) = 56 from hN_1]
  have h_c26_2 := lvMk (k' := 12) (n := 900) (M := (wrR (mk M 12 10100) 26 32 (some 55))) h_c26_1
  have h_c55_2 := lvMk (k' := 12) (n := 900) (M := (wrR (mk M 12 10100) 26 32 (some 55))) h_c55_1
  have h_c56_2 : Lv (mk (wrR (mk M 12 10100) 26 32 (some 55)) 12 900) 56 12 := lvNew (by omega) hN_1
  have hN_2 : mN (mk (wrR (mk M 12 10100) 26 32 (some 55)) 12 900) = 57 := by show mN (wrR (mk M 12 10100) 26 32 (some 55)) + 1 = 57; rw [show mN (wrR (mk M 12 10100) 26 32 (some 55)) = 56 from hN_1]
  show T K_X7_init 256 [some (aR (some 26)), none] [aR (some 56), aR (some 26)] (mk (wrR (mk M 12 10100) 26 32 (some 55)) 12 900) fin
  refine th_putFR ff_7_33 rfl rfl rfl h_c26_2 w868 dX7_init_256 ?_
  refine th_iconst (u := 0) dX7_init_259 (by decide) ?_
  refine th_istore_n dX7_init_260 (Nat.le_of_ble_eq_true rfl) ?_
  show T K_X7_init 261 [some (aR (some 26)), some (aI 0)] [] (wrR (mk (wrR (mk M 12 10100) 26 32 (some 55)) 12 900) 26 33 (some 56)) fin
  exact k1

set_option maxRecDepth 20000 in
theorem s_X7_init_261 {M : AM} {fin : Fin'} {x1 : Int32} (h_t : Lv M 26 7) (hN : mN M = 57)
    (k1 : ∀ (g1 : 18 ≤ x1), (.inl (none, M) : Fin') = fin)
    (f2 : ∀ (g1 : ¬ (18 ≤ x1)), mR M 26 7 = some 33)
    (b3 : ∀ (g1 : ¬ (18 ≤ x1)), vp_in x1 (mS M 33).2)
    (h4 : Lv M 33 12)
    (k5 : ∀ (g1 : ¬ (18 ≤ x1)), T K_X7_init 261 [some (aR (some 26)), some (aI (x1 + 1))] [] (wrJ M 33 x1.toNatClampNeg 1) fin) :
    T K_X7_init 261 [some (aR (some 26)), some (aI x1)] [] M fin := by
  refine th_iload_n dX7_init_261 rfl ?_
  refine th_bipush (u := 18) dX7_init_262 (by decide) ?_
  refine th_icmp_ge (tgt := 280) dX7_init_264 rfl (fun g1 => ?_) (fun g1 => ?_)
  ·
    exact th_vret rfl dX7_init_280 (k1 g1)
  ·
    refine th_aload_n dX7_init_267 rfl ?_
    refine th_get ff_7_7 h_t w842 dX7_init_268 (w := aR (some 33)) (congrArg aR (f2 g1)) ?_
    refine th_iload_n dX7_init_271 rfl ?_
    refine th_lconst (u := 1) dX7_init_272 (by decide) ?_
    refine th_last h4 (b3 g1) dX7_init_273 ?_
    refine th_iinc dX7_init_274 rfl ?_
    show T K_X7_init 277 [some (aR (some 26)), some (aI (x1 + 1))] [] (wrJ M 33 x1.toNatClampNeg 1) fin
    refine th_goto (tgt := 261) dX7_init_277 rfl ?_
    exact (k5 g1)
