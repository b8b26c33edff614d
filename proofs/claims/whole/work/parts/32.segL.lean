theorem yh_L_method : YH yL_method K_L_method 5 := ⟨by decide +kernel, rfl, rfl, w64, w266, w265, by decide, by decide, by decide +kernel⟩
theorem yh_L_add : YH yL_add K_L_add 5 := ⟨by decide +kernel, rfl, rfl, w64, w421, w420, by decide, by decide, by decide +kernel⟩
theorem yh_L_change : YH yL_change K_L_change 6 := ⟨by decide +kernel, rfl, rfl, w64, w465, w464, by decide, by decide, by decide +kernel⟩
theorem yh_L_cost : YH yL_cost K_L_cost 4 := ⟨by decide +kernel, rfl, rfl, w64, w479, w478, by decide, by decide, by decide +kernel⟩
theorem yh_L_check : YH yL_check K_L_check 3 := ⟨by decide +kernel, rfl, rfl, w64, w501, w500, by decide, by decide, by decide +kernel⟩
theorem yh_L_height : YH yL_height K_L_height 4 := ⟨by decide +kernel, rfl, rfl, w64, w574, w573, by decide, by decide, by decide +kernel⟩
theorem yh_L_analyse : YH yL_analyse K_L_analyse 3 := ⟨by decide +kernel, rfl, rfl, w64, w583, w582, by decide, by decide, by decide +kernel⟩
theorem yh_L_told : YH yL_told K_L_told 4 := ⟨by decide +kernel, rfl, rfl, w64, w674, w673, by decide, by decide, by decide +kernel⟩
theorem yh_L_bound : YH yL_bound K_L_bound 4 := ⟨by decide +kernel, rfl, rfl, w64, w686, w685, by decide, by decide, by decide +kernel⟩
theorem yh_L_argument : YH yL_argument K_L_argument 3 := ⟨by decide +kernel, rfl, rfl, w64, w699, w698, by decide, by decide, by decide +kernel⟩
theorem yh_L_run : YH yL_run K_L_run 4 := ⟨by decide +kernel, rfl, rfl, w64, w723, w722, by decide, by decide, by decide +kernel⟩
theorem yh_L_ran : YH yL_ran K_L_ran 3 := ⟨by decide +kernel, rfl, rfl, w64, w807, w806, by decide, by decide, by decide +kernel⟩
theorem yh_L_about : YH yL_about K_L_about 4 := ⟨by decide +kernel, rfl, rfl, w64, w819, w818, by decide, by decide, by decide +kernel⟩
set_option maxRecDepth 20000 in
theorem s_L_method_0ok {M : AM} {fin : Fin'} {x1 : Int32} {x2 : Int32} {x3 : Int32} {M1 : AM} {x101 : Int32} (hS : St M)
    (c1 : Tv K_X6_method [aR (some 3), aI x1, aI x2, aI x3] M (.inl (some (aI x101), M1)))
    (h2 : St M1)
    (b3 : vp_in 0 1)
    (k4 : (.inl (some (aI 0), wrJ M1 57 (0 : Int32).toNatClampNeg ((x101 : Int32).toInt64)) : Fin') = fin) :
    Tv K_L_method [aR (some 3), aI x1, aI x2, aI x3, aR (some 57)] M fin := by
  refine ⟨Nat.le_of_ble_eq_true rfl, ?_⟩
  show T K_L_method 0 [some (aR (some 3)), some (aI x1), some (aI x2), some (aI x3), some (aR (some 57)), none] [] M fin
  refine th_aload dL_method_0 rfl ?_
  refine th_iconst (u := 0) dL_method_2 (by decide) ?_
  refine th_aload_n dL_method_3 rfl ?_
  refine th_iload_n dL_method_4 rfl ?_
  refine th_iload_n dL_method_5 rfl ?_
  refine th_iload_n dL_method_6 rfl ?_
  refine th_callTV (As := [aI x1, aI x2, aI x3]) (rest := [aI 0, aR (some 57)]) vk_X6_method hS.l3 w268 ⟨by decide, by decide⟩ (Nat.le_of_ble_eq_true rfl) dL_method_7 c1 ?_
  show T K_L_method 10 [some (aR (some 3)), some (aI x1), some (aI x2), some (aI x3), some (aR (some 57)), none] [aI x101, aI 0, aR (some 57)] M1 fin
  refine th_i2l dL_method_10 ?_
  refine th_last h2.l57 (h2.b57 b3) dL_method_11 ?_
  refine th_goto (tgt := 19) dL_method_12 rfl ?_
  refine th_iconst (u := 0) dL_method_19 (by decide) ?_
  exact th_iret rfl dL_method_20 k4

set_option maxRecDepth 20000 in
theorem s_L_method_0t8 {M : AM} {fin : Fin'} {x1 : Int32} {x2 : Int32} {x3 : Int32} {M1 : AM} (hS : St M)
    (c1 : Tv K_X6_method [aR (some 3), aI x1, aI x2, aI x3] M (.inr (8, M1)))
    (k2 : (.inl (some (aI 1), M1) : Fin') = fin) :
    Tv K_L_method [aR (some 3), aI x1, aI x2, aI x3, aR (some 57)] M fin := by
  refine ⟨Nat.le_of_ble_eq_true rfl, ?_⟩
  show T K_L_method 0 [some (aR (some 3)), some (aI x1), some (aI x2), some (aI x3), some (aR (some 57)), none] [] M fin
  refine th_aload dL_method_0 rfl ?_
  refine th_iconst (u := 0) dL_method_2 (by decide) ?_
  refine th_aload_n dL_method_3 rfl ?_
  refine th_iload_n dL_method_4 rfl ?_
  refine th_iload_n dL_method_5 rfl ?_
  refine th_iload_n dL_method_6 rfl ?_
  refine th_catch (As := [aI x1, aI x2, aI x3]) (rest := [aI 0, aR (some 57)]) (pre := []) (suf := []) vk_X6_method hS.l3 w268 ⟨by decide, by decide⟩ (Nat.le_of_ble_eq_true rfl) dL_method_7 c1 rfl (fun z hz => by cases hz) (by decide) (by decide) w267 w274 dL_method_15 (Nat.le_of_ble_eq_true rfl) ?_
  show T K_L_method 17 [some (aR (some 3)), some (aI x1), some (aI x2), some (aI x3), some (aR (some 57)), none] [] M1 fin
  refine th_iconst (u := 1) dL_method_17 (by decide) ?_
  exact th_iret rfl dL_method_18 k2

set_option maxRecDepth 20000 in
theorem s_L_add_0ok {M : AM} {fin : Fin'} {x1 : Int32} {x2 : Int32} {x3 : Int64} {M1 : AM} {x101 : Int32} (hS : St M)
    (c1 : Tv K_X6_add [aR (some 3), aI x1, aI x2, aJ x3] M (.inl (some (aI x101), M1)))
    (h2 : St M1)
    (b3 : vp_in 0 1)
    (k4 : (.inl (some (aI 0), wrJ M1 57 (0 : Int32).toNatClampNeg ((x101 : Int32).toInt64)) : Fin') = fin) :
    Tv K_L_add [aR (some 3), aI x1, aI x2, aJ x3, aR (some 57)] M fin := by
  refine ⟨Nat.le_of_ble_eq_true rfl, ?_⟩
  show T K_L_add 0 [some (aR (some 3)), some (aI x1), some (aI x2), some (aJ x3), none, some (aR (some 57)), none] [] M fin
  refine th_aload dL_add_0 rfl ?_
  refine th_iconst (u := 0) dL_add_2 (by decide) ?_
  refine th_aload_n dL_add_3 rfl ?_
  refine th_iload_n dL_add_4 rfl ?_
  refine th_iload_n dL_add_5 rfl ?_
  refine th_lload_n dL_add_6 rfl ?_
  refine th_callTV (As := [aI x1, aI x2, aJ x3]) (rest := [aI 0, aR (some 57)]) vk_X6_add hS.l3 w423 ⟨by decide, by decide⟩ (Nat.le_of_ble_eq_true rfl) dL_add_7 c1 ?_
  show T K_L_add 10 [some (aR (some 3)), some (aI x1), some (aI x2), some (aJ x3), none, some (aR (some 57)), none] [aI x101, aI 0, aR (some 57)] M1 fin
  refine th_i2l dL_add_10 ?_
  refine th_last h2.l57 (h2.b57 b3) dL_add_11 ?_
  refine th_goto (tgt := 19) dL_add_12 rfl ?_
  refine th_iconst (u := 0) dL_add_19 (by decide) ?_
  exact th_iret rfl dL_add_20 k4

set_option maxRecDepth 20000 in
theorem s_L_add_0t10 {M : AM} {fin : Fin'} {x1 : Int32} {x2 : Int32} {x3 : Int64} {M1 : AM} (hS : St M)
    (c1 : Tv K_X6_add [aR (some 3), aI x1, aI x2, aJ x3] M (.inr (10, M1)))
    (k2 : (.inl (some (aI 1), M1) : Fin') = fin) :
    Tv K_L_add [aR (some 3), aI x1, aI x2, aJ x3, aR (some 57)] M fin := by
  refine ⟨Nat.le_of_ble_eq_true rfl, ?_⟩
  show T K_L_add 0 [some (aR (some 3)), some (aI x1), some (aI x2), some (aJ x3), none, some (aR (some 57)), none] [] M fin
  refine th_aload dL_add_0 rfl ?_
  refine th_iconst (u := 0) dL_add_2 (by decide) ?_
  refine th_aload_n dL_add_3 rfl ?_
  refine th_iload_n dL_add_4 rfl ?_
  refine th_iload_n dL_add_5 rfl ?_
  refine th_lload_n dL_add_6 rfl ?_
  refine th_catch (As := [aI x1, aI x2, aJ x3]) (rest := [aI 0, aR (some 57)]) (pre := []) (suf := []) vk_X6_add hS.l3 w423 ⟨by decide, by decide⟩ (Nat.le_of_ble_eq_true rfl) dL_add_7 c1 rfl (fun z hz => by cases hz) (by decide) (by decide) w422 w437 dL_add_15 (Nat.le_of_ble_eq_true rfl) ?_
  show T K_L_add 17 [some (aR (some 3)), some (aI x1), some (aI x2), some (aJ x3), none, some (aR (some 57)), none] [] M1 fin
  refine th_iconst (u := 1) dL_add_17 (by decide) ?_
  exact th_iret rfl dL_add_18 k2

set_option maxRecDepth 20000 in
theorem s_L_change_0ok {M : AM} {fin : Fin'} {x1 : Int32} {x2 : Int32} {x3 : Int32} {x4 : Int64} {M1 : AM} {x101 : Int32} (hS : St M)
    (c1 : Tv K_X6_change [aR (some 3), aI x1, aI x2, aI x3, aJ x4] M (.inl (some (aI x101), M1)))
    (h2 : St M1)
    (b3 : vp_in 0 1)
    (k4 : (.inl (some (aI 0), wrJ M1 57 (0 : Int32).toNatClampNeg ((x101 : Int32).toInt64)) : Fin') = fin) :
    Tv K_L_change [aR (some 3), aI x1, aI x2, aI x3, aJ x4, aR (some 57)] M fin := by
  refine ⟨Nat.le_of_ble_eq_true rfl, ?_⟩
  show T K_L_change 0 [some (aR (some 3)), some (aI x1), some (aI x2), some (aI x3), some (aJ x4), none, some (aR (some 57)), none] [] M fin
  refine th_aload dL_change_0 rfl ?_
  refine th_iconst (u := 0) dL_change_2 (by decide) ?_
  refine th_aload_n dL_change_3 rfl ?_
  refine th_iload_n dL_change_4 rfl ?_
  refine th_iload_n dL_change_5 rfl ?_
  refine th_iload_n dL_change_6 rfl ?_
  refine th_lload dL_change_7 rfl ?_
  refine th_callTV (As := [aI x1, aI x2, aI x3, aJ x4]) (rest := [aI 0, aR (some 57)]) vk_X6_change hS.l3 w466 ⟨by decide, by decide⟩ (Nat.le_of_ble_eq_true rfl) dL_change_9 c1 ?_
  show T K_L_change 12 [some (aR (some 3)), some (aI x1), some (aI x2), some (aI x3), some (aJ x4), none, some (aR (some 57)), none] [aI x101, aI 0, aR (some 57)] M1 fin
  refine th_i2l dL_change_12 ?_
  refine th_last h2.l57 (h2.b57 b3) dL_change_13 ?_
  refine th_goto (tgt := 21) dL_change_14 rfl ?_
  refine th_iconst (u := 0) dL_change_21 (by decide) ?_
  exact th_iret rfl dL_change_22 k4

set_option maxRecDepth 20000 in
theorem s_L_change_0t10 {M : AM} {fin : Fin'} {x1 : Int32} {x2 : Int32} {x3 : Int32} {x4 : Int64} {M1 : AM} (hS : St M)
    (c1 : Tv K_X6_change [aR (some 3), aI x1, aI x2, aI x3, aJ x4] M (.inr (10, M1)))
    (k2 : (.inl (some (aI 1), M1) : Fin') = fin) :
    Tv K_L_change [aR (some 3), aI x1, aI x2, aI x3, aJ x4, aR (some 57)] M fin := by
  refine ⟨Nat.le_of_ble_eq_true rfl, ?_⟩
  show T K_L_change 0 [some (aR (some 3)), some (aI x1), some (aI x2), some (aI x3), some (aJ x4), none, some (aR (some 57)), none] [] M fin
  refine th_aload dL_change_0 rfl ?_
  refine th_iconst (u := 0) dL_change_2 (by decide) ?_
  refine th_aload_n dL_change_3 rfl ?_
  refine th_iload_n dL_change_4 rfl ?_
  refine th_iload_n dL_change_5 rfl ?_
  refine th_iload_n dL_change_6 rfl ?_
  refine th_lload dL_change_7 rfl ?_
  refine th_catch (As := [aI x1, aI x2, aI x3, aJ x4]) (rest := [aI 0, aR (some 57)]) (pre := []) (suf := []) vk_X6_change hS.l3 w466 ⟨by decide, by decide⟩ (Nat.le_of_ble_eq_true rfl) dL_change_9 c1 rfl (fun z hz => by cases hz) (by decide) (by decide) w422 w437 dL_change_17 (Nat.le_of_ble_eq_true rfl) ?_
  show T K_L_change 19 [some (aR (some 3)), some (aI x1), some (aI x2), some (aI x3), some (aJ x4), none, some (aR (some 57)), none] [] M1 fin
  refine th_iconst (u := 1) dL_change_19 (by decide) ?_
  exact th_iret rfl dL_change_20 k2

set_option maxRecDepth 20000 in
theorem s_L_cost_0ok {M : AM} {fin : Fin'} {x1 : Int32} {x2 : Int32} {M1 : AM} {x101 : Int32} (hS : St M)
    (c1 : Tv K_X6_cost [aR (some 3), aI x1, aI x2] M (.inl (some (aI x101), M1)))
    (h2 : St M1)
    (b3 : vp_in 0 1)
    (k4 : (.inl (some (aI 0), wrJ M1 57 (0 : Int32).toNatClampNeg ((x101 : Int32).toInt64)) : Fin') = fin) :
    Tv K_L_cost [aR (some 3), aI x1, aI x2, aR (some 57)] M fin := by
  refine ⟨Nat.le_of_ble_eq_true rfl, ?_⟩
  show T K_L_cost 0 [some (aR (some 3)), some (aI x1), some (aI x2), some (aR (some 57)), none] [] M fin
  refine th_aload_n dL_cost_0 rfl ?_
  refine th_iconst (u := 0) dL_cost_1 (by decide) ?_
  refine th_aload_n dL_cost_2 rfl ?_
  refine th_iload_n dL_cost_3 rfl ?_
  refine th_iload_n dL_cost_4 rfl ?_
  refine th_callTV (As := [aI x1, aI x2]) (rest := [aI 0, aR (some 57)]) vk_X6_cost hS.l3 w480 ⟨by decide, by decide⟩ (Nat.le_of_ble_eq_true rfl) dL_cost_5 c1 ?_
  show T K_L_cost 8 [some (aR (some 3)), some (aI x1), some (aI x2), some (aR (some 57)), none] [aI x101, aI 0, aR (some 57)] M1 fin
  refine th_i2l dL_cost_8 ?_
  refine th_last h2.l57 (h2.b57 b3) dL_cost_9 ?_
  refine th_goto (tgt := 21) dL_cost_10 rfl ?_
  refine th_iconst (u := 0) dL_cost_21 (by decide) ?_
  exact th_iret rfl dL_cost_22 k4

set_option maxRecDepth 20000 in
theorem s_L_cost_0t10 {M : AM} {fin : Fin'} {x1 : Int32} {x2 : Int32} {M1 : AM} (hS : St M)
    (c1 : Tv K_X6_cost [aR (some 3), aI x1, aI x2] M (.inr (10, M1)))
    (k2 : (.inl (some (aI 1), M1) : Fin') = fin) :
    Tv K_L_cost [aR (some 3), aI x1, aI x2, aR (some 57)] M fin := by
  refine ⟨Nat.le_of_ble_eq_true rfl, ?_⟩
  show T K_L_cost 0 [some (aR (some 3)), some (aI x1), some (aI x2), some (aR (some 57)), none] [] M fin
  refine th_aload_n dL_cost_0 rfl ?_
  refine th_iconst (u := 0) dL_cost_1 (by decide) ?_
  refine th_aload_n dL_cost_2 rfl ?_
  refine th_iload_n dL_cost_3 rfl ?_
  refine th_iload_n dL_cost_4 rfl ?_
  refine th_catch (As := [aI x1, aI x2]) (rest := [aI 0, aR (some 57)]) (pre := []) (suf := [(0, 10, 17, 13)]) vk_X6_cost hS.l3 w480 ⟨by decide, by decide⟩ (Nat.le_of_ble_eq_true rfl) dL_cost_5 c1 rfl (fun z hz => by cases hz) (by decide) (by decide) w422 w437 dL_cost_13 (Nat.le_of_ble_eq_true rfl) ?_
  show T K_L_cost 15 [some (aR (some 3)), some (aI x1), some (aI x2), some (aR (some 57)), none] [] M1 fin
  refine th_iconst (u := 1) dL_cost_15 (by decide) ?_
  exact th_iret rfl dL_cost_16 k2

set_option maxRecDepth 20000 in
theorem s_L_cost_0t8 {M : AM} {fin : Fin'} {x1 : Int32} {x2 : Int32} {M1 : AM} (hS : St M)
    (c1 : Tv K_X6_cost [aR (some 3), aI x1, aI x2] M (.inr (8, M1)))
    (k2 : (.inl (some (aI 2), M1) : Fin') = fin) :
    Tv K_L_cost [aR (some 3), aI x1, aI x2, aR (some 57)] M fin := by
  refine ⟨Nat.le_of_ble_eq_true rfl, ?_⟩
  show T K_L_cost 0 [some (aR (some 3)), some (aI x1), some (aI x2), some (aR (some 57)), none] [] M fin
  refine th_aload_n dL_cost_0 rfl ?_
  refine th_iconst (u := 0) dL_cost_1 (by decide) ?_
  refine th_aload_n dL_cost_2 rfl ?_
  refine th_iload_n dL_cost_3 rfl ?_
  refine th_iload_n dL_cost_4 rfl ?_
  refine th_catch (As := [aI x1, aI x2]) (rest := [aI 0, aR (some 57)]) (pre := [(0, 10, 13, 19)]) (suf := []) vk_X6_cost hS.l3 w480 ⟨by decide, by decide⟩ (Nat.le_of_ble_eq_true rfl) dL_cost_5 c1 rfl (fun z hz => by rcases List.mem_cons.mp hz with rfl | hz; exact Or.inr ⟨by decide, rfl, w422⟩; cases hz) (by decide) (by decide) w267 w274 dL_cost_17 (Nat.le_of_ble_eq_true rfl) ?_
  show T K_L_cost 19 [some (aR (some 3)), some (aI x1), some (aI x2), some (aR (some 57)), none] [] M1 fin
  refine th_iconst (u := 2) dL_cost_19 (by decide) ?_
  exact th_iret rfl dL_cost_20 k2

set_option maxRecDepth 20000 in
theorem s_L_check_0ok {M : AM} {fin : Fin'} {x1 : Int32} {M1 : AM} {x101 : Int32} (hS : St M)
    (c1 : Tv K_X6_check [aR (some 3), aI x1] M (.inl (some (aI x101), M1)))
    (h2 : St M1)
    (b3 : vp_in 0 1)
    (k4 : (.inl (some (aI 0), wrJ M1 57 (0 : Int32).toNatClampNeg ((x101 : Int32).toInt64)) : Fin') = fin) :
    Tv K_L_check [aR (some 3), aI x1, aR (some 57)] M fin := by
  refine ⟨Nat.le_of_ble_eq_true rfl, ?_⟩
  show T K_L_check 0 [some (aR (some 3)), some (aI x1), some (aR (some 57)), none] [] M fin
  refine th_aload_n dL_check_0 rfl ?_
  refine th_iconst (u := 0) dL_check_1 (by decide) ?_
  refine th_aload_n dL_check_2 rfl ?_
  refine th_iload_n dL_check_3 rfl ?_
  refine th_callTV (As := [aI x1]) (rest := [aI 0, aR (some 57)]) vk_X6_check hS.l3 w502 ⟨by decide, by decide⟩ (Nat.le_of_ble_eq_true rfl) dL_check_4 c1 ?_
  show T K_L_check 7 [some (aR (some 3)), some (aI x1), some (aR (some 57)), none] [aI x101, aI 0, aR (some 57)] M1 fin
  refine th_i2l dL_check_7 ?_
  refine th_last h2.l57 (h2.b57 b3) dL_check_8 ?_
  refine th_goto (tgt := 15) dL_check_9 rfl ?_
  refine th_iconst (u := 0) dL_check_15 (by decide) ?_
  exact th_iret rfl dL_check_16 k4

set_option maxRecDepth 20000 in
theorem s_L_check_0t10 {M : AM} {fin : Fin'} {x1 : Int32} {M1 : AM} (hS : St M)
    (c1 : Tv K_X6_check [aR (some 3), aI x1] M (.inr (10, M1)))
    (k2 : (.inl (some (aI 1), M1) : Fin') = fin) :
    Tv K_L_check [aR (some 3), aI x1, aR (some 57)] M fin := by
  refine ⟨Nat.le_of_ble_eq_true rfl, ?_⟩
  show T K_L_check 0 [some (aR (some 3)), some (aI x1), some (aR (some 57)), none] [] M fin
  refine th_aload_n dL_check_0 rfl ?_
  refine th_iconst (u := 0) dL_check_1 (by decide) ?_
  refine th_aload_n dL_check_2 rfl ?_
  refine th_iload_n dL_check_3 rfl ?_
  refine th_catch_n (As := [aI x1]) (rest := [aI 0, aR (some 57)]) (pre := []) (suf := []) vk_X6_check hS.l3 w502 ⟨by decide, by decide⟩ (Nat.le_of_ble_eq_true rfl) dL_check_4 c1 rfl (fun z hz => by cases hz) (by decide) (by decide) w422 w437 dL_check_12 (Nat.le_of_ble_eq_true rfl) ?_
  show T K_L_check 13 [some (aR (some 3)), some (aI x1), some (aR (some 57)), none] [] M1 fin
  refine th_iconst (u := 1) dL_check_13 (by decide) ?_
  exact th_iret rfl dL_check_14 k2

set_option maxRecDepth 20000 in
theorem s_L_height_0ok {M : AM} {fin : Fin'} {x1 : Int32} {x2 : Int32} {M1 : AM} {x101 : Int32} (hS : St M)
    (c1 : Tv K_X6_height [aR (some 3), aI x1, aI x2] M (.inl (some (aI x101), M1)))
    (h2 : St M1)
    (b3 : vp_in 0 1)
    (k4 : (.inl (some (aI 0), wrJ M1 57 (0 : Int32).toNatClampNeg ((x101 : Int32).toInt64)) : Fin') = fin) :
    Tv K_L_height [aR (some 3), aI x1, aI x2, aR (some 57)] M fin := by
  refine ⟨Nat.le_of_ble_eq_true rfl, ?_⟩
  show T K_L_height 0 [some (aR (some 3)), some (aI x1), some (aI x2), some (aR (some 57)), none] [] M fin
  refine th_aload_n dL_height_0 rfl ?_
  refine th_iconst (u := 0) dL_height_1 (by decide) ?_
  refine th_aload_n dL_height_2 rfl ?_
  refine th_iload_n dL_height_3 rfl ?_
  refine th_iload_n dL_height_4 rfl ?_
  refine th_callTV (As := [aI x1, aI x2]) (rest := [aI 0, aR (some 57)]) vk_X6_height hS.l3 w575 ⟨by decide, by decide⟩ (Nat.le_of_ble_eq_true rfl) dL_height_5 c1 ?_
  show T K_L_height 8 [some (aR (some 3)), some (aI x1), some (aI x2), some (aR (some 57)), none] [aI x101, aI 0, aR (some 57)] M1 fin
  refine th_i2l dL_height_8 ?_
  refine th_last h2.l57 (h2.b57 b3) dL_height_9 ?_
  refine th_goto (tgt := 17) dL_height_10 rfl ?_
  refine th_iconst (u := 0) dL_height_17 (by decide) ?_
  exact th_iret rfl dL_height_18 k4

set_option maxRecDepth 20000 in
theorem s_L_height_0t10 {M : AM} {fin : Fin'} {x1 : Int32} {x2 : Int32} {M1 : AM} (hS : St M)
    (c1 : Tv K_X6_height [aR (some 3), aI x1, aI x2] M (.inr (10, M1)))
    (k2 : (.inl (some (aI 1), M1) : Fin') = fin) :
    Tv K_L_height [aR (some 3), aI x1, aI x2, aR (some 57)] M fin := by
  refine ⟨Nat.le_of_ble_eq_true rfl, ?_⟩
  show T K_L_height 0 [some (aR (some 3)), some (aI x1), some (aI x2), some (aR (some 57)), none] [] M fin
  refine th_aload_n dL_height_0 rfl ?_
  refine th_iconst (u := 0) dL_height_1 (by decide) ?_
  refine th_aload_n dL_height_2 rfl ?_
  refine th_iload_n dL_height_3 rfl ?_
  refine th_iload_n dL_height_4 rfl ?_
  refine th_catch (As := [aI x1, aI x2]) (rest := [aI 0, aR (some 57)]) (pre := []) (suf := []) vk_X6_height hS.l3 w575 ⟨by decide, by decide⟩ (Nat.le_of_ble_eq_true rfl) dL_height_5 c1 rfl (fun z hz => by cases hz) (by decide) (by decide) w422 w437 dL_height_13 (Nat.le_of_ble_eq_true rfl) ?_
  show T K_L_height 15 [some (aR (some 3)), some (aI x1), some (aI x2), some (aR (some 57)), none] [] M1 fin
  refine th_iconst (u := 1) dL_height_15 (by decide) ?_
  exact th_iret rfl dL_height_16 k2

set_option maxRecDepth 20000 in
theorem s_L_analyse_0ok {M : AM} {fin : Fin'} {x1 : Int32} {M1 : AM} {x101 : Int32} (hS : St M)
    (c1 : Tv K_X6_analyse [aR (some 3), aI x1] M (.inl (some (aI x101), M1)))
    (h2 : St M1)
    (b3 : vp_in 0 1)
    (k4 : (.inl (some (aI 0), wrJ M1 57 (0 : Int32).toNatClampNeg ((x101 : Int32).toInt64)) : Fin') = fin) :
    Tv K_L_analyse [aR (some 3), aI x1, aR (some 57)] M fin := by
  refine ⟨Nat.le_of_ble_eq_true rfl, ?_⟩
  show T K_L_analyse 0 [some (aR (some 3)), some (aI x1), some (aR (some 57)), none] [] M fin
  refine th_aload_n dL_analyse_0 rfl ?_
  refine th_iconst (u := 0) dL_analyse_1 (by decide) ?_
  refine th_aload_n dL_analyse_2 rfl ?_
  refine th_iload_n dL_analyse_3 rfl ?_
  refine th_callTV (As := [aI x1]) (rest := [aI 0, aR (some 57)]) vk_X6_analyse hS.l3 w584 ⟨by decide, by decide⟩ (Nat.le_of_ble_eq_true rfl) dL_analyse_4 c1 ?_
  show T K_L_analyse 7 [some (aR (some 3)), some (aI x1), some (aR (some 57)), none] [aI x101, aI 0, aR (some 57)] M1 fin
  refine th_i2l dL_analyse_7 ?_
  refine th_last h2.l57 (h2.b57 b3) dL_analyse_8 ?_
  refine th_goto (tgt := 15) dL_analyse_9 rfl ?_
  refine th_iconst (u := 0) dL_analyse_15 (by decide) ?_
  exact th_iret rfl dL_analyse_16 k4

set_option maxRecDepth 20000 in
theorem s_L_analyse_0t10 {M : AM} {fin : Fin'} {x1 : Int32} {M1 : AM} (hS : St M)
    (c1 : Tv K_X6_analyse [aR (some 3), aI x1] M (.inr (10, M1)))
    (k2 : (.inl (some (aI 1), M1) : Fin') = fin) :
    Tv K_L_analyse [aR (some 3), aI x1, aR (some 57)] M fin := by
  refine ⟨Nat.le_of_ble_eq_true rfl, ?_⟩
  show T K_L_analyse 0 [some (aR (some 3)), some (aI x1), some (aR (some 57)), none] [] M fin
  refine th_aload_n dL_analyse_0 rfl ?_
  refine th_iconst (u := 0) dL_analyse_1 (by decide) ?_
  refine th_aload_n dL_analyse_2 rfl ?_
  refine th_iload_n dL_analyse_3 rfl ?_
  refine th_catch_n (As := [aI x1]) (rest := [aI 0, aR (some 57)]) (pre := []) (suf := []) vk_X6_analyse hS.l3 w584 ⟨by decide, by decide⟩ (Nat.le_of_ble_eq_true rfl) dL_analyse_4 c1 rfl (fun z hz => by cases hz) (by decide) (by decide) w422 w437 dL_analyse_12 (Nat.le_of_ble_eq_true rfl) ?_
  show T K_L_analyse 13 [some (aR (some 3)), some (aI x1), some (aR (some 57)), none] [] M1 fin
  refine th_iconst (u := 1) dL_analyse_13 (by decide) ?_
  exact th_iret rfl dL_analyse_14 k2

set_option maxRecDepth 20000 in
theorem s_L_told_0ok {M : AM} {fin : Fin'} {x1 : Int32} {x2 : Int32} {M1 : AM} {x101 : Int32} (hS : St M)
    (c1 : Tv K_X6_told [aR (some 3), aI x1, aI x2] M (.inl (some (aI x101), M1)))
    (h2 : St M1)
    (b3 : vp_in 0 1)
    (k4 : (.inl (some (aI 0), wrJ M1 57 (0 : Int32).toNatClampNeg ((x101 : Int32).toInt64)) : Fin') = fin) :
    Tv K_L_told [aR (some 3), aI x1, aI x2, aR (some 57)] M fin := by
  refine ⟨Nat.le_of_ble_eq_true rfl, ?_⟩
  show T K_L_told 0 [some (aR (some 3)), some (aI x1), some (aI x2), some (aR (some 57)), none] [] M fin
  refine th_aload_n dL_told_0 rfl ?_
  refine th_iconst (u := 0) dL_told_1 (by decide) ?_
  refine th_aload_n dL_told_2 rfl ?_
  refine th_iload_n dL_told_3 rfl ?_
  refine th_iload_n dL_told_4 rfl ?_
  refine th_callTV (As := [aI x1, aI x2]) (rest := [aI 0, aR (some 57)]) vk_X6_told hS.l3 w675 ⟨by decide, by decide⟩ (Nat.le_of_ble_eq_true rfl) dL_told_5 c1 ?_
  show T K_L_told 8 [some (aR (some 3)), some (aI x1), some (aI x2), some (aR (some 57)), none] [aI x101, aI 0, aR (some 57)] M1 fin
  refine th_i2l dL_told_8 ?_
  refine th_last h2.l57 (h2.b57 b3) dL_told_9 ?_
  refine th_goto (tgt := 17) dL_told_10 rfl ?_
  refine th_iconst (u := 0) dL_told_17 (by decide) ?_
  exact th_iret rfl dL_told_18 k4

set_option maxRecDepth 20000 in
theorem s_L_told_0t10 {M : AM} {fin : Fin'} {x1 : Int32} {x2 : Int32} {M1 : AM} (hS : St M)
    (c1 : Tv K_X6_told [aR (some 3), aI x1, aI x2] M (.inr (10, M1)))
    (k2 : (.inl (some (aI 1), M1) : Fin') = fin) :
    Tv K_L_told [aR (some 3), aI x1, aI x2, aR (some 57)] M fin := by
  refine ⟨Nat.le_of_ble_eq_true rfl, ?_⟩
  show T K_L_told 0 [some (aR (some 3)), some (aI x1), some (aI x2), some (aR (some 57)), none] [] M fin
  refine th_aload_n dL_told_0 rfl ?_
  refine th_iconst (u := 0) dL_told_1 (by decide) ?_
  refine th_aload_n dL_told_2 rfl ?_
  refine th_iload_n dL_told_3 rfl ?_
  refine th_iload_n dL_told_4 rfl ?_
  refine th_catch (As := [aI x1, aI x2]) (rest := [aI 0, aR (some 57)]) (pre := []) (suf := []) vk_X6_told hS.l3 w675 ⟨by decide, by decide⟩ (Nat.le_of_ble_eq_true rfl) dL_told_5 c1 rfl (fun z hz => by cases hz) (by decide) (by decide) w422 w437 dL_told_13 (Nat.le_of_ble_eq_true rfl) ?_
  show T K_L_told 15 [some (aR (some 3)), some (aI x1), some (aI x2), some (aR (some 57)), none] [] M1 fin
  refine th_iconst (u := 1) dL_told_15 (by decide) ?_
  exact th_iret rfl dL_told_16 k2

set_option maxRecDepth 20000 in
theorem s_L_bound_0ok {M : AM} {fin : Fin'} {x1 : Int32} {x2 : Int32} {M1 : AM} {x101 : Int64} (hS : St M)
    (c1 : Tv K_X6_bound [aR (some 3), aI x1, aI x2] M (.inl (some (aJ x101), M1)))
    (h2 : St M1)
    (b3 : vp_in 0 1)
    (k4 : (.inl (some (aI 0), wrJ M1 57 (0 : Int32).toNatClampNeg x101) : Fin') = fin) :
    Tv K_L_bound [aR (some 3), aI x1, aI x2, aR (some 57)] M fin := by
  refine ⟨Nat.le_of_ble_eq_true rfl, ?_⟩
  show T K_L_bound 0 [some (aR (some 3)), some (aI x1), some (aI x2), some (aR (some 57)), none] [] M fin
  refine th_aload_n dL_bound_0 rfl ?_
  refine th_iconst (u := 0) dL_bound_1 (by decide) ?_
  refine th_aload_n dL_bound_2 rfl ?_
  refine th_iload_n dL_bound_3 rfl ?_
  refine th_iload_n dL_bound_4 rfl ?_
  refine th_callTV (As := [aI x1, aI x2]) (rest := [aI 0, aR (some 57)]) vk_X6_bound hS.l3 w687 ⟨by decide, by decide⟩ (Nat.le_of_ble_eq_true rfl) dL_bound_5 c1 ?_
  show T K_L_bound 8 [some (aR (some 3)), some (aI x1), some (aI x2), some (aR (some 57)), none] [aJ x101, aI 0, aR (some 57)] M1 fin
  refine th_last h2.l57 (h2.b57 b3) dL_bound_8 ?_
  refine th_goto (tgt := 16) dL_bound_9 rfl ?_
  refine th_iconst (u := 0) dL_bound_16 (by decide) ?_
  exact th_iret rfl dL_bound_17 k4

set_option maxRecDepth 20000 in
theorem s_L_bound_0t10 {M : AM} {fin : Fin'} {x1 : Int32} {x2 : Int32} {M1 : AM} (hS : St M)
    (c1 : Tv K_X6_bound [aR (some 3), aI x1, aI x2] M (.inr (10, M1)))
    (k2 : (.inl (some (aI 1), M1) : Fin') = fin) :
    Tv K_L_bound [aR (some 3), aI x1, aI x2, aR (some 57)] M fin := by
  refine ⟨Nat.le_of_ble_eq_true rfl, ?_⟩
  show T K_L_bound 0 [some (aR (some 3)), some (aI x1), some (aI x2), some (aR (some 57)), none] [] M fin
  refine th_aload_n dL_bound_0 rfl ?_
  refine th_iconst (u := 0) dL_bound_1 (by decide) ?_
  refine th_aload_n dL_bound_2 rfl ?_
  refine th_iload_n dL_bound_3 rfl ?_
  refine th_iload_n dL_bound_4 rfl ?_
  refine th_catch (As := [aI x1, aI x2]) (rest := [aI 0, aR (some 57)]) (pre := []) (suf := []) vk_X6_bound hS.l3 w687 ⟨by decide, by decide⟩ (Nat.le_of_ble_eq_true rfl) dL_bound_5 c1 rfl (fun z hz => by cases hz) (by decide) (by decide) w422 w437 dL_bound_12 (Nat.le_of_ble_eq_true rfl) ?_
  show T K_L_bound 14 [some (aR (some 3)), some (aI x1), some (aI x2), some (aR (some 57)), none] [] M1 fin
  refine th_iconst (u := 1) dL_bound_14 (by decide) ?_
  exact th_iret rfl dL_bound_15 k2

set_option maxRecDepth 20000 in
theorem s_L_argument_0ok {M : AM} {fin : Fin'} {x1 : Int64} {M1 : AM} {x101 : Int32} (hS : St M)
    (c1 : Tv K_X6_argument [aR (some 3), aJ x1] M (.inl (some (aI x101), M1)))
    (h2 : St M1)
    (b3 : vp_in 0 1)
    (k4 : (.inl (some (aI 0), wrJ M1 57 (0 : Int32).toNatClampNeg ((x101 : Int32).toInt64)) : Fin') = fin) :
    Tv K_L_argument [aR (some 3), aJ x1, aR (some 57)] M fin := by
  refine ⟨Nat.le_of_ble_eq_true rfl, ?_⟩
  show T K_L_argument 0 [some (aR (some 3)), some (aJ x1), none, some (aR (some 57)), none] [] M fin
  refine th_aload_n dL_argument_0 rfl ?_
  refine th_iconst (u := 0) dL_argument_1 (by decide) ?_
  refine th_aload_n dL_argument_2 rfl ?_
  refine th_lload_n dL_argument_3 rfl ?_
  refine th_callTV (As := [aJ x1]) (rest := [aI 0, aR (some 57)]) vk_X6_argument hS.l3 w701 ⟨by decide, by decide⟩ (Nat.le_of_ble_eq_true rfl) dL_argument_4 c1 ?_
  show T K_L_argument 7 [some (aR (some 3)), some (aJ x1), none, some (aR (some 57)), none] [aI x101, aI 0, aR (some 57)] M1 fin
  refine th_i2l dL_argument_7 ?_
  refine th_last h2.l57 (h2.b57 b3) dL_argument_8 ?_
  refine th_goto (tgt := 16) dL_argument_9 rfl ?_
  refine th_iconst (u := 0) dL_argument_16 (by decide) ?_
  exact th_iret rfl dL_argument_17 k4

set_option maxRecDepth 20000 in
theorem s_L_argument_0t9 {M : AM} {fin : Fin'} {x1 : Int64} {M1 : AM} (hS : St M)
    (c1 : Tv K_X6_argument [aR (some 3), aJ x1] M (.inr (9, M1)))
    (k2 : (.inl (some (aI 1), M1) : Fin') = fin) :
    Tv K_L_argument [aR (some 3), aJ x1, aR (some 57)] M fin := by
  refine ⟨Nat.le_of_ble_eq_true rfl, ?_⟩
  show T K_L_argument 0 [some (aR (some 3)), some (aJ x1), none, some (aR (some 57)), none] [] M fin
  refine th_aload_n dL_argument_0 rfl ?_
  refine th_iconst (u := 0) dL_argument_1 (by decide) ?_
  refine th_aload_n dL_argument_2 rfl ?_
  refine th_lload_n dL_argument_3 rfl ?_
  refine th_catch (As := [aJ x1]) (rest := [aI 0, aR (some 57)]) (pre := []) (suf := []) vk_X6_argument hS.l3 w701 ⟨by decide, by decide⟩ (Nat.le_of_ble_eq_true rfl) dL_argument_4 c1 rfl (fun z hz => by cases hz) (by decide) (by decide) w700 w707 dL_argument_12 (Nat.le_of_ble_eq_true rfl) ?_
  show T K_L_argument 14 [some (aR (some 3)), some (aJ x1), none, some (aR (some 57)), none] [] M1 fin
  refine th_iconst (u := 1) dL_argument_14 (by decide) ?_
  exact th_iret rfl dL_argument_15 k2

set_option maxRecDepth 20000 in
theorem s_L_run_0ok {M : AM} {fin : Fin'} {x1 : Int32} {x2 : Int32} {M1 : AM} {x101 : Int32} (hS : St M)
    (c1 : Tv K_X6_run [aR (some 3), aI x1, aI x2] M (.inl (some (aI x101), M1)))
    (h2 : St M1)
    (b3 : vp_in 0 1)
    (k4 : (.inl (some (aI 0), wrJ M1 57 (0 : Int32).toNatClampNeg ((x101 : Int32).toInt64)) : Fin') = fin) :
    Tv K_L_run [aR (some 3), aI x1, aI x2, aR (some 57)] M fin := by
  refine ⟨Nat.le_of_ble_eq_true rfl, ?_⟩
  show T K_L_run 0 [some (aR (some 3)), some (aI x1), some (aI x2), some (aR (some 57)), none] [] M fin
  refine th_aload_n dL_run_0 rfl ?_
  refine th_iconst (u := 0) dL_run_1 (by decide) ?_
  refine th_aload_n dL_run_2 rfl ?_
  refine th_iload_n dL_run_3 rfl ?_
  refine th_iload_n dL_run_4 rfl ?_
  refine th_callTV (As := [aI x1, aI x2]) (rest := [aI 0, aR (some 57)]) vk_X6_run hS.l3 w724 ⟨by decide, by decide⟩ (Nat.le_of_ble_eq_true rfl) dL_run_5 c1 ?_
  show T K_L_run 8 [some (aR (some 3)), some (aI x1), some (aI x2), some (aR (some 57)), none] [aI x101, aI 0, aR (some 57)] M1 fin
  refine th_i2l dL_run_8 ?_
  refine th_last h2.l57 (h2.b57 b3) dL_run_9 ?_
  refine th_goto (tgt := 21) dL_run_10 rfl ?_
  refine th_iconst (u := 0) dL_run_21 (by decide) ?_
  exact th_iret rfl dL_run_22 k4

set_option maxRecDepth 20000 in
theorem s_L_run_0t10 {M : AM} {fin : Fin'} {x1 : Int32} {x2 : Int32} {M1 : AM} (hS : St M)
    (c1 : Tv K_X6_run [aR (some 3), aI x1, aI x2] M (.inr (10, M1)))
    (k2 : (.inl (some (aI 1), M1) : Fin') = fin) :
    Tv K_L_run [aR (some 3), aI x1, aI x2, aR (some 57)] M fin := by
  refine ⟨Nat.le_of_ble_eq_true rfl, ?_⟩
  show T K_L_run 0 [some (aR (some 3)), some (aI x1), some (aI x2), some (aR (some 57)), none] [] M fin
  refine th_aload_n dL_run_0 rfl ?_
  refine th_iconst (u := 0) dL_run_1 (by decide) ?_
  refine th_aload_n dL_run_2 rfl ?_
  refine th_iload_n dL_run_3 rfl ?_
  refine th_iload_n dL_run_4 rfl ?_
  refine th_catch (As := [aI x1, aI x2]) (rest := [aI 0, aR (some 57)]) (pre := []) (suf := [(0, 10, 17, 13)]) vk_X6_run hS.l3 w724 ⟨by decide, by decide⟩ (Nat.le_of_ble_eq_true rfl) dL_run_5 c1 rfl (fun z hz => by cases hz) (by decide) (by decide) w422 w437 dL_run_13 (Nat.le_of_ble_eq_true rfl) ?_
  show T K_L_run 15 [some (aR (some 3)), some (aI x1), some (aI x2), some (aR (some 57)), none] [] M1 fin
  refine th_iconst (u := 1) dL_run_15 (by decide) ?_
  exact th_iret rfl dL_run_16 k2

set_option maxRecDepth 20000 in
theorem s_L_run_0t8 {M : AM} {fin : Fin'} {x1 : Int32} {x2 : Int32} {M1 : AM} (hS : St M)
    (c1 : Tv K_X6_run [aR (some 3), aI x1, aI x2] M (.inr (8, M1)))
    (k2 : (.inl (some (aI 2), M1) : Fin') = fin) :
    Tv K_L_run [aR (some 3), aI x1, aI x2, aR (some 57)] M fin := by
  refine ⟨Nat.le_of_ble_eq_true rfl, ?_⟩
  show T K_L_run 0 [some (aR (some 3)), some (aI x1), some (aI x2), some (aR (some 57)), none] [] M fin
  refine th_aload_n dL_run_0 rfl ?_
  refine th_iconst (u := 0) dL_run_1 (by decide) ?_
  refine th_aload_n dL_run_2 rfl ?_
  refine th_iload_n dL_run_3 rfl ?_
  refine th_iload_n dL_run_4 rfl ?_
  refine th_catch (As := [aI x1, aI x2]) (rest := [aI 0, aR (some 57)]) (pre := [(0, 10, 13, 19)]) (suf := []) vk_X6_run hS.l3 w724 ⟨by decide, by decide⟩ (Nat.le_of_ble_eq_true rfl) dL_run_5 c1 rfl (fun z hz => by rcases List.mem_cons.mp hz with rfl | hz; exact Or.inr ⟨by decide, rfl, w422⟩; cases hz) (by decide) (by decide) w267 w274 dL_run_17 (Nat.le_of_ble_eq_true rfl) ?_
  show T K_L_run 19 [some (aR (some 3)), some (aI x1), some (aI x2), some (aR (some 57)), none] [] M1 fin
  refine th_iconst (u := 2) dL_run_19 (by decide) ?_
  exact th_iret rfl dL_run_20 k2

set_option maxRecDepth 20000 in
theorem s_L_ran_0ok {M : AM} {fin : Fin'} {x1 : Int32} {M1 : AM} {x101 : Int64} (hS : St M)
    (c1 : Tv K_X6_ran [aR (some 3), aI x1] M (.inl (some (aJ x101), M1)))
    (h2 : St M1)
    (b3 : vp_in 0 1)
    (k4 : (.inl (some (aI 0), wrJ M1 57 (0 : Int32).toNatClampNeg x101) : Fin') = fin) :
    Tv K_L_ran [aR (some 3), aI x1, aR (some 57)] M fin := by
  refine ⟨Nat.le_of_ble_eq_true rfl, ?_⟩
  show T K_L_ran 0 [some (aR (some 3)), some (aI x1), some (aR (some 57)), none] [] M fin
  refine th_aload_n dL_ran_0 rfl ?_
  refine th_iconst (u := 0) dL_ran_1 (by decide) ?_
  refine th_aload_n dL_ran_2 rfl ?_
  refine th_iload_n dL_ran_3 rfl ?_
  refine th_callTV (As := [aI x1]) (rest := [aI 0, aR (some 57)]) vk_X6_ran hS.l3 w808 ⟨by decide, by decide⟩ (Nat.le_of_ble_eq_true rfl) dL_ran_4 c1 ?_
  show T K_L_ran 7 [some (aR (some 3)), some (aI x1), some (aR (some 57)), none] [aJ x101, aI 0, aR (some 57)] M1 fin
  refine th_last h2.l57 (h2.b57 b3) dL_ran_7 ?_
  refine th_goto (tgt := 14) dL_ran_8 rfl ?_
  refine th_iconst (u := 0) dL_ran_14 (by decide) ?_
  exact th_iret rfl dL_ran_15 k4

set_option maxRecDepth 20000 in
theorem s_L_ran_0t10 {M : AM} {fin : Fin'} {x1 : Int32} {M1 : AM} (hS : St M)
    (c1 : Tv K_X6_ran [aR (some 3), aI x1] M (.inr (10, M1)))
    (k2 : (.inl (some (aI 1), M1) : Fin') = fin) :
    Tv K_L_ran [aR (some 3), aI x1, aR (some 57)] M fin := by
  refine ⟨Nat.le_of_ble_eq_true rfl, ?_⟩
  show T K_L_ran 0 [some (aR (some 3)), some (aI x1), some (aR (some 57)), none] [] M fin
  refine th_aload_n dL_ran_0 rfl ?_
  refine th_iconst (u := 0) dL_ran_1 (by decide) ?_
  refine th_aload_n dL_ran_2 rfl ?_
  refine th_iload_n dL_ran_3 rfl ?_
  refine th_catch_n (As := [aI x1]) (rest := [aI 0, aR (some 57)]) (pre := []) (suf := []) vk_X6_ran hS.l3 w808 ⟨by decide, by decide⟩ (Nat.le_of_ble_eq_true rfl) dL_ran_4 c1 rfl (fun z hz => by cases hz) (by decide) (by decide) w422 w437 dL_ran_11 (Nat.le_of_ble_eq_true rfl) ?_
  show T K_L_ran 12 [some (aR (some 3)), some (aI x1), some (aR (some 57)), none] [] M1 fin
  refine th_iconst (u := 1) dL_ran_12 (by decide) ?_
  exact th_iret rfl dL_ran_13 k2

set_option maxRecDepth 20000 in
theorem s_L_about_0ok {M : AM} {fin : Fin'} {x1 : Int32} {x2 : Int32} {M1 : AM} {x101 : Int32} (hS : St M)
    (c1 : Tv K_X6_about [aR (some 3), aI x1, aI x2] M (.inl (some (aI x101), M1)))
    (h2 : St M1)
    (b3 : vp_in 0 1)
    (k4 : (.inl (some (aI 0), wrJ M1 57 (0 : Int32).toNatClampNeg ((x101 : Int32).toInt64)) : Fin') = fin) :
    Tv K_L_about [aR (some 3), aI x1, aI x2, aR (some 57)] M fin := by
  refine ⟨Nat.le_of_ble_eq_true rfl, ?_⟩
  show T K_L_about 0 [some (aR (some 3)), some (aI x1), some (aI x2), some (aR (some 57)), none] [] M fin
  refine th_aload_n dL_about_0 rfl ?_
  refine th_iconst (u := 0) dL_about_1 (by decide) ?_
  refine th_aload_n dL_about_2 rfl ?_
  refine th_iload_n dL_about_3 rfl ?_
  refine th_iload_n dL_about_4 rfl ?_
  refine th_callTV (As := [aI x1, aI x2]) (rest := [aI 0, aR (some 57)]) vk_X6_about hS.l3 w820 ⟨by decide, by decide⟩ (Nat.le_of_ble_eq_true rfl) dL_about_5 c1 ?_
  show T K_L_about 8 [some (aR (some 3)), some (aI x1), some (aI x2), some (aR (some 57)), none] [aI x101, aI 0, aR (some 57)] M1 fin
  refine th_i2l dL_about_8 ?_
  refine th_last h2.l57 (h2.b57 b3) dL_about_9 ?_
  refine th_goto (tgt := 17) dL_about_10 rfl ?_
  refine th_iconst (u := 0) dL_about_17 (by decide) ?_
  exact th_iret rfl dL_about_18 k4

set_option maxRecDepth 20000 in
theorem s_L_about_0t10 {M : AM} {fin : Fin'} {x1 : Int32} {x2 : Int32} {M1 : AM} (hS : St M)
    (c1 : Tv K_X6_about [aR (some 3), aI x1, aI x2] M (.inr (10, M1)))
    (k2 : (.inl (some (aI 1), M1) : Fin') = fin) :
    Tv K_L_about [aR (some 3), aI x1, aI x2, aR (some 57)] M fin := by
  refine ⟨Nat.le_of_ble_eq_true rfl, ?_⟩
  show T K_L_about 0 [some (aR (some 3)), some (aI x1), some (aI x2), some (aR (some 57)), none] [] M fin
  refine th_aload_n dL_about_0 rfl ?_
  refine th_iconst (u := 0) dL_about_1 (by decide) ?_
  refine th_aload_n dL_about_2 rfl ?_
  refine th_iload_n dL_about_3 rfl ?_
  refine th_iload_n dL_about_4 rfl ?_
  refine th_catch (As := [aI x1, aI x2]) (rest := [aI 0, aR (some 57)]) (pre := []) (suf := []) vk_X6_about hS.l3 w820 ⟨by decide, by decide⟩ (Nat.le_of_ble_eq_true rfl) dL_about_5 c1 rfl (fun z hz => by cases hz) (by decide) (by decide) w422 w437 dL_about_13 (Nat.le_of_ble_eq_true rfl) ?_
  show T K_L_about 15 [some (aR (some 3)), some (aI x1), some (aI x2), some (aR (some 57)), none] [] M1 fin
  refine th_iconst (u := 1) dL_about_15 (by decide) ?_
  exact th_iret rfl dL_about_16 k2
