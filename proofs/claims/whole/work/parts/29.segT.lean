set_option maxRecDepth 20000 in
theorem s_X6_known_0 {M : AM} {fin : Fin'} {x1 : Int32} {M1 : AM} {o101 : Option Nat} (hS : St M)
    (c1 : Ev K_X5_find [aR (some 4), aJ ((x1 : Int32).toInt64)] M (some (aR o101)) M1)
    (h2 : ∀ (r101 : Nat) (q101 : o101 = some r101), Mt M1 r101)
    (k3 : ∀ (r101 : Nat) (q101 : o101 = some r101), (.inl (some (aR (some r101)), M1) : Fin') = fin)
    (k4 : ∀ (q101 : o101 = none), (.inr (10, mk M1 10 6) : Fin') = fin) :
    Tv K_X6_known [aR (some 3), aI x1] M fin := by
  refine ⟨Nat.le_of_ble_eq_true rfl, ?_⟩
  show T K_X6_known 0 [some (aR (some 3)), some (aI x1), none] [] M fin
  refine th_aload_n dX6_known_0 rfl ?_
  refine th_get ff_6_0 hS.l3 w238 dX6_known_1 (w := aR (some 4)) hS.f3_0 ?_
  refine th_iload_n dX6_known_4 rfl ?_
  refine th_i2l dX6_known_5 ?_
  refine th_callV (As := [aJ ((x1 : Int32).toInt64)]) (rest := []) vk_X5_find hS.l4 w431 ⟨by decide, by decide⟩ (Nat.le_of_ble_eq_true rfl) dX6_known_6 c1 ?_
  show T K_X6_known 9 [some (aR (some 3)), some (aI x1), none] [aR o101] M1 fin
  have hS_1 : St M1 := St.sh (M := M) c1.2.1 hS
  refine th_astore_n dX6_known_9 (Nat.le_of_ble_eq_true rfl) ?_
  show T K_X6_known 10 [some (aR (some 3)), some (aI x1), some (aR o101)] [] M1 fin
  refine th_aload_n dX6_known_10 rfl ?_
  refine th_ifnonnull (tgt := 24) dX6_known_11 rfl (fun z => ?_) (fun z => ?_)
  ·
    obtain ⟨r101, q101⟩ : ∃ r, o101 = some r := by cases o101 with | none => exact absurd rfl z | some r => exact ⟨r, rfl⟩
    have h_r101 : Mt M1 r101 := (h2 r101 q101)
    rw [q101]
    refine th_aload_n dX6_known_24 rfl ?_
    exact th_aret rfl dX6_known_25 (k3 r101 q101)
  ·
    have q101 : o101 = none := z
    exact th_throw (Or.inr (Or.inr rfl)) at10 w435 w78 w444 (by decide) (by decide) rfl dX6_known_14 dX6_known_17 dX6_known_18 dX6_known_20 dX6_known_23 (k4 q101)

set_option maxRecDepth 20000 in
theorem s_X6_knownWith_0ok {M : AM} {fin : Fin'} {x1 : Int32} {x2 : Int32} {r1 : Nat} {M2 : AM} {x101 : Int32} (hS : St M)
    (c1 : Tv K_X6_known [aR (some 3), aI x1] M (.inl (some (aR (some r1)), M)))
    (h2 : Mt M r1)
    (c3 : Ev K_X4_has [aR (some r1), aJ ((x2 : Int32).toInt64)] M (some (aI x101)) M2)
    (k4 : ∀ (g2 : ¬ x101 = 0), (.inl (some (aR (some r1)), M2) : Fin') = fin)
    (k5 : ∀ (g2 : x101 = 0), (.inr (10, mk M2 10 6) : Fin') = fin) :
    Tv K_X6_knownWith [aR (some 3), aI x1, aI x2] M fin := by
  refine ⟨Nat.le_of_ble_eq_true rfl, ?_⟩
  show T K_X6_knownWith 0 [some (aR (some 3)), some (aI x1), some (aI x2), none] [] M fin
  refine th_aload_n dX6_knownWith_0 rfl ?_
  refine th_iload_n dX6_knownWith_1 rfl ?_
  refine th_callTV (As := [aI x1]) (rest := []) vk_X6_known hS.l3 w427 ⟨by decide, by decide⟩ (Nat.le_of_ble_eq_true rfl) dX6_knownWith_2 c1 ?_
  show T K_X6_knownWith 5 [some (aR (some 3)), some (aI x1), some (aI x2), none] [aR (some r1)] M fin
  have h_r1 : Mt M r1 := h2
  refine th_astore_n dX6_knownWith_5 (Nat.le_of_ble_eq_true rfl) ?_
  show T K_X6_knownWith 6 [some (aR (some 3)), some (aI x1), some (aI x2), some (aR (some r1))] [] M fin
  refine th_aload_n dX6_knownWith_6 rfl ?_
  refine th_iload_n dX6_knownWith_7 rfl ?_
  refine th_i2l dX6_knownWith_8 ?_
  refine th_callV (As := [aJ ((x2 : Int32).toInt64)]) (rest := []) vk_X4_has h_r1.l0 w474 ⟨by decide, by decide⟩ (Nat.le_of_ble_eq_true rfl) dX6_knownWith_9 c3 ?_
  show T K_X6_knownWith 12 [some (aR (some 3)), some (aI x1), some (aI x2), some (aR (some r1))] [aI x101] M2 fin
  have hS_2 : St M2 := St.sh (M := M) c3.2.1 hS
  have h_r1_2 : Mt M2 r1 := Mt.sh (M := M) c3.2.1 h_r1
  refine th_if_ne (tgt := 25) dX6_knownWith_12 rfl (fun g2 => ?_) (fun g2 => ?_)
  ·
    refine th_aload_n dX6_knownWith_25 rfl ?_
    exact th_aret rfl dX6_knownWith_26 (k4 g2)
  ·
    exact th_throw (Or.inr (Or.inr rfl)) at10 w435 w78 w475 (by decide) (by decide) rfl dX6_knownWith_15 dX6_knownWith_18 dX6_knownWith_19 dX6_knownWith_21 dX6_knownWith_24 (k5 g2)

set_option maxRecDepth 20000 in
theorem s_X6_knownWith_0thr {M : AM} {fin : Fin'} {x1 : Int32} {x2 : Int32} {M1 : AM} (hS : St M)
    (c1 : Tv K_X6_known [aR (some 3), aI x1] M (.inr (10, M1)))
    (k2 : (.inr (10, M1) : Fin') = fin) :
    Tv K_X6_knownWith [aR (some 3), aI x1, aI x2] M fin := by
  refine ⟨Nat.le_of_ble_eq_true rfl, ?_⟩
  show T K_X6_knownWith 0 [some (aR (some 3)), some (aI x1), some (aI x2), none] [] M fin
  refine th_aload_n dX6_knownWith_0 rfl ?_
  refine th_iload_n dX6_knownWith_1 rfl ?_
  exact th_callTX (As := [aI x1]) (rest := []) vk_X6_known hS.l3 w427 ⟨by decide, by decide⟩ (Nat.le_of_ble_eq_true rfl) dX6_knownWith_2 rfl c1 k2

set_option maxRecDepth 20000 in
theorem s_X6_add_0ok {M : AM} {fin : Fin'} {x1 : Int32} {x2 : Int32} {x3 : Int64} {r1 : Nat} {M2 : AM} {x101 : Int32} (hS : St M)
    (c1 : Tv K_X6_known [aR (some 3), aI x1] M (.inl (some (aR (some r1)), M)))
    (h2 : Mt M r1)
    (c3 : Ev K_X4_append [aR (some r1), aI x2, aJ x3] M (some (aI x101)) M2)
    (k4 : (.inl (some (aI x101), M2) : Fin') = fin) :
    Tv K_X6_add [aR (some 3), aI x1, aI x2, aJ x3] M fin := by
  refine ⟨Nat.le_of_ble_eq_true rfl, ?_⟩
  show T K_X6_add 0 [some (aR (some 3)), some (aI x1), some (aI x2), some (aJ x3), none] [] M fin
  refine th_aload_n dX6_add_0 rfl ?_
  refine th_iload_n dX6_add_1 rfl ?_
  refine th_callTV (As := [aI x1]) (rest := []) vk_X6_known hS.l3 w427 ⟨by decide, by decide⟩ (Nat.le_of_ble_eq_true rfl) dX6_add_2 c1 ?_
  show T K_X6_add 5 [some (aR (some 3)), some (aI x1), some (aI x2), some (aJ x3), none] [aR (some r1)] M fin
  have h_r1 : Mt M r1 := h2
  refine th_iload_n dX6_add_5 rfl ?_
  refine th_lload_n dX6_add_6 rfl ?_
  refine th_callV (As := [aI x2, aJ x3]) (rest := []) vk_X4_append h_r1.l0 w451 ⟨by decide, by decide⟩ (Nat.le_of_ble_eq_true rfl) dX6_add_7 c3 ?_
  show T K_X6_add 10 [some (aR (some 3)), some (aI x1), some (aI x2), some (aJ x3), none] [aI x101] M2 fin
  have hS_2 : St M2 := St.sh (M := M) c3.2.1 hS
  have h_r1_2 : Mt M2 r1 := Mt.sh (M := M) c3.2.1 h_r1
  exact th_iret rfl dX6_add_10 k4

set_option maxRecDepth 20000 in
theorem s_X6_add_0thr {M : AM} {fin : Fin'} {x1 : Int32} {x2 : Int32} {x3 : Int64} {M1 : AM} (hS : St M)
    (c1 : Tv K_X6_known [aR (some 3), aI x1] M (.inr (10, M1)))
    (k2 : (.inr (10, M1) : Fin') = fin) :
    Tv K_X6_add [aR (some 3), aI x1, aI x2, aJ x3] M fin := by
  refine ⟨Nat.le_of_ble_eq_true rfl, ?_⟩
  show T K_X6_add 0 [some (aR (some 3)), some (aI x1), some (aI x2), some (aJ x3), none] [] M fin
  refine th_aload_n dX6_add_0 rfl ?_
  refine th_iload_n dX6_add_1 rfl ?_
  exact th_callTX (As := [aI x1]) (rest := []) vk_X6_known hS.l3 w427 ⟨by decide, by decide⟩ (Nat.le_of_ble_eq_true rfl) dX6_add_2 rfl c1 k2

set_option maxRecDepth 20000 in
theorem s_X6_change_0ok {M : AM} {fin : Fin'} {x1 : Int32} {x2 : Int32} {x3 : Int32} {x4 : Int64} {r1 : Nat} {M2 : AM} {x101 : Int32} (hS : St M)
    (c1 : Tv K_X6_knownWith [aR (some 3), aI x1, aI x2] M (.inl (some (aR (some r1)), M)))
    (h2 : Mt M r1)
    (c3 : Ev K_X4_replace [aR (some r1), aI x2, aI x3, aJ x4] M (some (aI x101)) M2)
    (k4 : (.inl (some (aI x101), M2) : Fin') = fin) :
    Tv K_X6_change [aR (some 3), aI x1, aI x2, aI x3, aJ x4] M fin := by
  refine ⟨Nat.le_of_ble_eq_true rfl, ?_⟩
  show T K_X6_change 0 [some (aR (some 3)), some (aI x1), some (aI x2), some (aI x3), some (aJ x4), none] [] M fin
  refine th_aload_n dX6_change_0 rfl ?_
  refine th_iload_n dX6_change_1 rfl ?_
  refine th_iload_n dX6_change_2 rfl ?_
  refine th_callTV (As := [aI x1, aI x2]) (rest := []) vk_X6_knownWith hS.l3 w470 ⟨by decide, by decide⟩ (Nat.le_of_ble_eq_true rfl) dX6_change_3 c1 ?_
  show T K_X6_change 6 [some (aR (some 3)), some (aI x1), some (aI x2), some (aI x3), some (aJ x4), none] [aR (some r1)] M fin
  have h_r1 : Mt M r1 := h2
  refine th_iload_n dX6_change_6 rfl ?_
  refine th_iload_n dX6_change_7 rfl ?_
  refine th_lload dX6_change_8 rfl ?_
  refine th_callV (As := [aI x2, aI x3, aJ x4]) (rest := []) vk_X4_replace h_r1.l0 w476 ⟨by decide, by decide⟩ (Nat.le_of_ble_eq_true rfl) dX6_change_10 c3 ?_
  show T K_X6_change 13 [some (aR (some 3)), some (aI x1), some (aI x2), some (aI x3), some (aJ x4), none] [aI x101] M2 fin
  have hS_2 : St M2 := St.sh (M := M) c3.2.1 hS
  have h_r1_2 : Mt M2 r1 := Mt.sh (M := M) c3.2.1 h_r1
  exact th_iret rfl dX6_change_13 k4

set_option maxRecDepth 20000 in
theorem s_X6_change_0thr {M : AM} {fin : Fin'} {x1 : Int32} {x2 : Int32} {x3 : Int32} {x4 : Int64} {M1 : AM} (hS : St M)
    (c1 : Tv K_X6_knownWith [aR (some 3), aI x1, aI x2] M (.inr (10, M1)))
    (k2 : (.inr (10, M1) : Fin') = fin) :
    Tv K_X6_change [aR (some 3), aI x1, aI x2, aI x3, aJ x4] M fin := by
  refine ⟨Nat.le_of_ble_eq_true rfl, ?_⟩
  show T K_X6_change 0 [some (aR (some 3)), some (aI x1), some (aI x2), some (aI x3), some (aJ x4), none] [] M fin
  refine th_aload_n dX6_change_0 rfl ?_
  refine th_iload_n dX6_change_1 rfl ?_
  refine th_iload_n dX6_change_2 rfl ?_
  exact th_callTX (As := [aI x1, aI x2]) (rest := []) vk_X6_knownWith hS.l3 w470 ⟨by decide, by decide⟩ (Nat.le_of_ble_eq_true rfl) dX6_change_3 rfl c1 k2

set_option maxRecDepth 20000 in
theorem s_X6_check_0ok {M : AM} {fin : Fin'} {x1 : Int32} {r1 : Nat} {M2 : AM} (hS : St M)
    (c1 : Tv K_X6_known [aR (some 3), aI x1] M (.inl (some (aR (some r1)), M)))
    (h2 : Mt M r1)
    (c3 : Ev K_X2_refresh [aR (some 7)] M (none) M2)
    (k4 : (.inl (some (aI (mI (wrI M2 3 6 (mI M2 r1 9)) r1 8)), wrI M2 3 6 (mI M2 r1 9)) : Fin') = fin) :
    Tv K_X6_check [aR (some 3), aI x1] M fin := by
  refine ⟨Nat.le_of_ble_eq_true rfl, ?_⟩
  show T K_X6_check 0 [some (aR (some 3)), some (aI x1), none] [] M fin
  refine th_aload_n dX6_check_0 rfl ?_
  refine th_iload_n dX6_check_1 rfl ?_
  refine th_callTV (As := [aI x1]) (rest := []) vk_X6_known hS.l3 w427 ⟨by decide, by decide⟩ (Nat.le_of_ble_eq_true rfl) dX6_check_2 c1 ?_
  show T K_X6_check 5 [some (aR (some 3)), some (aI x1), none] [aR (some r1)] M fin
  have h_r1 : Mt M r1 := h2
  refine th_astore_n dX6_check_5 (Nat.le_of_ble_eq_true rfl) ?_
  show T K_X6_check 6 [some (aR (some 3)), some (aI x1), some (aR (some r1))] [] M fin
  refine th_aload_n dX6_check_6 rfl ?_
  refine th_get ff_6_1 hS.l3 w239 dX6_check_7 (w := aR (some 7)) hS.f3_1 ?_
  refine th_callV (As := []) (rest := []) vk_X2_refresh hS.l7 w506 ⟨by decide, by decide⟩ (Nat.le_of_ble_eq_true rfl) dX6_check_10 c3 ?_
  show T K_X6_check 13 [some (aR (some 3)), some (aI x1), some (aR (some r1))] [] M2 fin
  have hS_2 : St M2 := St.sh (M := M) c3.2.1 hS
  have h_r1_2 : Mt M2 r1 := Mt.sh (M := M) c3.2.1 h_r1
  refine th_aload_n dX6_check_13 rfl ?_
  refine th_aload_n dX6_check_14 rfl ?_
  refine th_getN ff_4_9 h_r1_2.l0 w388 dX6_check_15 (w := aI (mI M2 r1 9)) rfl ?_
  refine th_putI ff_6_6 rfl hS_2.l3 w244 dX6_check_18 ?_
  refine th_aload_n dX6_check_21 rfl ?_
  refine th_getN ff_4_8 h_r1_2.l0 w386 dX6_check_22 (w := aI (mI (wrI M2 3 6 (mI M2 r1 9)) r1 8)) rfl ?_
  exact th_iret rfl dX6_check_25 k4

set_option maxRecDepth 20000 in
theorem s_X6_check_0thr {M : AM} {fin : Fin'} {x1 : Int32} {M1 : AM} (hS : St M)
    (c1 : Tv K_X6_known [aR (some 3), aI x1] M (.inr (10, M1)))
    (k2 : (.inr (10, M1) : Fin') = fin) :
    Tv K_X6_check [aR (some 3), aI x1] M fin := by
  refine ⟨Nat.le_of_ble_eq_true rfl, ?_⟩
  show T K_X6_check 0 [some (aR (some 3)), some (aI x1), none] [] M fin
  refine th_aload_n dX6_check_0 rfl ?_
  refine th_iload_n dX6_check_1 rfl ?_
  exact th_callTX (As := [aI x1]) (rest := []) vk_X6_known hS.l3 w427 ⟨by decide, by decide⟩ (Nat.le_of_ble_eq_true rfl) dX6_check_2 rfl c1 k2

set_option maxRecDepth 20000 in
theorem s_X6_height_0ok {M : AM} {fin : Fin'} {x1 : Int32} {x2 : Int32} {r1 : Nat} {M2 : AM} {M3 : AM} {x101 : Int32} {M4 : AM} {x103 : Int32} (hS : St M)
    (c1 : Tv K_X6_knownWith [aR (some 3), aI x1, aI x2] M (.inl (some (aR (some r1)), M)))
    (h2 : Mt M r1)
    (c3 : Ev K_X2_refresh [aR (some 7)] M (none) M2)
    (c4 : Ev K_X4_isSound [aR (some r1)] M2 (some (aI x101)) M3)
    (k5 : ∀ (g2 : x101 = 0), (.inl (some (aI (-1)), M3) : Fin') = fin)
    (c6 : ∀ (g2 : ¬ x101 = 0), Ev K_X4_heightAt [aR (some r1), aI x2] M3 (some (aI x103)) M4)
    (k7 : ∀ (g2 : ¬ x101 = 0), (.inl (some (aI x103), M4) : Fin') = fin) :
    Tv K_X6_height [aR (some 3), aI x1, aI x2] M fin := by
  refine ⟨Nat.le_of_ble_eq_true rfl, ?_⟩
  show T K_X6_height 0 [some (aR (some 3)), some (aI x1), some (aI x2), none] [] M fin
  refine th_aload_n dX6_height_0 rfl ?_
  refine th_iload_n dX6_height_1 rfl ?_
  refine th_iload_n dX6_height_2 rfl ?_
  refine th_callTV (As := [aI x1, aI x2]) (rest := []) vk_X6_knownWith hS.l3 w470 ⟨by decide, by decide⟩ (Nat.le_of_ble_eq_true rfl) dX6_height_3 c1 ?_
  show T K_X6_height 6 [some (aR (some 3)), some (aI x1), some (aI x2), none] [aR (some r1)] M fin
  have h_r1 : Mt M r1 := h2
  refine th_astore_n dX6_height_6 (Nat.le_of_ble_eq_true rfl) ?_
  show T K_X6_height 7 [some (aR (some 3)), some (aI x1), some (aI x2), some (aR (some r1))] [] M fin
  refine th_aload_n dX6_height_7 rfl ?_
  refine th_get ff_6_1 hS.l3 w239 dX6_height_8 (w := aR (some 7)) hS.f3_1 ?_
  refine th_callV (As := []) (rest := []) vk_X2_refresh hS.l7 w506 ⟨by decide, by decide⟩ (Nat.le_of_ble_eq_true rfl) dX6_height_11 c3 ?_
  show T K_X6_height 14 [some (aR (some 3)), some (aI x1), some (aI x2), some (aR (some r1))] [] M2 fin
  have hS_2 : St M2 := St.sh (M := M) c3.2.1 hS
  have h_r1_2 : Mt M2 r1 := Mt.sh (M := M) c3.2.1 h_r1
  refine th_aload_n dX6_height_14 rfl ?_
  refine th_callV (As := []) (rest := []) vk_X4_isSound h_r1_2.l0 w579 ⟨by decide, by decide⟩ (Nat.le_of_ble_eq_true rfl) dX6_height_15 c4 ?_
  show T K_X6_height 18 [some (aR (some 3)), some (aI x1), some (aI x2), some (aR (some r1))] [aI x101] M3 fin
  have hS_3 : St M3 := St.sh (M := M2) c4.2.1 hS_2
  have h_r1_2_3 : Mt M3 r1 := Mt.sh (M := M2) c4.2.1 h_r1_2
  refine th_if_eq (tgt := 29) dX6_height_18 rfl (fun g2 => ?_) (fun g2 => ?_)
  ·
    refine th_iconst (u := (-1)) dX6_height_29 (by decide) ?_
    exact th_iret rfl dX6_height_30 (k5 g2)
  ·
    refine th_aload_n dX6_height_21 rfl ?_
    refine th_iload_n dX6_height_22 rfl ?_
    refine th_callV (As := [aI x2]) (rest := []) vk_X4_heightAt h_r1_2_3.l0 w580 ⟨by decide, by decide⟩ (Nat.le_of_ble_eq_true rfl) dX6_height_23 (c6 g2) ?_
    show T K_X6_height 26 [some (aR (some 3)), some (aI x1), some (aI x2), some (aR (some r1))] [aI x103] M4 fin
    have hS_4 : St M4 := St.sh (M := M3) (c6 g2).2.1 hS_3
    have h_r1_2_3_4 : Mt M4 r1 := Mt.sh (M := M3) (c6 g2).2.1 h_r1_2_3
    refine th_goto (tgt := 30) dX6_height_26 rfl ?_
    exact th_iret rfl dX6_height_30 (k7 g2)

set_option maxRecDepth 20000 in
theorem s_X6_height_0thr {M : AM} {fin : Fin'} {x1 : Int32} {x2 : Int32} {M1 : AM} (hS : St M)
    (c1 : Tv K_X6_knownWith [aR (some 3), aI x1, aI x2] M (.inr (10, M1)))
    (k2 : (.inr (10, M1) : Fin') = fin) :
    Tv K_X6_height [aR (some 3), aI x1, aI x2] M fin := by
  refine ⟨Nat.le_of_ble_eq_true rfl, ?_⟩
  show T K_X6_height 0 [some (aR (some 3)), some (aI x1), some (aI x2), none] [] M fin
  refine th_aload_n dX6_height_0 rfl ?_
  refine th_iload_n dX6_height_1 rfl ?_
  refine th_iload_n dX6_height_2 rfl ?_
  exact th_callTX (As := [aI x1, aI x2]) (rest := []) vk_X6_knownWith hS.l3 w470 ⟨by decide, by decide⟩ (Nat.le_of_ble_eq_true rfl) dX6_height_3 rfl c1 k2

set_option maxRecDepth 20000 in
theorem s_X6_analyse_0ok {M : AM} {fin : Fin'} {x1 : Int32} {r1 : Nat} {M2 : AM} {M3 : AM} {x101 : Int32} (hS : St M)
    (c1 : Tv K_X6_known [aR (some 3), aI x1] M (.inl (some (aR (some r1)), M)))
    (h2 : Mt M r1)
    (c3 : Ev K_X2_refresh [aR (some 7)] M (none) M2)
    (c4 : Ev K_X0_analyseFrom [aR (some 11), aI x1] M2 (some (aI x101)) M3)
    (k5 : (.inl (some (aI x101), M3) : Fin') = fin) :
    Tv K_X6_analyse [aR (some 3), aI x1] M fin := by
  refine ⟨Nat.le_of_ble_eq_true rfl, ?_⟩
  show T K_X6_analyse 0 [some (aR (some 3)), some (aI x1)] [] M fin
  refine th_aload_n dX6_analyse_0 rfl ?_
  refine th_iload_n dX6_analyse_1 rfl ?_
  refine th_callTV (As := [aI x1]) (rest := []) vk_X6_known hS.l3 w427 ⟨by decide, by decide⟩ (Nat.le_of_ble_eq_true rfl) dX6_analyse_2 c1 ?_
  show T K_X6_analyse 5 [some (aR (some 3)), some (aI x1)] [aR (some r1)] M fin
  have h_r1 : Mt M r1 := h2
  refine th_popR dX6_analyse_5 ?_
  refine th_aload_n dX6_analyse_6 rfl ?_
  refine th_get ff_6_1 hS.l3 w239 dX6_analyse_7 (w := aR (some 7)) hS.f3_1 ?_
  refine th_callV (As := []) (rest := []) vk_X2_refresh hS.l7 w506 ⟨by decide, by decide⟩ (Nat.le_of_ble_eq_true rfl) dX6_analyse_10 c3 ?_
  show T K_X6_analyse 13 [some (aR (some 3)), some (aI x1)] [] M2 fin
  have hS_2 : St M2 := St.sh (M := M) c3.2.1 hS
  have h_r1_2 : Mt M2 r1 := Mt.sh (M := M) c3.2.1 h_r1
  refine th_aload_n dX6_analyse_13 rfl ?_
  refine th_get ff_6_2 hS_2.l3 w240 dX6_analyse_14 (w := aR (some 11)) hS_2.f3_2 ?_
  refine th_iload_n dX6_analyse_17 rfl ?_
  refine th_callV (As := [aI x1]) (rest := []) vk_X0_analyseFrom hS_2.l11 w588 ⟨by decide, by decide⟩ (Nat.le_of_ble_eq_true rfl) dX6_analyse_18 c4 ?_
  show T K_X6_analyse 21 [some (aR (some 3)), some (aI x1)] [aI x101] M3 fin
  have hS_3 : St M3 := St.sh (M := M2) c4.2.1 hS_2
  have h_r1_2_3 : Mt M3 r1 := Mt.sh (M := M2) c4.2.1 h_r1_2
  exact th_iret rfl dX6_analyse_21 k5

set_option maxRecDepth 20000 in
theorem s_X6_analyse_0thr {M : AM} {fin : Fin'} {x1 : Int32} {M1 : AM} (hS : St M)
    (c1 : Tv K_X6_known [aR (some 3), aI x1] M (.inr (10, M1)))
    (k2 : (.inr (10, M1) : Fin') = fin) :
    Tv K_X6_analyse [aR (some 3), aI x1] M fin := by
  refine ⟨Nat.le_of_ble_eq_true rfl, ?_⟩
  show T K_X6_analyse 0 [some (aR (some 3)), some (aI x1)] [] M fin
  refine th_aload_n dX6_analyse_0 rfl ?_
  refine th_iload_n dX6_analyse_1 rfl ?_
  exact th_callTX (As := [aI x1]) (rest := []) vk_X6_known hS.l3 w427 ⟨by decide, by decide⟩ (Nat.le_of_ble_eq_true rfl) dX6_analyse_2 rfl c1 k2

set_option maxRecDepth 20000 in
theorem s_X6_told_0ok {M : AM} {fin : Fin'} {x1 : Int32} {x2 : Int32} {r1 : Nat} {M2 : AM} {x103 : Int32} (hS : St M)
    (c1 : Tv K_X6_known [aR (some 3), aI x1] M (.inl (some (aR (some r1)), M)))
    (h2 : Mt M r1)
    (k3 : ∀ (g1 : x2 < 0), (.inr (10, mk M 10 6) : Fin') = fin)
    (c4 : ∀ (g1 : ¬ (x2 < 0)) (g2 : x2 ≤ 2), Ev K_X0_answer [aR (some 11), aI x1, aI x2] M (some (aI x103)) M2)
    (k5 : ∀ (g1 : ¬ (x2 < 0)) (g2 : x2 ≤ 2), (.inl (some (aI x103), M2) : Fin') = fin)
    (k6 : ∀ (g1 : ¬ (x2 < 0)) (g2 : ¬ (x2 ≤ 2)), (.inr (10, mk M 10 6) : Fin') = fin) :
    Tv K_X6_told [aR (some 3), aI x1, aI x2] M fin := by
  refine ⟨Nat.le_of_ble_eq_true rfl, ?_⟩
  show T K_X6_told 0 [some (aR (some 3)), some (aI x1), some (aI x2)] [] M fin
  refine th_aload_n dX6_told_0 rfl ?_
  refine th_iload_n dX6_told_1 rfl ?_
  refine th_callTV (As := [aI x1]) (rest := []) vk_X6_known hS.l3 w427 ⟨by decide, by decide⟩ (Nat.le_of_ble_eq_true rfl) dX6_told_2 c1 ?_
  show T K_X6_told 5 [some (aR (some 3)), some (aI x1), some (aI x2)] [aR (some r1)] M fin
  have h_r1 : Mt M r1 := h2
  refine th_popR dX6_told_5 ?_
  refine th_iload_n dX6_told_6 rfl ?_
  refine th_if_lt (tgt := 15) dX6_told_7 rfl (fun g1 => ?_) (fun g1 => ?_)
  ·
    exact th_throw (Or.inr (Or.inr rfl)) at10 w435 w78 w679 (by decide) (by decide) rfl dX6_told_15 dX6_told_18 dX6_told_19 dX6_told_21 dX6_told_24 (k3 g1)
  ·
    refine th_iload_n dX6_told_10 rfl ?_
    refine th_iconst (u := 2) dX6_told_11 (by decide) ?_
    refine th_icmp_le (tgt := 25) dX6_told_12 rfl (fun g2 => ?_) (fun g2 => ?_)
    ·
      refine th_aload_n dX6_told_25 rfl ?_
      refine th_get ff_6_2 hS.l3 w240 dX6_told_26 (w := aR (some 11)) hS.f3_2 ?_
      refine th_iload_n dX6_told_29 rfl ?_
      refine th_iload_n dX6_told_30 rfl ?_
      refine th_callV (As := [aI x1, aI x2]) (rest := []) vk_X0_answer hS.l11 w680 ⟨by decide, by decide⟩ (Nat.le_of_ble_eq_true rfl) dX6_told_31 (c4 g1 g2) ?_
      show T K_X6_told 34 [some (aR (some 3)), some (aI x1), some (aI x2)] [aI x103] M2 fin
      have hS_2 : St M2 := St.sh (M := M) (c4 g1 g2).2.1 hS
      have h_r1_2 : Mt M2 r1 := Mt.sh (M := M) (c4 g1 g2).2.1 h_r1
      exact th_iret rfl dX6_told_34 (k5 g1 g2)
    ·
      exact th_throw (Or.inr (Or.inr rfl)) at10 w435 w78 w679 (by decide) (by decide) rfl dX6_told_15 dX6_told_18 dX6_told_19 dX6_told_21 dX6_told_24 (k6 g1 g2)

set_option maxRecDepth 20000 in
theorem s_X6_told_0thr {M : AM} {fin : Fin'} {x1 : Int32} {x2 : Int32} {M1 : AM} (hS : St M)
    (c1 : Tv K_X6_known [aR (some 3), aI x1] M (.inr (10, M1)))
    (k2 : (.inr (10, M1) : Fin') = fin) :
    Tv K_X6_told [aR (some 3), aI x1, aI x2] M fin := by
  refine ⟨Nat.le_of_ble_eq_true rfl, ?_⟩
  show T K_X6_told 0 [some (aR (some 3)), some (aI x1), some (aI x2)] [] M fin
  refine th_aload_n dX6_told_0 rfl ?_
  refine th_iload_n dX6_told_1 rfl ?_
  exact th_callTX (As := [aI x1]) (rest := []) vk_X6_known hS.l3 w427 ⟨by decide, by decide⟩ (Nat.le_of_ble_eq_true rfl) dX6_told_2 rfl c1 k2

set_option maxRecDepth 20000 in
theorem s_X6_bound_0ok {M : AM} {fin : Fin'} {x1 : Int32} {x2 : Int32} {r1 : Nat} {M2 : AM} {x103 : Int64} (hS : St M)
    (c1 : Tv K_X6_known [aR (some 3), aI x1] M (.inl (some (aR (some r1)), M)))
    (h2 : Mt M r1)
    (k3 : ∀ (g1 : x2 < 0), (.inr (10, mk M 10 6) : Fin') = fin)
    (c4 : ∀ (g1 : ¬ (x2 < 0)) (g2 : x2 ≤ 1), Ev K_X0_boundOf [aR (some 11), aI x1, aI x2] M (some (aJ x103)) M2)
    (k5 : ∀ (g1 : ¬ (x2 < 0)) (g2 : x2 ≤ 1), (.inl (some (aJ x103), M2) : Fin') = fin)
    (k6 : ∀ (g1 : ¬ (x2 < 0)) (g2 : ¬ (x2 ≤ 1)), (.inr (10, mk M 10 6) : Fin') = fin) :
    Tv K_X6_bound [aR (some 3), aI x1, aI x2] M fin := by
  refine ⟨Nat.le_of_ble_eq_true rfl, ?_⟩
  show T K_X6_bound 0 [some (aR (some 3)), some (aI x1), some (aI x2)] [] M fin
  refine th_aload_n dX6_bound_0 rfl ?_
  refine th_iload_n dX6_bound_1 rfl ?_
  refine th_callTV (As := [aI x1]) (rest := []) vk_X6_known hS.l3 w427 ⟨by decide, by decide⟩ (Nat.le_of_ble_eq_true rfl) dX6_bound_2 c1 ?_
  show T K_X6_bound 5 [some (aR (some 3)), some (aI x1), some (aI x2)] [aR (some r1)] M fin
  have h_r1 : Mt M r1 := h2
  refine th_popR dX6_bound_5 ?_
  refine th_iload_n dX6_bound_6 rfl ?_
  refine th_if_lt (tgt := 15) dX6_bound_7 rfl (fun g1 => ?_) (fun g1 => ?_)
  ·
    exact th_throw (Or.inr (Or.inr rfl)) at10 w435 w78 w691 (by decide) (by decide) rfl dX6_bound_15 dX6_bound_18 dX6_bound_19 dX6_bound_21 dX6_bound_24 (k3 g1)
  ·
    refine th_iload_n dX6_bound_10 rfl ?_
    refine th_iconst (u := 1) dX6_bound_11 (by decide) ?_
    refine th_icmp_le (tgt := 25) dX6_bound_12 rfl (fun g2 => ?_) (fun g2 => ?_)
    ·
      refine th_aload_n dX6_bound_25 rfl ?_
      refine th_get ff_6_2 hS.l3 w240 dX6_bound_26 (w := aR (some 11)) hS.f3_2 ?_
      refine th_iload_n dX6_bound_29 rfl ?_
      refine th_iload_n dX6_bound_30 rfl ?_
      refine th_callV (As := [aI x1, aI x2]) (rest := []) vk_X0_boundOf hS.l11 w692 ⟨by decide, by decide⟩ (Nat.le_of_ble_eq_true rfl) dX6_bound_31 (c4 g1 g2) ?_
      show T K_X6_bound 34 [some (aR (some 3)), some (aI x1), some (aI x2)] [aJ x103] M2 fin
      have hS_2 : St M2 := St.sh (M := M) (c4 g1 g2).2.1 hS
      have h_r1_2 : Mt M2 r1 := Mt.sh (M := M) (c4 g1 g2).2.1 h_r1
      exact th_lret rfl dX6_bound_34 (k5 g1 g2)
    ·
      exact th_throw (Or.inr (Or.inr rfl)) at10 w435 w78 w691 (by decide) (by decide) rfl dX6_bound_15 dX6_bound_18 dX6_bound_19 dX6_bound_21 dX6_bound_24 (k6 g1 g2)

set_option maxRecDepth 20000 in
theorem s_X6_bound_0thr {M : AM} {fin : Fin'} {x1 : Int32} {x2 : Int32} {M1 : AM} (hS : St M)
    (c1 : Tv K_X6_known [aR (some 3), aI x1] M (.inr (10, M1)))
    (k2 : (.inr (10, M1) : Fin') = fin) :
    Tv K_X6_bound [aR (some 3), aI x1, aI x2] M fin := by
  refine ⟨Nat.le_of_ble_eq_true rfl, ?_⟩
  show T K_X6_bound 0 [some (aR (some 3)), some (aI x1), some (aI x2)] [] M fin
  refine th_aload_n dX6_bound_0 rfl ?_
  refine th_iload_n dX6_bound_1 rfl ?_
  exact th_callTX (As := [aI x1]) (rest := []) vk_X6_known hS.l3 w427 ⟨by decide, by decide⟩ (Nat.le_of_ble_eq_true rfl) dX6_bound_2 rfl c1 k2

set_option maxRecDepth 20000 in
theorem s_X6_run_0ok {M : AM} {fin : Fin'} {x1 : Int32} {x2 : Int32} {r1 : Nat} {M2 : AM} {M3 : AM} {x104 : Int32} (hS : St M)
    (c1 : Tv K_X6_known [aR (some 3), aI x1] M (.inl (some (aR (some r1)), M)))
    (h2 : Mt M r1)
    (k3 : ∀ (g1 : (mI M 3 5) = (mI M r1 0)) (g2 : x2 < 0), (.inr (8, mk M 8 6) : Fin') = fin)
    (c4 : ∀ (g1 : (mI M 3 5) = (mI M r1 0)) (g2 : ¬ (x2 < 0)) (g3 : x2 ≤ 100000), Ev K_X2_refresh [aR (some 7)] (wrI M 3 5 0) (none) M2)
    (c5 : ∀ (g1 : (mI M 3 5) = (mI M r1 0)) (g2 : ¬ (x2 < 0)) (g3 : x2 ≤ 100000), Ev K_X3_perform [aR (some 18), aR (some r1), aR (some 25), aI x2] M2 (some (aI x104)) M3)
    (k6 : ∀ (g1 : (mI M 3 5) = (mI M r1 0)) (g2 : ¬ (x2 < 0)) (g3 : x2 ≤ 100000), (.inl (some (aI x104), M3) : Fin') = fin)
    (k7 : ∀ (g1 : (mI M 3 5) = (mI M r1 0)) (g2 : ¬ (x2 < 0)) (g3 : ¬ (x2 ≤ 100000)), (.inr (8, mk M 8 6) : Fin') = fin)
    (k8 : ∀ (g1 : ¬ (mI M 3 5) = (mI M r1 0)), (.inr (8, mk M 8 6) : Fin') = fin) :
    Tv K_X6_run [aR (some 3), aI x1, aI x2] M fin := by
  refine ⟨Nat.le_of_ble_eq_true rfl, ?_⟩
  show T K_X6_run 0 [some (aR (some 3)), some (aI x1), some (aI x2), none] [] M fin
  refine th_aload_n dX6_run_0 rfl ?_
  refine th_iload_n dX6_run_1 rfl ?_
  refine th_callTV (As := [aI x1]) (rest := []) vk_X6_known hS.l3 w427 ⟨by decide, by decide⟩ (Nat.le_of_ble_eq_true rfl) dX6_run_2 c1 ?_
  show T K_X6_run 5 [some (aR (some 3)), some (aI x1), some (aI x2), none] [aR (some r1)] M fin
  have h_r1 : Mt M r1 := h2
  refine th_astore_n dX6_run_5 (Nat.le_of_ble_eq_true rfl) ?_
  show T K_X6_run 6 [some (aR (some 3)), some (aI x1), some (aI x2), some (aR (some r1))] [] M fin
  refine th_aload_n dX6_run_6 rfl ?_
  refine th_get ff_6_5 hS.l3 w243 dX6_run_7 (w := aI (mI M 3 5)) rfl ?_
  refine th_aload_n dX6_run_10 rfl ?_
  refine th_getN ff_4_0 h_r1.l0 w356 dX6_run_11 (w := aI (mI M r1 0)) rfl ?_
  refine th_icmp_eq (tgt := 27) dX6_run_14 rfl (fun g1 => ?_) (fun g1 => ?_)
  ·
    refine th_iload_n dX6_run_27 rfl ?_
    refine th_if_lt (tgt := 37) dX6_run_28 rfl (fun g2 => ?_) (fun g2 => ?_)
    ·
      exact th_throw (Or.inl rfl) at8 w272 w76 w730 (by decide) (by decide) rfl dX6_run_37 dX6_run_40 dX6_run_41 dX6_run_43 dX6_run_46 (k3 g1 g2)
    ·
      refine th_iload_n dX6_run_31 rfl ?_
      refine th_ldc dX6_run_32 w729 ?_
      refine th_icmp_le (tgt := 47) dX6_run_34 rfl (fun g3 => ?_) (fun g3 => ?_)
      ·
        refine th_aload_n dX6_run_47 rfl ?_
        refine th_iconst (u := 0) dX6_run_48 (by decide) ?_
        refine th_putI ff_6_5 rfl hS.l3 w243 dX6_run_49 ?_
        refine th_aload_n dX6_run_52 rfl ?_
        refine th_get ff_6_1 hS.l3 w239 dX6_run_53 (w := aR (some 7)) hS.f3_1 ?_
        refine th_callV (As := []) (rest := []) vk_X2_refresh hS.l7 w506 ⟨by decide, by decide⟩ (Nat.le_of_ble_eq_true rfl) dX6_run_56 (c4 g1 g2 g3) ?_
        show T K_X6_run 59 [some (aR (some 3)), some (aI x1), some (aI x2), some (aR (some r1))] [] M2 fin
        have hS_2 : St M2 := St.sh (M := (wrI M 3 5 0)) (c4 g1 g2 g3).2.1 hS
        have h_r1_2 : Mt M2 r1 := Mt.sh (M := (wrI M 3 5 0)) (c4 g1 g2 g3).2.1 h_r1
        refine th_aload_n dX6_run_59 rfl ?_
        refine th_get ff_6_3 hS_2.l3 w241 dX6_run_60 (w := aR (some 18)) hS_2.f3_3 ?_
        refine th_aload_n dX6_run_63 rfl ?_
        refine th_aload_n dX6_run_64 rfl ?_
        refine th_get ff_6_4 hS_2.l3 w242 dX6_run_65 (w := aR (some 25)) hS_2.f3_4 ?_
        refine th_iload_n dX6_run_68 rfl ?_
        refine th_callV (As := [aR (some r1), aR (some 25), aI x2]) (rest := []) vk_X3_perform hS_2.l18 w731 ⟨by decide, by decide⟩ (Nat.le_of_ble_eq_true rfl) dX6_run_69 (c5 g1 g2 g3) ?_
        show T K_X6_run 72 [some (aR (some 3)), some (aI x1), some (aI x2), some (aR (some r1))] [aI x104] M3 fin
        have hS_3 : St M3 := St.sh (M := M2) (c5 g1 g2 g3).2.1 hS_2
        have h_r1_2_3 : Mt M3 r1 := Mt.sh (M := M2) (c5 g1 g2 g3).2.1 h_r1_2
        exact th_iret rfl dX6_run_72 (k6 g1 g2 g3)
      ·
        exact th_throw (Or.inl rfl) at8 w272 w76 w730 (by decide) (by decide) rfl dX6_run_37 dX6_run_40 dX6_run_41 dX6_run_43 dX6_run_46 (k7 g1 g2 g3)
  ·
    exact th_throw (Or.inl rfl) at8 w272 w76 w728 (by decide) (by decide) rfl dX6_run_17 dX6_run_20 dX6_run_21 dX6_run_23 dX6_run_26 (k8 g1)

set_option maxRecDepth 20000 in
theorem s_X6_run_0thr {M : AM} {fin : Fin'} {x1 : Int32} {x2 : Int32} {M1 : AM} (hS : St M)
    (c1 : Tv K_X6_known [aR (some 3), aI x1] M (.inr (10, M1)))
    (k2 : (.inr (10, M1) : Fin') = fin) :
    Tv K_X6_run [aR (some 3), aI x1, aI x2] M fin := by
  refine ⟨Nat.le_of_ble_eq_true rfl, ?_⟩
  show T K_X6_run 0 [some (aR (some 3)), some (aI x1), some (aI x2), none] [] M fin
  refine th_aload_n dX6_run_0 rfl ?_
  refine th_iload_n dX6_run_1 rfl ?_
  exact th_callTX (As := [aI x1]) (rest := []) vk_X6_known hS.l3 w427 ⟨by decide, by decide⟩ (Nat.le_of_ble_eq_true rfl) dX6_run_2 rfl c1 k2

set_option maxRecDepth 20000 in
theorem s_X6_about_0ok {M : AM} {fin : Fin'} {x1 : Int32} {x2 : Int32} {r1 : Nat} {M2 : AM} {x103 : Int32} (hS : St M)
    (c1 : Tv K_X6_known [aR (some 3), aI x1] M (.inl (some (aR (some r1)), M)))
    (h2 : Mt M r1)
    (k3 : ∀ (g1 : x2 < 0), (.inr (10, mk M 10 6) : Fin') = fin)
    (c4 : ∀ (g1 : ¬ (x2 < 0)) (g2 : x2 ≤ 3), Ev K_X4_answer [aR (some r1), aI x2] M (some (aI x103)) M2)
    (k5 : ∀ (g1 : ¬ (x2 < 0)) (g2 : x2 ≤ 3), (.inl (some (aI x103), M2) : Fin') = fin)
    (k6 : ∀ (g1 : ¬ (x2 < 0)) (g2 : ¬ (x2 ≤ 3)), (.inr (10, mk M 10 6) : Fin') = fin) :
    Tv K_X6_about [aR (some 3), aI x1, aI x2] M fin := by
  refine ⟨Nat.le_of_ble_eq_true rfl, ?_⟩
  show T K_X6_about 0 [some (aR (some 3)), some (aI x1), some (aI x2), none] [] M fin
  refine th_aload_n dX6_about_0 rfl ?_
  refine th_iload_n dX6_about_1 rfl ?_
  refine th_callTV (As := [aI x1]) (rest := []) vk_X6_known hS.l3 w427 ⟨by decide, by decide⟩ (Nat.le_of_ble_eq_true rfl) dX6_about_2 c1 ?_
  show T K_X6_about 5 [some (aR (some 3)), some (aI x1), some (aI x2), none] [aR (some r1)] M fin
  have h_r1 : Mt M r1 := h2
  refine th_astore_n dX6_about_5 (Nat.le_of_ble_eq_true rfl) ?_
  show T K_X6_about 6 [some (aR (some 3)), some (aI x1), some (aI x2), some (aR (some r1))] [] M fin
  refine th_iload_n dX6_about_6 rfl ?_
  refine th_if_lt (tgt := 15) dX6_about_7 rfl (fun g1 => ?_) (fun g1 => ?_)
  ·
    exact th_throw (Or.inr (Or.inr rfl)) at10 w435 w78 w824 (by decide) (by decide) rfl dX6_about_15 dX6_about_18 dX6_about_19 dX6_about_21 dX6_about_24 (k3 g1)
  ·
    refine th_iload_n dX6_about_10 rfl ?_
    refine th_iconst (u := 3) dX6_about_11 (by decide) ?_
    refine th_icmp_le (tgt := 25) dX6_about_12 rfl (fun g2 => ?_) (fun g2 => ?_)
    ·
      refine th_aload_n dX6_about_25 rfl ?_
      refine th_iload_n dX6_about_26 rfl ?_
      refine th_callV (As := [aI x2]) (rest := []) vk_X4_answer h_r1.l0 w825 ⟨by decide, by decide⟩ (Nat.le_of_ble_eq_true rfl) dX6_about_27 (c4 g1 g2) ?_
      show T K_X6_about 30 [some (aR (some 3)), some (aI x1), some (aI x2), some (aR (some r1))] [aI x103] M2 fin
      have hS_2 : St M2 := St.sh (M := M) (c4 g1 g2).2.1 hS
      have h_r1_2 : Mt M2 r1 := Mt.sh (M := M) (c4 g1 g2).2.1 h_r1
      exact th_iret rfl dX6_about_30 (k5 g1 g2)
    ·
      exact th_throw (Or.inr (Or.inr rfl)) at10 w435 w78 w824 (by decide) (by decide) rfl dX6_about_15 dX6_about_18 dX6_about_19 dX6_about_21 dX6_about_24 (k6 g1 g2)

set_option maxRecDepth 20000 in
theorem s_X6_about_0thr {M : AM} {fin : Fin'} {x1 : Int32} {x2 : Int32} {M1 : AM} (hS : St M)
    (c1 : Tv K_X6_known [aR (some 3), aI x1] M (.inr (10, M1)))
    (k2 : (.inr (10, M1) : Fin') = fin) :
    Tv K_X6_about [aR (some 3), aI x1, aI x2] M fin := by
  refine ⟨Nat.le_of_ble_eq_true rfl, ?_⟩
  show T K_X6_about 0 [some (aR (some 3)), some (aI x1), some (aI x2), none] [] M fin
  refine th_aload_n dX6_about_0 rfl ?_
  refine th_iload_n dX6_about_1 rfl ?_
  exact th_callTX (As := [aI x1]) (rest := []) vk_X6_known hS.l3 w427 ⟨by decide, by decide⟩ (Nat.le_of_ble_eq_true rfl) dX6_about_2 rfl c1 k2

set_option maxRecDepth 20000 in
theorem s_X6_cost_0 {M : AM} {fin : Fin'} {x1 : Int32} {x2 : Int32} {M1 : AM} {x101 : Int32} {M2 : AM} {x105 : Int32} (hS : St M)
    (c1 : Ev K_X6_isOperation [aI x1] M (some (aI x101)) M1)
    (k2 : ∀ (g2 : ¬ x101 = 0) (g3 : x2 < 0), (.inr (8, mk M1 8 6) : Fin') = fin)
    (c3 : ∀ (g2 : ¬ x101 = 0) (g3 : ¬ (x2 < 0)) (g4 : x2 ≤ 1000000), Ev K_X5_price [aR (some 4), aI x1, aI x2] M1 (some (aI x105)) M2)
    (k4 : ∀ (g2 : ¬ x101 = 0) (g3 : ¬ (x2 < 0)) (g4 : x2 ≤ 1000000), (.inl (some (aI x105), M2) : Fin') = fin)
    (k5 : ∀ (g2 : ¬ x101 = 0) (g3 : ¬ (x2 < 0)) (g4 : ¬ (x2 ≤ 1000000)), (.inr (8, mk M1 8 6) : Fin') = fin)
    (k6 : ∀ (g2 : x101 = 0), (.inr (10, mk M1 10 6) : Fin') = fin) :
    Tv K_X6_cost [aR (some 3), aI x1, aI x2] M fin := by
  refine ⟨Nat.le_of_ble_eq_true rfl, ?_⟩
  show T K_X6_cost 0 [some (aR (some 3)), some (aI x1), some (aI x2)] [] M fin
  refine th_iload_n dX6_cost_0 rfl ?_
  refine th_callS (As := [aI x1]) (rest := []) sk_X6_isOperation w484 ⟨by decide, by decide⟩ (Nat.le_of_ble_eq_true rfl) dX6_cost_1 c1 ?_
  show T K_X6_cost 4 [some (aR (some 3)), some (aI x1), some (aI x2)] [aI x101] M1 fin
  have hS_1 : St M1 := St.sh (M := M) c1.2.1 hS
  refine th_if_ne (tgt := 17) dX6_cost_4 rfl (fun g2 => ?_) (fun g2 => ?_)
  ·
    refine th_iload_n dX6_cost_17 rfl ?_
    refine th_if_lt (tgt := 27) dX6_cost_18 rfl (fun g3 => ?_) (fun g3 => ?_)
    ·
      exact th_throw (Or.inl rfl) at8 w272 w76 w489 (by decide) (by decide) rfl dX6_cost_27 dX6_cost_30 dX6_cost_31 dX6_cost_33 dX6_cost_36 (k2 g2 g3)
    ·
      refine th_iload_n dX6_cost_21 rfl ?_
      refine th_ldc dX6_cost_22 w488 ?_
      refine th_icmp_le (tgt := 37) dX6_cost_24 rfl (fun g4 => ?_) (fun g4 => ?_)
      ·
        refine th_aload_n dX6_cost_37 rfl ?_
        refine th_get ff_6_0 hS_1.l3 w238 dX6_cost_38 (w := aR (some 4)) hS_1.f3_0 ?_
        refine th_iload_n dX6_cost_41 rfl ?_
        refine th_iload_n dX6_cost_42 rfl ?_
        refine th_callV (As := [aI x1, aI x2]) (rest := []) vk_X5_price hS_1.l4 w490 ⟨by decide, by decide⟩ (Nat.le_of_ble_eq_true rfl) dX6_cost_43 (c3 g2 g3 g4) ?_
        show T K_X6_cost 46 [some (aR (some 3)), some (aI x1), some (aI x2)] [aI x105] M2 fin
        have hS_2 : St M2 := St.sh (M := M1) (c3 g2 g3 g4).2.1 hS_1
        exact th_iret rfl dX6_cost_46 (k4 g2 g3 g4)
      ·
        exact th_throw (Or.inl rfl) at8 w272 w76 w489 (by decide) (by decide) rfl dX6_cost_27 dX6_cost_30 dX6_cost_31 dX6_cost_33 dX6_cost_36 (k5 g2 g3 g4)
  ·
    exact th_throw (Or.inr (Or.inr rfl)) at10 w435 w78 w487 (by decide) (by decide) rfl dX6_cost_7 dX6_cost_10 dX6_cost_11 dX6_cost_13 dX6_cost_16 (k6 g2)

set_option maxRecDepth 20000 in
theorem s_X6_argument_0 {M : AM} {fin : Fin'} {x1 : Int64} (hS : St M)
    (b1 : ∀ (g1 : (mI M 3 5) < 8), vp_in (mI M 3 5) 8)
    (k2 : ∀ (g1 : (mI M 3 5) < 8), (.inl (some (aI ((mI M 3 5) + 1)), wrI (wrJ M 25 (mI M 3 5).toNatClampNeg x1) 3 5 ((mI M 3 5) + 1)) : Fin') = fin)
    (k3 : ∀ (g1 : ¬ ((mI M 3 5) < 8)), (.inr (9, mk M 9 6) : Fin') = fin) :
    Tv K_X6_argument [aR (some 3), aJ x1] M fin := by
  refine ⟨Nat.le_of_ble_eq_true rfl, ?_⟩
  show T K_X6_argument 0 [some (aR (some 3)), some (aJ x1), none] [] M fin
  refine th_aload_n dX6_argument_0 rfl ?_
  refine th_get ff_6_5 hS.l3 w243 dX6_argument_1 (w := aI (mI M 3 5)) rfl ?_
  refine th_aload_n dX6_argument_4 rfl ?_
  refine th_get ff_6_4 hS.l3 w242 dX6_argument_5 (w := aR (some 25)) hS.f3_4 ?_
  refine th_lenJv hS.l25 hS.n25 dX6_argument_8 ?_
  show T K_X6_argument 9 [some (aR (some 3)), some (aJ x1), none] [aI 8, aI (mI M 3 5)] M fin
  refine th_icmp_lt (tgt := 22) dX6_argument_9 rfl (fun g1 => ?_) (fun g1 => ?_)
  ·
    refine th_aload_n dX6_argument_22 rfl ?_
    refine th_get ff_6_4 hS.l3 w242 dX6_argument_23 (w := aR (some 25)) hS.f3_4 ?_
    refine th_aload_n dX6_argument_26 rfl ?_
    refine th_get ff_6_5 hS.l3 w243 dX6_argument_27 (w := aI (mI M 3 5)) rfl ?_
    refine th_lload_n dX6_argument_30 rfl ?_
    refine th_last hS.l25 (hS.b25 (b1 g1)) dX6_argument_31 ?_
    refine th_aload_n dX6_argument_32 rfl ?_
    refine th_dupR dX6_argument_33 ?_
    refine th_get ff_6_5 hS.l3 w243 dX6_argument_34 (w := aI (mI M 3 5)) rfl ?_
    refine th_iconst (u := 1) dX6_argument_37 (by decide) ?_
    refine th_iadd dX6_argument_38 ?_
    refine th_putI ff_6_5 rfl hS.l3 w243 dX6_argument_39 ?_
    refine th_aload_n dX6_argument_42 rfl ?_
    refine th_get ff_6_5 hS.l3 w243 dX6_argument_43 (w := aI ((mI M 3 5) + 1)) rfl ?_
    exact th_iret rfl dX6_argument_46 (k2 g1)
  ·
    exact th_throw (Or.inr (Or.inl rfl)) at9 w705 w80 w714 (by decide) (by decide) rfl dX6_argument_12 dX6_argument_15 dX6_argument_16 dX6_argument_18 dX6_argument_21 (k3 g1)

set_option maxRecDepth 20000 in
theorem s_X6_ran_0 {M : AM} {fin : Fin'} {x1 : Int32} {M1 : AM} {x103 : Int64} (hS : St M)
    (k1 : ∀ (g1 : x1 < 0), (.inr (10, mk M 10 6) : Fin') = fin)
    (c2 : ∀ (g1 : ¬ (x1 < 0)) (g2 : x1 ≤ 4), Ev K_X3_answer [aR (some 18), aI x1] M (some (aJ x103)) M1)
    (k3 : ∀ (g1 : ¬ (x1 < 0)) (g2 : x1 ≤ 4), (.inl (some (aJ x103), M1) : Fin') = fin)
    (k4 : ∀ (g1 : ¬ (x1 < 0)) (g2 : ¬ (x1 ≤ 4)), (.inr (10, mk M 10 6) : Fin') = fin) :
    Tv K_X6_ran [aR (some 3), aI x1] M fin := by
  refine ⟨Nat.le_of_ble_eq_true rfl, ?_⟩
  show T K_X6_ran 0 [some (aR (some 3)), some (aI x1)] [] M fin
  refine th_iload_n dX6_ran_0 rfl ?_
  refine th_if_lt (tgt := 9) dX6_ran_1 rfl (fun g1 => ?_) (fun g1 => ?_)
  ·
    exact th_throw (Or.inr (Or.inr rfl)) at10 w435 w78 w812 (by decide) (by decide) rfl dX6_ran_9 dX6_ran_12 dX6_ran_13 dX6_ran_15 dX6_ran_18 (k1 g1)
  ·
    refine th_iload_n dX6_ran_4 rfl ?_
    refine th_iconst (u := 4) dX6_ran_5 (by decide) ?_
    refine th_icmp_le (tgt := 19) dX6_ran_6 rfl (fun g2 => ?_) (fun g2 => ?_)
    ·
      refine th_aload_n dX6_ran_19 rfl ?_
      refine th_get ff_6_3 hS.l3 w241 dX6_ran_20 (w := aR (some 18)) hS.f3_3 ?_
      refine th_iload_n dX6_ran_23 rfl ?_
      refine th_callV (As := [aI x1]) (rest := []) vk_X3_answer hS.l18 w813 ⟨by decide, by decide⟩ (Nat.le_of_ble_eq_true rfl) dX6_ran_24 (c2 g1 g2) ?_
      show T K_X6_ran 27 [some (aR (some 3)), some (aI x1)] [aJ x103] M1 fin
      have hS_1 : St M1 := St.sh (M := M) (c2 g1 g2).2.1 hS
      exact th_lret rfl dX6_ran_27 (k3 g1 g2)
    ·
      exact th_throw (Or.inr (Or.inr rfl)) at10 w435 w78 w812 (by decide) (by decide) rfl dX6_ran_9 dX6_ran_12 dX6_ran_13 dX6_ran_15 dX6_ran_18 (k4 g1 g2)

set_option maxRecDepth 20000 in
theorem s_X6_method_0 {M : AM} {fin : Fin'} {x1 : Int32} {x2 : Int32} {x3 : Int32} {M1 : AM} {x107 : Int32} {M3 : AM} {M4 : AM} {x109 : Int32} (hS : St M)
    (k1 : ∀ (g1 : x1 < 0), (.inr (8, mk M 8 6) : Fin') = fin)
    (k2 : ∀ (g1 : ¬ (x1 < 0)) (g2 : x1 ≤ 8) (g3 : x2 < 0), (.inr (8, mk M 8 6) : Fin') = fin)
    (k3 : ∀ (g1 : ¬ (x1 < 0)) (g2 : x1 ≤ 8) (g3 : ¬ (x2 < 0)) (g4 : x2 ≤ 1) (g5 : x3 < x1), (.inr (8, mk M 8 6) : Fin') = fin)
    (c4 : ∀ (g1 : ¬ (x1 < 0)) (g2 : x1 ≤ 8) (g3 : ¬ (x2 < 0)) (g4 : x2 ≤ 1) (g5 : ¬ (x3 < x1)) (g6 : x3 ≤ 16), Ev K_X5_isFull [aR (some 4)] M (some (aI x107)) M1)
    (c5 : ∀ (g1 : ¬ (x1 < 0)) (g2 : x1 ≤ 8) (g3 : ¬ (x2 < 0)) (g4 : x2 ≤ 1) (g5 : ¬ (x3 < x1)) (g6 : x3 ≤ 16) (g8 : x107 = 0), Tv K_X4_init [aR (some (mN M1)), aI x1, aI x2, aI x3] (mk M1 4 11) (.inl (none, M3)))
    (h6 : ∀ (g1 : ¬ (x1 < 0)) (g2 : x1 ≤ 8) (g3 : ¬ (x2 < 0)) (g4 : x2 ≤ 1) (g5 : ¬ (x3 < x1)) (g6 : x3 ≤ 16) (g8 : x107 = 0), St M3)
    (h7 : ∀ (g1 : ¬ (x1 < 0)) (g2 : x1 ≤ 8) (g3 : ¬ (x2 < 0)) (g4 : x2 ≤ 1) (g5 : ¬ (x3 < x1)) (g6 : x3 ≤ 16) (g8 : x107 = 0), Mt M3 (mN M1))
    (c8 : ∀ (g1 : ¬ (x1 < 0)) (g2 : x1 ≤ 8) (g3 : ¬ (x2 < 0)) (g4 : x2 ≤ 1) (g5 : ¬ (x3 < x1)) (g6 : x3 ≤ 16) (g8 : x107 = 0), Ev K_X5_include [aR (some 4), aR (some (mN M1))] M3 (some (aI x109)) M4)
    (k9 : ∀ (g1 : ¬ (x1 < 0)) (g2 : x1 ≤ 8) (g3 : ¬ (x2 < 0)) (g4 : x2 ≤ 1) (g5 : ¬ (x3 < x1)) (g6 : x3 ≤ 16) (g8 : x107 = 0), (.inl (some (aI x109), M4) : Fin') = fin)
    (k10 : ∀ (g1 : ¬ (x1 < 0)) (g2 : x1 ≤ 8) (g3 : ¬ (x2 < 0)) (g4 : x2 ≤ 1) (g5 : ¬ (x3 < x1)) (g6 : x3 ≤ 16) (g8 : ¬ x107 = 0), (.inl (some (aI (-1)), M1) : Fin') = fin)
    (k11 : ∀ (g1 : ¬ (x1 < 0)) (g2 : x1 ≤ 8) (g3 : ¬ (x2 < 0)) (g4 : x2 ≤ 1) (g5 : ¬ (x3 < x1)) (g6 : ¬ (x3 ≤ 16)), (.inr (8, mk M 8 6) : Fin') = fin)
    (k12 : ∀ (g1 : ¬ (x1 < 0)) (g2 : x1 ≤ 8) (g3 : ¬ (x2 < 0)) (g4 : ¬ (x2 ≤ 1)), (.inr (8, mk M 8 6) : Fin') = fin)
    (k13 : ∀ (g1 : ¬ (x1 < 0)) (g2 : ¬ (x1 ≤ 8)), (.inr (8, mk M 8 6) : Fin') = fin) :
    Tv K_X6_method [aR (some 3), aI x1, aI x2, aI x3] M fin := by
  refine ⟨Nat.le_of_ble_eq_true rfl, ?_⟩
  show T K_X6_method 0 [some (aR (some 3)), some (aI x1), some (aI x2), some (aI x3)] [] M fin
  refine th_iload_n dX6_method_0 rfl ?_
  refine th_if_lt (tgt := 10) dX6_method_1 rfl (fun g1 => ?_) (fun g1 => ?_)
  ·
    exact th_throw (Or.inl rfl) at8 w272 w76 w313 (by decide) (by decide) rfl dX6_method_10 dX6_method_13 dX6_method_14 dX6_method_16 dX6_method_19 (k1 g1)
  ·
    refine th_iload_n dX6_method_4 rfl ?_
    refine th_bipush (u := 8) dX6_method_5 (by decide) ?_
    refine th_icmp_le (tgt := 20) dX6_method_7 rfl (fun g2 => ?_) (fun g2 => ?_)
    ·
      refine th_iload_n dX6_method_20 rfl ?_
      refine th_if_lt (tgt := 29) dX6_method_21 rfl (fun g3 => ?_) (fun g3 => ?_)
      ·
        exact th_throw (Or.inl rfl) at8 w272 w76 w340 (by decide) (by decide) rfl dX6_method_29 dX6_method_32 dX6_method_33 dX6_method_35 dX6_method_38 (k2 g1 g2 g3)
      ·
        refine th_iload_n dX6_method_24 rfl ?_
        refine th_iconst (u := 1) dX6_method_25 (by decide) ?_
        refine th_icmp_le (tgt := 39) dX6_method_26 rfl (fun g4 => ?_) (fun g4 => ?_)
        ·
          refine th_iload_n dX6_method_39 rfl ?_
          refine th_iload_n dX6_method_40 rfl ?_
          refine th_icmp_lt (tgt := 50) dX6_method_41 rfl (fun g5 => ?_) (fun g5 => ?_)
          ·
            exact th_throw (Or.inl rfl) at8 w272 w76 w341 (by decide) (by decide) rfl dX6_method_50 dX6_method_53 dX6_method_54 dX6_method_56 dX6_method_59 (k3 g1 g2 g3 g4 g5)
          ·
            refine th_iload_n dX6_method_44 rfl ?_
            refine th_bipush (u := 16) dX6_method_45 (by decide) ?_
            refine th_icmp_le (tgt := 60) dX6_method_47 rfl (fun g6 => ?_) (fun g6 => ?_)
            ·
              refine th_aload_n dX6_method_60 rfl ?_
              refine th_get ff_6_0 hS.l3 w238 dX6_method_61 (w := aR (some 4)) hS.f3_0 ?_
              refine th_callV (As := []) (rest := []) vk_X5_isFull hS.l4 w342 ⟨by decide, by decide⟩ (Nat.le_of_ble_eq_true rfl) dX6_method_64 (c4 g1 g2 g3 g4 g5 g6) ?_
              show T K_X6_method 67 [some (aR (some 3)), some (aI x1), some (aI x2), some (aI x3)] [aI x107] M1 fin
              have hS_1 : St M1 := St.sh (M := M) (c4 g1 g2 g3 g4 g5 g6).2.1 hS
              refine th_if_eq (tgt := 72) dX6_method_67 rfl (fun g8 => ?_) (fun g8 => ?_)
              ·
                refine th_aload_n dX6_method_72 rfl ?_
                refine th_get ff_6_0 hS_1.l3 w238 dX6_method_73 (w := aR (some 4)) hS_1.f3_0 ?_
                refine th_new KF4 PT4 w346 w347 w77 dX6_method_76 ?_
                show T K_X6_method 79 [some (aR (some 3)), some (aI x1), some (aI x2), some (aI x3)] [aR (some (mN M1)), aR (some 4)] (mk M1 4 11) fin
                refine th_dupR dX6_method_79 ?_
                refine th_iload_n dX6_method_80 rfl ?_
                refine th_iload_n dX6_method_81 rfl ?_
                refine th_iload_n dX6_method_82 rfl ?_
                refine th_callI (As := [aI x1, aI x2, aI x3]) (rest := [aR (some (mN M1)), aR (some 4)]) yk_X4_init w349 ⟨by decide, by decide, by show _ = some 3; decide +kernel⟩ rfl rfl w348 ⟨by decide, by decide⟩ (Nat.le_of_ble_eq_true rfl) dX6_method_83 (c5 g1 g2 g3 g4 g5 g6 g8) ?_
                show T K_X6_method 86 [some (aR (some 3)), some (aI x1), some (aI x2), some (aI x3)] [aR (some (mN M1)), aR (some 4)] M3 fin
                have hS_3 : St M3 := (h6 g1 g2 g3 g4 g5 g6 g8)
                have hm_3 : Mt M3 (mN M1) := (h7 g1 g2 g3 g4 g5 g6 g8)
                refine th_callV (As := [aR (some (mN M1))]) (rest := []) vk_X5_include hS_3.l4 w414 ⟨by decide, by decide⟩ (Nat.le_of_ble_eq_true rfl) dX6_method_86 (c8 g1 g2 g3 g4 g5 g6 g8) ?_
                show T K_X6_method 89 [some (aR (some 3)), some (aI x1), some (aI x2), some (aI x3)] [aI x109] M4 fin
                have hS_4 : St M4 := St.sh (M := M3) (c8 g1 g2 g3 g4 g5 g6 g8).2.1 hS_3
                have hm_3_4 : Mt M4 (mN M1) := Mt.sh (M := M3) (c8 g1 g2 g3 g4 g5 g6 g8).2.1 hm_3
                exact th_iret rfl dX6_method_89 (k9 g1 g2 g3 g4 g5 g6 g8)
              ·
                refine th_iconst (u := (-1)) dX6_method_70 (by decide) ?_
                exact th_iret rfl dX6_method_71 (k10 g1 g2 g3 g4 g5 g6 g8)
            ·
              exact th_throw (Or.inl rfl) at8 w272 w76 w341 (by decide) (by decide) rfl dX6_method_50 dX6_method_53 dX6_method_54 dX6_method_56 dX6_method_59 (k11 g1 g2 g3 g4 g5 g6)
        ·
          exact th_throw (Or.inl rfl) at8 w272 w76 w340 (by decide) (by decide) rfl dX6_method_29 dX6_method_32 dX6_method_33 dX6_method_35 dX6_method_38 (k12 g1 g2 g3 g4)
    ·
      exact th_throw (Or.inl rfl) at8 w272 w76 w313 (by decide) (by decide) rfl dX6_method_10 dX6_method_13 dX6_method_14 dX6_method_16 dX6_method_19 (k13 g1 g2)
