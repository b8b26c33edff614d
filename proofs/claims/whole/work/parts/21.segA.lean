set_option maxRecDepth 20000 in
theorem s_X4_has_0 {M M' : AM} {v : Option AV} {m0 : Nat} {x1 : Int64} (hS : St M) (h_m0 : Mt M m0)
    (k1 : ∀ (g1 : x1 < 0), some (aI 0) = v ∧ M = M')
    (k2 : ∀ (g1 : ¬ (x1 < 0)) (g2 : ¬ (x1 < ((mI M m0 7 : Int32).toInt64))), some (aI 0) = v ∧ M = M')
    (k3 : ∀ (g1 : ¬ (x1 < 0)) (g2 : x1 < ((mI M m0 7 : Int32).toInt64)), some (aI 1) = v ∧ M = M') :
    Ev K_X4_has [aR (some m0), aJ x1] M v M' := by
  refine ⟨Nat.le_of_ble_eq_true rfl, ?_⟩
  show E K_X4_has 0 [some (aR (some m0)), some (aJ x1), none] [] M v M'
  refine e_lload_n dX4_has_0 rfl ?_
  refine e_lconst (u := 0) dX4_has_1 (by decide) ?_
  refine e_lcmp_lt (tgt := 20) dX4_has_2 dX4_has_3 rfl (fun g1 => ?_) (fun g1 => ?_)
  ·
    refine e_iconst (u := 0) dX4_has_20 (by decide) ?_
    exact e_zret rfl (Or.inl rfl) dX4_has_21 (k1 g1)
  ·
    refine e_lload_n dX4_has_6 rfl ?_
    refine e_aload_n dX4_has_7 rfl ?_
    refine e_get ff_4_7 h_m0.l0 w381 dX4_has_8 (w := aI (mI M m0 7)) rfl ?_
    refine e_i2l dX4_has_11 ?_
    refine e_lcmp_ge (tgt := 20) dX4_has_12 dX4_has_13 rfl (fun g2 => ?_) (fun g2 => ?_)
    ·
      refine e_iconst (u := 0) dX4_has_20 (by decide) ?_
      exact e_zret rfl (Or.inl rfl) dX4_has_21 (k2 g1 g2)
    ·
      refine e_iconst (u := 1) dX4_has_16 (by decide) ?_
      refine e_goto (tgt := 21) dX4_has_17 rfl ?_
      exact e_zret rfl (Or.inr rfl) dX4_has_21 (k3 g1 g2)

set_option maxRecDepth 20000 in
theorem s_X4_heightAt_0 {M M' : AM} {v : Option AV} {m0 : Nat} {x1 : Int32} {M1 : AM} {x101 : Int32} (hS : St M) (h_m0 : Mt M m0)
    (c1 : Ev K_X4_has [aR (some m0), aJ ((x1 : Int32).toInt64)] M (some (aI x101)) M1)
    (k2 : ∀ (g2 : x101 = 0), some (aI (-1)) = v ∧ M1 = M')
    (b3 : ∀ (g2 : ¬ x101 = 0), vp_in x1 120)
    (k4 : ∀ (g2 : ¬ x101 = 0), some (aI (mI M1 (m0 + 4) x1.toNatClampNeg)) = v ∧ M1 = M') :
    Ev K_X4_heightAt [aR (some m0), aI x1] M v M' := by
  refine ⟨Nat.le_of_ble_eq_true rfl, ?_⟩
  show E K_X4_heightAt 0 [some (aR (some m0)), some (aI x1)] [] M v M'
  refine e_aload_n dX4_heightAt_0 rfl ?_
  refine e_iload_n dX4_heightAt_1 rfl ?_
  refine e_i2l dX4_heightAt_2 ?_
  refine e_callV (As := [aJ ((x1 : Int32).toInt64)]) (rest := []) vk_X4_has h_m0.l0 w459 ⟨by decide, by decide⟩ (Nat.le_of_ble_eq_true rfl) dX4_heightAt_3 c1 ?_
  show E K_X4_heightAt 6 [some (aR (some m0)), some (aI x1)] [aI x101] M1 v M'
  have hS_1 : St M1 := St.sh (M := M) c1.2.1 hS
  have h_m0_1 : Mt M1 m0 := Mt.sh (M := M) c1.2.1 h_m0
  refine e_if_eq (tgt := 18) dX4_heightAt_6 rfl (fun g2 => ?_) (fun g2 => ?_)
  ·
    refine e_iconst (u := (-1)) dX4_heightAt_18 (by decide) ?_
    exact e_iret rfl dX4_heightAt_19 (k2 g2)
  ·
    refine e_aload_n dX4_heightAt_9 rfl ?_
    refine e_get ff_4_6 h_m0_1.l0 w378 dX4_heightAt_10 (w := aR (some (m0 + 4))) h_m0_1.f6 ?_
    refine e_iload_n dX4_heightAt_13 rfl ?_
    refine e_iald h_m0_1.l4 (h_m0_1.b4 (b3 g2)) dX4_heightAt_14 ?_
    refine e_goto (tgt := 19) dX4_heightAt_15 rfl ?_
    exact e_iret rfl dX4_heightAt_19 (k4 g2)

set_option maxRecDepth 20000 in
theorem s_X4_isMet_0 {M M' : AM} {v : Option AV} {m0 : Nat} {x1 : Int32} {M1 : AM} {x101 : Int32} (hS : St M) (h_m0 : Mt M m0)
    (c1 : Ev K_X4_heightAt [aR (some m0), aI x1] M (some (aI x101)) M1)
    (k2 : ∀ (g2 : x101 = (-1)), some (aI 0) = v ∧ M1 = M')
    (k3 : ∀ (g2 : ¬ x101 = (-1)), some (aI 1) = v ∧ M1 = M') :
    Ev K_X4_isMet [aR (some m0), aI x1] M v M' := by
  refine ⟨Nat.le_of_ble_eq_true rfl, ?_⟩
  show E K_X4_isMet 0 [some (aR (some m0)), some (aI x1)] [] M v M'
  refine e_aload_n dX4_isMet_0 rfl ?_
  refine e_iload_n dX4_isMet_1 rfl ?_
  refine e_callV (As := [aI x1]) (rest := []) vk_X4_heightAt h_m0.l0 w606 ⟨by decide, by decide⟩ (Nat.le_of_ble_eq_true rfl) dX4_isMet_2 c1 ?_
  show E K_X4_isMet 5 [some (aR (some m0)), some (aI x1)] [aI x101] M1 v M'
  have hS_1 : St M1 := St.sh (M := M) c1.2.1 hS
  have h_m0_1 : Mt M1 m0 := Mt.sh (M := M) c1.2.1 h_m0
  refine e_iconst (u := (-1)) dX4_isMet_5 (by decide) ?_
  refine e_icmp_eq (tgt := 13) dX4_isMet_6 rfl (fun g2 => ?_) (fun g2 => ?_)
  ·
    refine e_iconst (u := 0) dX4_isMet_13 (by decide) ?_
    exact e_zret rfl (Or.inl rfl) dX4_isMet_14 (k2 g2)
  ·
    refine e_iconst (u := 1) dX4_isMet_9 (by decide) ?_
    refine e_goto (tgt := 14) dX4_isMet_10 rfl ?_
    exact e_zret rfl (Or.inr rfl) dX4_isMet_14 (k3 g2)

set_option maxRecDepth 20000 in
theorem s_X4_isSound_0 {M M' : AM} {v : Option AV} {m0 : Nat} (hS : St M) (h_m0 : Mt M m0)
    (k1 : ∀ (g1 : ¬ (mI M m0 8) = 0), some (aI 0) = v ∧ M = M')
    (k2 : ∀ (g1 : (mI M m0 8) = 0), some (aI 1) = v ∧ M = M') :
    Ev K_X4_isSound [aR (some m0)] M v M' := by
  refine ⟨Nat.le_of_ble_eq_true rfl, ?_⟩
  show E K_X4_isSound 0 [some (aR (some m0))] [] M v M'
  refine e_aload_n dX4_isSound_0 rfl ?_
  refine e_get ff_4_8 h_m0.l0 w385 dX4_isSound_1 (w := aI (mI M m0 8)) rfl ?_
  refine e_if_ne (tgt := 11) dX4_isSound_4 rfl (fun g1 => ?_) (fun g1 => ?_)
  ·
    refine e_iconst (u := 0) dX4_isSound_11 (by decide) ?_
    exact e_zret rfl (Or.inl rfl) dX4_isSound_12 (k1 g1)
  ·
    refine e_iconst (u := 1) dX4_isSound_7 (by decide) ?_
    refine e_goto (tgt := 12) dX4_isSound_8 rfl ?_
    exact e_zret rfl (Or.inr rfl) dX4_isSound_12 (k2 g1)

set_option maxRecDepth 20000 in
theorem s_X4_append_0 {M M' : AM} {v : Option AV} {m0 : Nat} {x1 : Int32} {x2 : Int64} {M1 : AM} {x102 : Int32} (hS : St M) (h_m0 : Mt M m0)
    (c1 : ∀ (g1 : (mI M m0 7) < 120), Ev K_X4_replace [aR (some m0), aI (mI M m0 7), aI x1, aJ x2] (wrI M m0 7 ((mI M m0 7) + 1)) (some (aI x102)) M1)
    (k2 : ∀ (g1 : (mI M m0 7) < 120), some (aI (mI M m0 7)) = v ∧ M1 = M')
    (k3 : ∀ (g1 : ¬ ((mI M m0 7) < 120)), some (aI (-1)) = v ∧ M = M') :
    Ev K_X4_append [aR (some m0), aI x1, aJ x2] M v M' := by
  refine ⟨Nat.le_of_ble_eq_true rfl, ?_⟩
  show E K_X4_append 0 [some (aR (some m0)), some (aI x1), some (aJ x2), none, none] [] M v M'
  refine e_aload_n dX4_append_0 rfl ?_
  refine e_get ff_4_7 h_m0.l0 w381 dX4_append_1 (w := aI (mI M m0 7)) rfl ?_
  refine e_aload_n dX4_append_4 rfl ?_
  refine e_get ff_4_3 h_m0.l0 w364 dX4_append_5 (w := aR (some (m0 + 1))) h_m0.f3 ?_
  refine e_lenIv h_m0.l1 h_m0.n1 dX4_append_8 ?_
  show E K_X4_append 9 [some (aR (some m0)), some (aI x1), some (aJ x2), none, none] [aI 120, aI (mI M m0 7)] M v M'
  refine e_icmp_lt (tgt := 14) dX4_append_9 rfl (fun g1 => ?_) (fun g1 => ?_)
  ·
    refine e_aload_n dX4_append_14 rfl ?_
    refine e_get ff_4_7 h_m0.l0 w381 dX4_append_15 (w := aI (mI M m0 7)) rfl ?_
    refine e_istore dX4_append_18 (Nat.le_of_ble_eq_true rfl) ?_
    show E K_X4_append 20 [some (aR (some m0)), some (aI x1), some (aJ x2), none, some (aI (mI M m0 7))] [] M v M'
    refine e_aload_n dX4_append_20 rfl ?_
    refine e_dupR dX4_append_21 ?_
    refine e_get ff_4_7 h_m0.l0 w381 dX4_append_22 (w := aI (mI M m0 7)) rfl ?_
    refine e_iconst (u := 1) dX4_append_25 (by decide) ?_
    refine e_iadd dX4_append_26 ?_
    refine e_putI ff_4_7 rfl h_m0.l0 w381 dX4_append_27 ?_
    refine e_aload_n dX4_append_30 rfl ?_
    refine e_iload dX4_append_31 rfl ?_
    refine e_iload_n dX4_append_33 rfl ?_
    refine e_lload_n dX4_append_34 rfl ?_
    refine e_callV (As := [aI (mI M m0 7), aI x1, aJ x2]) (rest := []) vk_X4_replace h_m0.l0 w455 ⟨by decide, by decide⟩ (Nat.le_of_ble_eq_true rfl) dX4_append_35 (c1 g1) ?_
    show E K_X4_append 38 [some (aR (some m0)), some (aI x1), some (aJ x2), none, some (aI (mI M m0 7))] [aI x102] M1 v M'
    have hS_1 : St M1 := St.sh (M := (wrI M m0 7 ((mI M m0 7) + 1))) (c1 g1).2.1 hS
    have h_m0_1 : Mt M1 m0 := Mt.sh (M := (wrI M m0 7 ((mI M m0 7) + 1))) (c1 g1).2.1 h_m0
    refine e_popI dX4_append_38 ?_
    refine e_iload dX4_append_39 rfl ?_
    exact e_iret rfl dX4_append_41 (k2 g1)
  ·
    refine e_iconst (u := (-1)) dX4_append_12 (by decide) ?_
    exact e_iret rfl dX4_append_13 (k3 g1)

set_option maxRecDepth 20000 in
theorem s_X4_replace_0 {M M' : AM} {v : Option AV} {m0 : Nat} {x1 : Int32} {x2 : Int32} {x3 : Int64} {M1 : AM} {x101 : Int32} (hS : St M) (h_m0 : Mt M m0)
    (c1 : Ev K_X4_has [aR (some m0), aJ ((x1 : Int32).toInt64)] M (some (aI x101)) M1)
    (b2 : ∀ (g2 : ¬ x101 = 0), vp_in x1 120)
    (k3 : ∀ (g2 : ¬ x101 = 0), some (aI (mI M1 (m0 + 1) x1.toNatClampNeg)) = v ∧ (wrI (wrJ (wrI M1 (m0 + 1) x1.toNatClampNeg x2) (m0 + 2) x1.toNatClampNeg x3) m0 10 0) = M')
    (k4 : ∀ (g2 : x101 = 0), some (aI (-1)) = v ∧ M1 = M') :
    Ev K_X4_replace [aR (some m0), aI x1, aI x2, aJ x3] M v M' := by
  refine ⟨Nat.le_of_ble_eq_true rfl, ?_⟩
  show E K_X4_replace 0 [some (aR (some m0)), some (aI x1), some (aI x2), some (aJ x3), none, none] [] M v M'
  refine e_aload_n dX4_replace_0 rfl ?_
  refine e_iload_n dX4_replace_1 rfl ?_
  refine e_i2l dX4_replace_2 ?_
  refine e_callV (As := [aJ ((x1 : Int32).toInt64)]) (rest := []) vk_X4_has h_m0.l0 w459 ⟨by decide, by decide⟩ (Nat.le_of_ble_eq_true rfl) dX4_replace_3 c1 ?_
  show E K_X4_replace 6 [some (aR (some m0)), some (aI x1), some (aI x2), some (aJ x3), none, none] [aI x101] M1 v M'
  have hS_1 : St M1 := St.sh (M := M) c1.2.1 hS
  have h_m0_1 : Mt M1 m0 := Mt.sh (M := M) c1.2.1 h_m0
  refine e_if_ne (tgt := 11) dX4_replace_6 rfl (fun g2 => ?_) (fun g2 => ?_)
  ·
    refine e_aload_n dX4_replace_11 rfl ?_
    refine e_get ff_4_3 h_m0_1.l0 w364 dX4_replace_12 (w := aR (some (m0 + 1))) h_m0_1.f3 ?_
    refine e_iload_n dX4_replace_15 rfl ?_
    refine e_iald h_m0_1.l1 (h_m0_1.b1 (b2 g2)) dX4_replace_16 ?_
    refine e_istore dX4_replace_17 (Nat.le_of_ble_eq_true rfl) ?_
    show E K_X4_replace 19 [some (aR (some m0)), some (aI x1), some (aI x2), some (aJ x3), none, some (aI (mI M1 (m0 + 1) x1.toNatClampNeg))] [] M1 v M'
    refine e_aload_n dX4_replace_19 rfl ?_
    refine e_get ff_4_3 h_m0_1.l0 w364 dX4_replace_20 (w := aR (some (m0 + 1))) h_m0_1.f3 ?_
    refine e_iload_n dX4_replace_23 rfl ?_
    refine e_iload_n dX4_replace_24 rfl ?_
    refine e_iast h_m0_1.l1 (h_m0_1.b1 (b2 g2)) dX4_replace_25 ?_
    refine e_aload_n dX4_replace_26 rfl ?_
    refine e_get ff_4_4 h_m0_1.l0 w369 dX4_replace_27 (w := aR (some (m0 + 2))) h_m0_1.f4 ?_
    refine e_iload_n dX4_replace_30 rfl ?_
    refine e_lload_n dX4_replace_31 rfl ?_
    refine e_last h_m0_1.l2 (h_m0_1.b2 (b2 g2)) dX4_replace_32 ?_
    refine e_aload_n dX4_replace_33 rfl ?_
    refine e_iconst (u := 0) dX4_replace_34 (by decide) ?_
    refine e_putI ff_4_10 rfl h_m0_1.l0 w389 dX4_replace_35 ?_
    refine e_iload dX4_replace_38 rfl ?_
    exact e_iret rfl dX4_replace_40 (k3 g2)
  ·
    refine e_iconst (u := (-1)) dX4_replace_9 (by decide) ?_
    exact e_iret rfl dX4_replace_10 (k4 g2)

set_option maxRecDepth 20000 in
theorem s_X4_fail_0 {M M' : AM} {v : Option AV} {m0 : Nat} {x1 : Int32} {x2 : Int32} (hS : St M) (h_m0 : Mt M m0)
    (k1 : none = v ∧ (wrI (wrI M m0 8 x1) m0 9 x2) = M') :
    Ev K_X4_fail [aR (some m0), aI x1, aI x2] M v M' := by
  refine ⟨Nat.le_of_ble_eq_true rfl, ?_⟩
  show E K_X4_fail 0 [some (aR (some m0)), some (aI x1), some (aI x2)] [] M v M'
  refine e_aload_n dX4_fail_0 rfl ?_
  refine e_iload_n dX4_fail_1 rfl ?_
  refine e_putI ff_4_8 rfl h_m0.l0 w385 dX4_fail_2 ?_
  refine e_aload_n dX4_fail_5 rfl ?_
  refine e_iload_n dX4_fail_6 rfl ?_
  refine e_putI ff_4_9 rfl h_m0.l0 w387 dX4_fail_7 ?_
  exact e_vret rfl dX4_fail_10 k1

set_option maxRecDepth 20000 in
theorem s_X4_answer_0 {M M' : AM} {v : Option AV} {m0 : Nat} {x1 : Int32} (hS : St M) (h_m0 : Mt M m0)
    (k1 : ∀ (g1 : x1 = 0), some (aI (mI M m0 0)) = v ∧ M = M')
    (k2 : ∀ (g1 : ¬ (x1 = 0)) (g2 : x1 = 1), some (aI (mI M m0 1)) = v ∧ M = M')
    (k3 : ∀ (g1 : ¬ (x1 = 0)) (g2 : ¬ (x1 = 1)) (g3 : x1 = 2), some (aI (mI M m0 2)) = v ∧ M = M')
    (k4 : ∀ (g1 : ¬ (x1 = 0)) (g2 : ¬ (x1 = 1)) (g3 : ¬ (x1 = 2)), some (aI (mI M m0 7)) = v ∧ M = M') :
    Ev K_X4_answer [aR (some m0), aI x1] M v M' := by
  refine ⟨Nat.le_of_ble_eq_true rfl, ?_⟩
  show E K_X4_answer 0 [some (aR (some m0)), some (aI x1)] [] M v M'
  refine e_iload_n dX4_answer_0 rfl ?_
  refine e_tsw (d := 43) (tg := [28, 33, 38]) dX4_answer_1 rfl rfl rfl ?_
  by_cases g1 : x1 = 0
  · have e9 : tsw 0 [28, 33, 38] 43 x1 = 28 := by rw [g1]; rfl
    rw [e9]
    refine e_aload_n dX4_answer_28 rfl ?_
    refine e_get ff_4_0 h_m0.l0 w352 dX4_answer_29 (w := aI (mI M m0 0)) rfl ?_
    exact e_iret rfl dX4_answer_32 (k1 g1)
  by_cases g2 : x1 = 1
  · have e9 : tsw 0 [28, 33, 38] 43 x1 = 33 := by rw [g2]; rfl
    rw [e9]
    refine e_aload_n dX4_answer_33 rfl ?_
    refine e_get ff_4_1 h_m0.l0 w357 dX4_answer_34 (w := aI (mI M m0 1)) rfl ?_
    exact e_iret rfl dX4_answer_37 (k2 g1 g2)
  by_cases g3 : x1 = 2
  · have e9 : tsw 0 [28, 33, 38] 43 x1 = 38 := by rw [g3]; rfl
    rw [e9]
    refine e_aload_n dX4_answer_38 rfl ?_
    refine e_get ff_4_2 h_m0.l0 w360 dX4_answer_39 (w := aI (mI M m0 2)) rfl ?_
    exact e_iret rfl dX4_answer_42 (k3 g1 g2 g3)
  have e9 : tsw 0 [28, 33, 38] 43 x1 = 43 := tsw_out [0, 1, 2] (by decide) (by
      simp only [List.mem_cons, List.not_mem_nil, or_false, forall_eq_or_imp, forall_eq]
      skip
      exact ⟨g1, g2, g3⟩)
  rw [e9]
  refine e_aload_n dX4_answer_43 rfl ?_
  refine e_get ff_4_7 h_m0.l0 w381 dX4_answer_44 (w := aI (mI M m0 7)) rfl ?_
  exact e_iret rfl dX4_answer_47 (k4 g1 g2 g3)

set_option maxRecDepth 20000 in
theorem s_X5_isFull_0 {M M' : AM} {v : Option AV} (hS : St M)
    (k1 : ∀ (g1 : (mI M 4 2) < 32), some (aI 0) = v ∧ M = M')
    (k2 : ∀ (g1 : ¬ ((mI M 4 2) < 32)), some (aI 1) = v ∧ M = M') :
    Ev K_X5_isFull [aR (some 4)] M v M' := by
  refine ⟨Nat.le_of_ble_eq_true rfl, ?_⟩
  show E K_X5_isFull 0 [some (aR (some 4))] [] M v M'
  refine e_aload_n dX5_isFull_0 rfl ?_
  refine e_get ff_5_2 hS.l4 w102 dX5_isFull_1 (w := aI (mI M 4 2)) rfl ?_
  refine e_aload_n dX5_isFull_4 rfl ?_
  refine e_get ff_5_0 hS.l4 w100 dX5_isFull_5 (w := aR (some 5)) hS.f4_0 ?_
  refine e_lenQv hS.l5 hS.n5 dX5_isFull_8 ?_
  show E K_X5_isFull 9 [some (aR (some 4))] [aI 32, aI (mI M 4 2)] M v M'
  refine e_icmp_lt (tgt := 16) dX5_isFull_9 rfl (fun g1 => ?_) (fun g1 => ?_)
  ·
    refine e_iconst (u := 0) dX5_isFull_16 (by decide) ?_
    exact e_zret rfl (Or.inl rfl) dX5_isFull_17 (k1 g1)
  ·
    refine e_iconst (u := 1) dX5_isFull_12 (by decide) ?_
    refine e_goto (tgt := 17) dX5_isFull_13 rfl ?_
    exact e_zret rfl (Or.inr rfl) dX5_isFull_17 (k2 g1)

set_option maxRecDepth 20000 in
theorem s_X5_include_0 {M M' : AM} {v : Option AV} {m1 : Nat} {M1 : AM} {x101 : Int32} (hS : St M) (h_m1 : Mt M m1)
    (c1 : Ev K_X5_isFull [aR (some 4)] M (some (aI x101)) M1)
    (b2 : ∀ (g2 : x101 = 0), vp_in (mI M1 4 2) 32)
    (k3 : ∀ (g2 : x101 = 0), some (aI (((mI M1 4 2) + 1) - 1)) = v ∧ (wrI (wrR M1 5 (mI M1 4 2).toNatClampNeg (some m1)) 4 2 ((mI M1 4 2) + 1)) = M')
    (k4 : ∀ (g2 : ¬ x101 = 0), some (aI (-1)) = v ∧ M1 = M') :
    Ev K_X5_include [aR (some 4), aR (some m1)] M v M' := by
  refine ⟨Nat.le_of_ble_eq_true rfl, ?_⟩
  show E K_X5_include 0 [some (aR (some 4)), some (aR (some m1))] [] M v M'
  refine e_aload_n dX5_include_0 rfl ?_
  refine e_callV (As := []) (rest := []) vk_X5_isFull hS.l4 w418 ⟨by decide, by decide⟩ (Nat.le_of_ble_eq_true rfl) dX5_include_1 c1 ?_
  show E K_X5_include 4 [some (aR (some 4)), some (aR (some m1))] [aI x101] M1 v M'
  have hS_1 : St M1 := St.sh (M := M) c1.2.1 hS
  have h_m1_1 : Mt M1 m1 := Mt.sh (M := M) c1.2.1 h_m1
  refine e_if_eq (tgt := 9) dX5_include_4 rfl (fun g2 => ?_) (fun g2 => ?_)
  ·
    refine e_aload_n dX5_include_9 rfl ?_
    refine e_get ff_5_0 hS_1.l4 w100 dX5_include_10 (w := aR (some 5)) hS_1.f4_0 ?_
    refine e_aload_n dX5_include_13 rfl ?_
    refine e_get ff_5_2 hS_1.l4 w102 dX5_include_14 (w := aI (mI M1 4 2)) rfl ?_
    refine e_aload_n dX5_include_17 rfl ?_
    refine e_aast hS_1.l5 h_m1_1.l0 (hS_1.b5 (b2 g2)) dX5_include_18 ?_
    have hS_2 : St (wrR M1 5 (mI M1 4 2).toNatClampNeg (some m1)) := hS_1.sh (Sh.wR hS_1.l5.2.2)
    have h_m1_1_2 : Mt (wrR M1 5 (mI M1 4 2).toNatClampNeg (some m1)) m1 := h_m1_1.sh (Sh.wR hS_1.l5.2.2)
    refine e_aload_n dX5_include_19 rfl ?_
    refine e_dupR dX5_include_20 ?_
    refine e_get ff_5_2 hS_2.l4 w102 dX5_include_21 (w := aI (mI M1 4 2)) rfl ?_
    refine e_iconst (u := 1) dX5_include_24 (by decide) ?_
    refine e_iadd dX5_include_25 ?_
    refine e_putI ff_5_2 rfl hS_2.l4 w102 dX5_include_26 ?_
    refine e_aload_n dX5_include_29 rfl ?_
    refine e_get ff_5_2 hS_2.l4 w102 dX5_include_30 (w := aI ((mI M1 4 2) + 1)) rfl ?_
    refine e_iconst (u := 1) dX5_include_33 (by decide) ?_
    refine e_isub dX5_include_34 ?_
    exact e_iret rfl dX5_include_35 (k3 g2)
  ·
    refine e_iconst (u := (-1)) dX5_include_7 (by decide) ?_
    exact e_iret rfl dX5_include_8 (k4 g2)

set_option maxRecDepth 20000 in
theorem s_X5_find_0 {M M' : AM} {v : Option AV} {x1 : Int64} {o103 : Option Nat} (hS : St M)
    (k1 : ∀ (g1 : x1 < 0), some (aR none) = v ∧ M = M')
    (k2 : ∀ (g1 : ¬ (x1 < 0)) (g2 : ¬ (x1 < ((mI M 4 2 : Int32).toInt64))), some (aR none) = v ∧ M = M')
    (b3 : ∀ (g1 : ¬ (x1 < 0)) (g2 : x1 < ((mI M 4 2 : Int32).toInt64)), vp_in ((x1 : Int64).toInt32) 32)
    (q4 : ∀ (g1 : ¬ (x1 < 0)) (g2 : x1 < ((mI M 4 2 : Int32).toInt64)), mR M 5 ((x1 : Int64).toInt32).toNatClampNeg = o103)
    (k5 : ∀ (g1 : ¬ (x1 < 0)) (g2 : x1 < ((mI M 4 2 : Int32).toInt64)), some (aR o103) = v ∧ M = M') :
    Ev K_X5_find [aR (some 4), aJ x1] M v M' := by
  refine ⟨Nat.le_of_ble_eq_true rfl, ?_⟩
  show E K_X5_find 0 [some (aR (some 4)), some (aJ x1), none] [] M v M'
  refine e_lload_n dX5_find_0 rfl ?_
  refine e_lconst (u := 0) dX5_find_1 (by decide) ?_
  refine e_lcmp_lt (tgt := 26) dX5_find_2 dX5_find_3 rfl (fun g1 => ?_) (fun g1 => ?_)
  ·
    refine e_null dX5_find_26 ?_
    exact e_aret rfl dX5_find_27 (k1 g1)
  ·
    refine e_lload_n dX5_find_6 rfl ?_
    refine e_aload_n dX5_find_7 rfl ?_
    refine e_get ff_5_2 hS.l4 w102 dX5_find_8 (w := aI (mI M 4 2)) rfl ?_
    refine e_i2l dX5_find_11 ?_
    refine e_lcmp_ge (tgt := 26) dX5_find_12 dX5_find_13 rfl (fun g2 => ?_) (fun g2 => ?_)
    ·
      refine e_null dX5_find_26 ?_
      exact e_aret rfl dX5_find_27 (k2 g1 g2)
    ·
      refine e_aload_n dX5_find_16 rfl ?_
      refine e_get ff_5_0 hS.l4 w100 dX5_find_17 (w := aR (some 5)) hS.f4_0 ?_
      refine e_lload_n dX5_find_20 rfl ?_
      refine e_l2i dX5_find_21 ?_
      refine e_aaldv (w := o103) hS.l5 (hS.b5 (b3 g1 g2)) dX5_find_22 (q4 g1 g2) ?_
      refine e_goto (tgt := 27) dX5_find_23 rfl ?_
      exact e_aret rfl dX5_find_27 (k5 g1 g2)

set_option maxRecDepth 20000 in
theorem s_X5_costOf_0 {M M' : AM} {v : Option AV} {x1 : Int32} {M1 : AM} {x101 : Int32} (hS : St M)
    (c1 : Ev K_X6_isOperation [aI x1] M (some (aI x101)) M1)
    (k2 : ∀ (g2 : x101 = 0), some (aI 0) = v ∧ M1 = M')
    (b3 : ∀ (g2 : ¬ x101 = 0), vp_in x1 18)
    (k4 : ∀ (g2 : ¬ x101 = 0), some (aI (mI M1 6 x1.toNatClampNeg)) = v ∧ M1 = M') :
    Ev K_X5_costOf [aR (some 4), aI x1] M v M' := by
  refine ⟨Nat.le_of_ble_eq_true rfl, ?_⟩
  show E K_X5_costOf 0 [some (aR (some 4)), some (aI x1)] [] M v M'
  refine e_iload_n dX5_costOf_0 rfl ?_
  refine e_callSN (As := [aI x1]) (rest := []) sk_X6_isOperation w498 ⟨by decide, by decide⟩ (Nat.le_of_ble_eq_true rfl) dX5_costOf_1 c1 ?_
  show E K_X5_costOf 4 [some (aR (some 4)), some (aI x1)] [aI x101] M1 v M'
  have hS_1 : St M1 := St.sh (M := M) c1.2.1 hS
  refine e_if_eq (tgt := 16) dX5_costOf_4 rfl (fun g2 => ?_) (fun g2 => ?_)
  ·
    refine e_iconst (u := 0) dX5_costOf_16 (by decide) ?_
    exact e_iret rfl dX5_costOf_17 (k2 g2)
  ·
    refine e_aload_n dX5_costOf_7 rfl ?_
    refine e_get ff_5_1 hS_1.l4 w101 dX5_costOf_8 (w := aR (some 6)) hS_1.f4_1 ?_
    refine e_iload_n dX5_costOf_11 rfl ?_
    refine e_iald hS_1.l6 (hS_1.b6 (b3 g2)) dX5_costOf_12 ?_
    refine e_goto (tgt := 17) dX5_costOf_13 rfl ?_
    exact e_iret rfl dX5_costOf_17 (k4 g2)

set_option maxRecDepth 20000 in
theorem s_X5_price_0 {M M' : AM} {v : Option AV} {x1 : Int32} {x2 : Int32} {M1 : AM} {x101 : Int32} {M2 : AM} {x102 : Int32} (hS : St M)
    (c1 : Ev K_X5_costOf [aR (some 4), aI x1] M (some (aI x101)) M1)
    (c2 : Ev K_X6_isOperation [aI x1] M1 (some (aI x102)) M2)
    (k3 : ∀ (g3 : x102 = 0), some (aI x101) = v ∧ M2 = M')
    (b4 : ∀ (g3 : ¬ x102 = 0), vp_in x1 18)
    (k5 : ∀ (g3 : ¬ x102 = 0), some (aI x101) = v ∧ (wrI M2 6 x1.toNatClampNeg x2) = M') :
    Ev K_X5_price [aR (some 4), aI x1, aI x2] M v M' := by
  refine ⟨Nat.le_of_ble_eq_true rfl, ?_⟩
  show E K_X5_price 0 [some (aR (some 4)), some (aI x1), some (aI x2), none] [] M v M'
  refine e_aload_n dX5_price_0 rfl ?_
  refine e_iload_n dX5_price_1 rfl ?_
  refine e_callV (As := [aI x1]) (rest := []) vk_X5_costOf hS.l4 w494 ⟨by decide, by decide⟩ (Nat.le_of_ble_eq_true rfl) dX5_price_2 c1 ?_
  show E K_X5_price 5 [some (aR (some 4)), some (aI x1), some (aI x2), none] [aI x101] M1 v M'
  have hS_1 : St M1 := St.sh (M := M) c1.2.1 hS
  refine e_istore_n dX5_price_5 (Nat.le_of_ble_eq_true rfl) ?_
  show E K_X5_price 6 [some (aR (some 4)), some (aI x1), some (aI x2), some (aI x101)] [] M1 v M'
  refine e_iload_n dX5_price_6 rfl ?_
  refine e_callSN (As := [aI x1]) (rest := []) sk_X6_isOperation w498 ⟨by decide, by decide⟩ (Nat.le_of_ble_eq_true rfl) dX5_price_7 c2 ?_
  show E K_X5_price 10 [some (aR (some 4)), some (aI x1), some (aI x2), some (aI x101)] [aI x102] M2 v M'
  have hS_2 : St M2 := St.sh (M := M1) c2.2.1 hS_1
  refine e_if_eq (tgt := 20) dX5_price_10 rfl (fun g3 => ?_) (fun g3 => ?_)
  ·
    refine e_iload_n dX5_price_20 rfl ?_
    exact e_iret rfl dX5_price_21 (k3 g3)
  ·
    refine e_aload_n dX5_price_13 rfl ?_
    refine e_get ff_5_1 hS_2.l4 w101 dX5_price_14 (w := aR (some 6)) hS_2.f4_1 ?_
    refine e_iload_n dX5_price_17 rfl ?_
    refine e_iload_n dX5_price_18 rfl ?_
    refine e_iast hS_2.l6 (hS_2.b6 (b4 g3)) dX5_price_19 ?_
    refine e_iload_n dX5_price_20 rfl ?_
    exact e_iret rfl dX5_price_21 (k5 g3)

set_option maxRecDepth 20000 in
theorem s_X6_place_0 {M M' : AM} {v : Option AV} (hS : St M)
    (k1 : some (aI (mI M 3 6)) = v ∧ M = M') :
    Ev K_X6_place [aR (some 3)] M v M' := by
  refine ⟨Nat.le_of_ble_eq_true rfl, ?_⟩
  show E K_X6_place 0 [some (aR (some 3))] [] M v M'
  refine e_aload_n dX6_place_0 rfl ?_
  refine e_get ff_6_6 hS.l3 w244 dX6_place_1 (w := aI (mI M 3 6)) rfl ?_
  exact e_iret rfl dX6_place_4 k1

set_option maxRecDepth 20000 in
theorem s_X6_isOperation_0 {M M' : AM} {v : Option AV} {x0 : Int32} (hS : St M)
    (k1 : ∀ (g1 : x0 < 0), some (aI 0) = v ∧ M = M')
    (k2 : ∀ (g1 : ¬ (x0 < 0)) (g2 : 18 ≤ x0), some (aI 0) = v ∧ M = M')
    (k3 : ∀ (g1 : ¬ (x0 < 0)) (g2 : ¬ (18 ≤ x0)), some (aI 1) = v ∧ M = M') :
    Ev K_X6_isOperation [aI x0] M v M' := by
  refine ⟨Nat.le_of_ble_eq_true rfl, ?_⟩
  show E K_X6_isOperation 0 [some (aI x0)] [] M v M'
  refine e_iload_n dX6_isOperation_0 rfl ?_
  refine e_if_lt (tgt := 14) dX6_isOperation_1 rfl (fun g1 => ?_) (fun g1 => ?_)
  ·
    refine e_iconst (u := 0) dX6_isOperation_14 (by decide) ?_
    exact e_zret rfl (Or.inl rfl) dX6_isOperation_15 (k1 g1)
  ·
    refine e_iload_n dX6_isOperation_4 rfl ?_
    refine e_bipush (u := 18) dX6_isOperation_5 (by decide) ?_
    refine e_icmp_ge (tgt := 14) dX6_isOperation_7 rfl (fun g2 => ?_) (fun g2 => ?_)
    ·
      refine e_iconst (u := 0) dX6_isOperation_14 (by decide) ?_
      exact e_zret rfl (Or.inl rfl) dX6_isOperation_15 (k2 g1 g2)
    ·
      refine e_iconst (u := 1) dX6_isOperation_10 (by decide) ?_
      refine e_goto (tgt := 15) dX6_isOperation_11 rfl ?_
      exact e_zret rfl (Or.inr rfl) dX6_isOperation_15 (k3 g1 g2)

set_option maxRecDepth 20000 in
theorem s_J7_fill_53178_0 {M M' : AM} {v : Option AV} {a0 : Nat} {x1 : Int32}  (h_a0 : Lv M a0 11)
    (k1 : E K_J7_fill_53178 5 [some (aR (some a0)), some (aI x1), some (aI 0), some (aI (Int32.ofNat (mS M a0).2))] [] M v M') :
    Ev K_J7_fill_53178 [aR (some a0), aI x1] M v M' := by
  refine ⟨Nat.le_of_ble_eq_true rfl, ?_⟩
  show E K_J7_fill_53178 0 [some (aR (some a0)), some (aI x1), none, none] [] M v M'
  refine e_iconst (u := 0) dJ7_fill_53178_0 (by decide) ?_
  refine e_istore_n dJ7_fill_53178_1 (Nat.le_of_ble_eq_true rfl) ?_
  show E K_J7_fill_53178 2 [some (aR (some a0)), some (aI x1), some (aI 0), none] [] M v M'
  refine e_aload_n dJ7_fill_53178_2 rfl ?_
  refine e_lenI h_a0 dJ7_fill_53178_3 ?_
  show E K_J7_fill_53178 4 [some (aR (some a0)), some (aI x1), some (aI 0), none] [aI (Int32.ofNat (mS M a0).2)] M v M'
  refine e_istore_n dJ7_fill_53178_4 (Nat.le_of_ble_eq_true rfl) ?_
  show E K_J7_fill_53178 5 [some (aR (some a0)), some (aI x1), some (aI 0), some (aI (Int32.ofNat (mS M a0).2))] [] M v M'
  exact k1

set_option maxRecDepth 20000 in
theorem s_J7_fill_53178_5 {M M' : AM} {v : Option AV} {a0 : Nat} {x1 : Int32} {x2 : Int32} {x3 : Int32}  (h_a0 : Lv M a0 11)
    (k1 : ∀ (g1 : x3 ≤ x2), none = v ∧ M = M')
    (b2 : ∀ (g1 : ¬ (x3 ≤ x2)), vp_in x2 (mS M a0).2)
    (k3 : ∀ (g1 : ¬ (x3 ≤ x2)), E K_J7_fill_53178 5 [some (aR (some a0)), some (aI x1), some (aI (x2 + 1)), some (aI x3)] [] (wrI M a0 x2.toNatClampNeg x1) v M') :
    E K_J7_fill_53178 5 [some (aR (some a0)), some (aI x1), some (aI x2), some (aI x3)] [] M v M' := by
  refine e_iload_n dJ7_fill_53178_5 rfl ?_
  refine e_iload_n dJ7_fill_53178_6 rfl ?_
  refine e_icmp_ge (tgt := 20) dJ7_fill_53178_7 rfl (fun g1 => ?_) (fun g1 => ?_)
  ·
    exact e_vret rfl dJ7_fill_53178_20 (k1 g1)
  ·
    refine e_aload_n dJ7_fill_53178_10 rfl ?_
    refine e_iload_n dJ7_fill_53178_11 rfl ?_
    refine e_iload_n dJ7_fill_53178_12 rfl ?_
    refine e_iast h_a0 (b2 g1) dJ7_fill_53178_13 ?_
    refine e_iinc dJ7_fill_53178_14 rfl ?_
    show E K_J7_fill_53178 17 [some (aR (some a0)), some (aI x1), some (aI (x2 + 1)), some (aI x3)] [] (wrI M a0 x2.toNatClampNeg x1) v M'
    refine e_goto (tgt := 5) dJ7_fill_53178_17 rfl ?_
    exact (k3 g1)
