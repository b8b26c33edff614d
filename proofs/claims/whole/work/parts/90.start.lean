/-! ===== PURE: the law's start, and the law ===== -/
def flM (M : AM) (a : Nat) (x : Int32) : Nat → AM
  | 0 => M
  | k + 1 => wrI (flM M a x k) a k x
def flJ (M : AM) (a : Nat) (x : Int64) : Nat → AM
  | 0 => M
  | k + 1 => wrJ (flJ M a x k) a k x
theorem flM_ag {M : AM} {a : Nat} {x : Int32} : ∀ k, Ag (fun _ _ => True) M (flM M a x k)
  | 0 => Ag.rf
  | k + 1 => (flM_ag k).wI trivial
theorem flJ_ag {M : AM} {a : Nat} {x : Int64} : ∀ k, Ag (fun _ _ => True) M (flJ M a x k)
  | 0 => Ag.rf
  | k + 1 => (flJ_ag k).wJ trivial
theorem v_fillM {a N : Nat} {x : Int32} {M : AM} (ha : Lv M a 11) (hN : (mS M a).2 = N) (hN2 : N < 2 ^ 31) : Ev K_J7_fill_53178 [aR (some a), aI x] M none (flM M a x N) := by
  have key : ∀ (f k : Nat), N - k = f → k ≤ N → E K_J7_fill_53178 5 [some (aR (some a)), some (aI x), some (aI (nI k)), some (aI (nI N))] [] (flM M a x k) none (flM M a x N) := by
    intro f
    induction f with
    | zero =>
      intro k hf hk
      have e : k = N := by omega
      subst e
      have hL : Lv (flM M a x k) a 11 := ⟨ha.1, by show a < (flM M a x k).1.1; rw [(flM_ag k).1]; exact ha.2.1, by rw [(flM_ag k).2.1]; exact ha.2.2⟩
      apply s_J7_fill_53178_5 hL
      case k1 => exact fun _ => ⟨rfl, rfl⟩
      all_goals (intro g; exact absurd (le32.mpr (Int.le_refl _)) g)
    | succ f ih =>
      intro k hf hk
      have hL : Lv (flM M a x k) a 11 := ⟨ha.1, by show a < (flM M a x k).1.1; rw [(flM_ag k).1]; exact ha.2.1, by rw [(flM_ag k).2.1]; exact ha.2.2⟩
      have hg : ¬ nI N ≤ nI k := by rw [nle (by omega) (by omega)]; omega
      apply s_J7_fill_53178_5 hL
      case k1 => intro g; exact absurd g hg
      case b2 => intro _; rw [(flM_ag k).2.1, hN]; exact in_n (by omega) (by omega)
      case k3 => intro _; rw [cl_n (by omega), nI_1]; exact ih (k + 1) (by omega) (by omega)
  apply s_J7_fill_53178_0 ha
  rw [hN]
  exact key _ 0 rfl (by omega)
def I0 : AM := mk M00 6 7
def I1 : AM := wrR (mk (wrR (mk (mk I0 5 3) 14 32) 4 0 (some 5)) 11 18) 4 1 (some 6)
def I2 : AM := wrI (flM I1 6 1 18) 4 2 0
def I3 : AM := wrR (mk (wrR (mk (wrR (mk (wrR (mk (wrR I2 3 0 (some 4)) 2 4) 7 0 (some 4)) 11 120) 7 1 (some 8)) 11 120) 7 2 (some 9)) 11 120) 7 3 (some 10)
def I4 : AM := wrR (mk (wrR (mk (wrR (mk (wrR (mk (wrR (mk (wrR (mk (wrR I3 3 1 (some 7)) 0 7) 11 0 (some 4)) 1 5) 12 0 (some 4)) 12 32) 12 1 (some 13)) 12 32) 12 2 (some 14)) 12 121) 12 3 (some 15)) 12 121) 12 4 (some 16)
def I5 : AM := wrI (wrI (wrI (wrI (wrR (mk (wrR I4 11 1 (some 12)) 11 32) 11 2 (some 17)) 11 3 0) 11 4 0) 11 5 0) 11 6 0
def I6 : AM := wrR (mk (wrR (mk (wrR (mk (wrR (mk (wrR (mk (wrR (mk (wrR (mk (wrR I5 3 2 (some 11)) 3 15) 18 0 (some 4)) 12 11600) 18 1 (some 19)) 11 800) 18 2 (some 20)) 14 100) 18 3 (some 21)) 11 100) 18 4 (some 22)) 11 100) 18 5 (some 23)) 11 100) 18 6 (some 24)
def I7 : AM := wrI (wrI (wrR (mk (wrR I6 3 3 (some 18)) 12 8) 3 4 (some 25)) 3 5 0) 3 6 (-1)
theorem i_X5 : Tv K_X5_init [aR (some 4)] (mk I0 5 3) (.inl (none, I2)) := s_X5_init_0 (M3 := flM I1 6 1 18) ⟨by decide, by decide +kernel, by decide +kernel⟩ (by decide +kernel) (by decide +kernel) (v_fillM (N := 18) ⟨by decide, by decide +kernel, by decide +kernel⟩ (by decide +kernel) (by decide)) rfl
theorem i_X2 : Tv K_X2_init [aR (some 7), aR (some 4)] (mk (wrR I2 3 0 (some 4)) 2 4) (.inl (none, I3)) := s_X2_init_0 ⟨by decide, by decide +kernel, by decide +kernel⟩ (by decide +kernel) rfl
theorem i_X1 : Tv K_X1_init [aR (some 12), aR (some 4)] (mk (wrR (mk (wrR I3 3 1 (some 7)) 0 7) 11 0 (some 4)) 1 5) (.inl (none, I4)) := s_X1_init_0 ⟨by decide, by decide +kernel, by decide +kernel⟩ (by decide +kernel) rfl
theorem i_X0 : Tv K_X0_init [aR (some 11), aR (some 4)] (mk (wrR I3 3 1 (some 7)) 0 7) (.inl (none, I5)) := s_X0_init_0 (M2 := I4) ⟨by decide, by decide +kernel, by decide +kernel⟩ (by decide +kernel) i_X1 ⟨by decide, by decide +kernel, by decide +kernel⟩ (by decide +kernel) rfl
theorem i_X3 : Tv K_X3_init [aR (some 18), aR (some 4)] (mk (wrR I5 3 2 (some 11)) 3 15) (.inl (none, I6)) := s_X3_init_0 ⟨by decide, by decide +kernel, by decide +kernel⟩ (by decide +kernel) rfl
theorem i_X6 : Tv K_X6_init [aR (some 3)] I0 (.inl (none, I7)) := by
  have L : ∀ {M : AM}, 3 < mN M → (mS M 3).1 = 6 → Lv M 3 6 := fun h1 h2 => ⟨Nat.le_refl _, h1, h2⟩
  exact s_X6_init_0 (M2 := I2) (M4 := I3) (M6 := I5) (M8 := I6) (L (by decide +kernel) (by decide +kernel)) (by decide +kernel) i_X5 (L (by decide +kernel) (by decide +kernel)) (by decide +kernel) (by decide +kernel) i_X2 (L (by decide +kernel) (by decide +kernel)) (by decide +kernel) (by decide +kernel) i_X0 (L (by decide +kernel) (by decide +kernel)) (by decide +kernel) (by decide +kernel) i_X3 (L (by decide +kernel) (by decide +kernel)) (by decide +kernel) rfl
def J0 : AM := mk I7 7 41
def J1 : AM := wrR (mk (wrR (mk (wrR (mk (wrR (mk J0 11 32) 26 0 (some 27)) 11 32) 26 1 (some 28)) 11 32) 26 2 (some 29)) 11 32) 26 3 (some 30)
def J2 : AM := wrR (mk (wrI (wrR (mk (wrR (mk (wrR (mk J1 11 3840) 26 5 (some 31)) 12 3840) 26 6 (some 32)) 12 18) 26 7 (some 33)) 26 8 (-1)) 11 3840) 26 10 (some 34)
def J3 : AM := wrR (mk (wrR (mk (wrR (mk (wrR (mk J2 11 3840) 26 11 (some 35)) 11 3840) 26 12 (some 36)) 11 3840) 26 13 (some 37)) 11 32) 26 14 (some 38)
def J4 : AM := wrR (mk (wrR (mk (wrR (mk (wrR (mk J3 11 32) 26 15 (some 39)) 13 32) 26 16 (some 40)) 13 32) 26 17 (some 41)) 13 32) 26 18 (some 42)
def J5 : AM := wrR (mk (wrR (mk (wrR (mk (wrR (mk J4 13 32) 26 19 (some 43)) 12 32) 26 20 (some 44)) 12 32) 26 21 (some 45)) 12 121) 26 22 (some 46)
def J6 : AM := wrR (mk (wrR (mk (wrR (mk (wrR (mk J5 12 120) 26 23 (some 47)) 12 120) 26 24 (some 48)) 13 1024) 26 25 (some 49)) 12 8) 26 26 (some 50)
def J7 : AM := wrR (mk (wrR (mk (wrR (mk (wrR (mk J6 11 100) 26 28 (some 51)) 11 100) 26 29 (some 52)) 11 100) 26 30 (some 53)) 12 1600) 26 31 (some 54)
def J8 : AM := wrR (mk (wrR (mk J7 12 10100) 26 32 (some 55)) 12 900) 26 33 (some 56)
def J9 : AM := flJ J8 33 1 18
theorem j_costs : ∀ (f k : Nat), 18 - k = f → k ≤ 18 → T K_X7_init 261 [some (aR (some 26)), some (aI (nI k))] [] (flJ J8 33 1 k) (.inl (none, J9)) := by
  intro f
  have b1 : ∀ k, Lv (flJ J8 33 1 k) 26 7 := fun k => ⟨by decide, by show 26 < (flJ J8 33 1 k).1.1; rw [(flJ_ag k).1]; decide +kernel, by rw [(flJ_ag k).2.1]; decide +kernel⟩
  have b2 : ∀ k, mN (flJ J8 33 1 k) = 57 := fun k => by show (flJ J8 33 1 k).1.1 = 57; rw [(flJ_ag k).1]; decide +kernel
  have b3 : ∀ k, Lv (flJ J8 33 1 k) 33 12 := fun k => ⟨by decide, by show 33 < (flJ J8 33 1 k).1.1; rw [(flJ_ag k).1]; decide +kernel, by rw [(flJ_ag k).2.1]; decide +kernel⟩
  induction f with
  | zero =>
    intro k hf hk
    have e : k = 18 := by omega
    subst e
    apply s_X7_init_261 (b1 18) (b2 18)
    case h4 => exact b3 18
    case k1 => intro _; rfl
    all_goals (intro g; exact absurd (by decide) g)
  | succ f ih =>
    intro k hf hk
    have hg : ¬ (18 : Int32) ≤ nI k := by rw [le32, ci _ (by omega)]; have : (18 : Int32).toInt = 18 := rfl; omega
    apply s_X7_init_261 (b1 k) (b2 k)
    case h4 => exact b3 k
    case k1 => intro g; exact absurd g hg
    case f2 => intro _; rw [(flJ_ag k).r]; decide +kernel
    case b3 => intro _; rw [(flJ_ag k).2.1, show (mS J8 33).2 = 18 from by decide +kernel]; exact in_n (by omega) (by omega)
    case k5 => intro _; rw [cl_n (by omega), nI_1]; exact ih (k + 1) (by omega) (by omega)
theorem i_X7 : Tv K_X7_init [aR (some 26)] J0 (.inl (none, J9)) := by
  have L : ∀ {M : AM}, 26 < mN M → (mS M 26).1 = 7 → Lv M 26 7 := fun h1 h2 => ⟨by decide, h1, h2⟩
  refine s_X7_init_0 (L (by decide +kernel) (by decide +kernel)) (by decide +kernel) ?_
  refine s_X7_init_36 (M := J1) (L (by decide +kernel) (by decide +kernel)) (by decide +kernel) ?_
  refine s_X7_init_76 (M := J2) (L (by decide +kernel) (by decide +kernel)) (by decide +kernel) ?_
  refine s_X7_init_111 (M := J3) (L (by decide +kernel) (by decide +kernel)) (by decide +kernel) ?_
  refine s_X7_init_143 (M := J4) (L (by decide +kernel) (by decide +kernel)) (by decide +kernel) ?_
  refine s_X7_init_175 (M := J5) (L (by decide +kernel) (by decide +kernel)) (by decide +kernel) ?_
  refine s_X7_init_208 (M := J6) (L (by decide +kernel) (by decide +kernel)) (by decide +kernel) ?_
  refine s_X7_init_241 (M := J7) (L (by decide +kernel) (by decide +kernel)) (by decide +kernel) ?_
  exact j_costs _ 0 rfl (by omega)
def Z0 : AM := mk J9 12 1
theorem s_L_law_0 {X : Sc} {fin : Fin'} (k : TX X K_L_law 23 (LW 0) [] Z0 fin) : TX X K_L_law 0 (ini 8 [aR (some 0)]) [] M00 fin := by
  show TX X K_L_law 0 [some (aR (some 0)), none, none, none, none, none, none, none] [] M00 fin
  refine tx_new KF6 PT6 w81 w82 w65 dL_law_0 ?_
  show TX X K_L_law 3 [some (aR (some 0)), none, none, none, none, none, none, none] [aR (some 3)] I0 fin
  refine tx_dupR dL_law_3 ?_
  refine tx_callI (As := []) (rest := [aR (some 3)]) yk_X6_init w84 ⟨by decide, by decide, by show _ = some 0; decide +kernel⟩ rfl rfl w83 ⟨by decide, by decide⟩ (Nat.le_of_ble_eq_true rfl) dL_law_4 i_X6 ?_
  show TX X K_L_law 7 [some (aR (some 0)), none, none, none, none, none, none, none] [aR (some 3)] I7 fin
  refine tx_astore_n dL_law_7 (Nat.le_of_ble_eq_true rfl) ?_
  show TX X K_L_law 8 [some (aR (some 0)), some (aR (some 3)), none, none, none, none, none, none] [] I7 fin
  refine tx_new KF7 PT7 w829 w830 w72 dL_law_8 ?_
  rw [show mN I7 = 26 from by decide +kernel]
  show TX X K_L_law 11 [some (aR (some 0)), some (aR (some 3)), none, none, none, none, none, none] [aR (some 26)] J0 fin
  refine tx_dupR dL_law_11 ?_
  refine tx_callI (As := []) (rest := [aR (some 26)]) yk_X7_init w832 ⟨by decide, by decide, by show _ = some 0; decide +kernel⟩ rfl rfl w831 ⟨by decide, by decide⟩ (Nat.le_of_ble_eq_true rfl) dL_law_12 i_X7 ?_
  show TX X K_L_law 15 [some (aR (some 0)), some (aR (some 3)), none, none, none, none, none, none] [aR (some 26)] J9 fin
  refine tx_astore_n dL_law_15 (Nat.le_of_ble_eq_true rfl) ?_
  show TX X K_L_law 16 [some (aR (some 0)), some (aR (some 3)), some (aR (some 26)), none, none, none, none, none] [] J9 fin
  refine tx_iconst (u := 1) dL_law_16 (by decide) ?_
  refine tx_newaJ w162 dL_law_17 (by decide) (n := 1) (by decide) (by decide) ?_
  rw [show mN J9 = 57 from by decide +kernel]
  show TX X K_L_law 19 [some (aR (some 0)), some (aR (some 3)), some (aR (some 26)), none, none, none, none, none] [aR (some 57)] Z0 fin
  refine tx_astore_n dL_law_19 (Nat.le_of_ble_eq_true rfl) ?_
  show TX X K_L_law 20 [some (aR (some 0)), some (aR (some 3)), some (aR (some 26)), some (aR (some 57)), none, none, none, none] [] Z0 fin
  refine tx_iconst (u := 0) dL_law_20 (by decide) ?_
  refine tx_istore dL_law_21 (Nat.le_of_ble_eq_true rfl) ?_
  exact k
def P0 : PG := (0, fun _ => 0, fun _ => 0, fun _ => 0, fun _ => 0, fun _ _ => 0, fun _ _ => 0)
theorem Z0_st : St Z0 := by
  refine ⟨by decide +kernel, ?_, ?_⟩
  · have h : ∀ i, i < 58 → 3 ≤ i → mS Z0 i = shp i := by decide +kernel
    exact fun i h1 h2 => h i h2 h1
  · have h : ∀ i, i < 58 → ∀ j, j < 41 → 3 ≤ i → (rft i j).isSome = true → mR Z0 i j = rft i j := by decide +kernel
    intro i j h1 h2 _ h4
    by_cases hj : j < 41
    · exact h i h2 j hj h1 h4
    · exfalso
      have hl : ∀ i, i < 58 → (([[], [], [], [some 4, some 7, some 11, some 18, some 25, none, none], [some 5, some 6, none], [], [], [some 4, some 8, some 9, some 10], [], [], [], [some 4, some 12, some 17, none, none, none, none], [some 4, some 13, some 14, some 15, some 16], [], [], [], [], [], [some 4, some 19, some 20, some 21, some 22, some 23, some 24, none, none, none, none, none, none, none, none], [], [], [], [], [], [], [], [some 27, some 28, some 29, some 30, none, some 31, some 32, some 33, none, none, some 34, some 35, some 36, some 37, some 38, some 39, some 40, some 41, some 42, some 43, some 44, some 45, some 46, some 47, some 48, some 49, some 50, none, some 51, some 52, some 53, some 54, some 55, some 56, none, none, none, none, none, none, none], [], [], [], [], [], [], [], [], [], [], [], [], [], [], [], [], [], [], [], [], [], [], [], [], [], [], [], [], [], [], []] : List (List (Option Nat))).getD i []).length ≤ 41 := by decide +kernel
      have h5 := hl i h2
      have key : ∀ (l : List (Option Nat)) (j : Nat), l.length ≤ j → l.getD j none = none := by
        intro l j hl
        rw [List.getD_eq_getElem?_getD, List.getElem?_eq_none hl]; rfl
      unfold rft at h4
      rw [key _ j (by omega)] at h4
      exact absurd h4 (by decide)
theorem Z0_rel : GRel Z0 := by
  refine ⟨⟨P0, fun _ => 0, fun _ => 1, Z0_st, ⟨⟨by decide +kernel, by decide, fun j hj => absurd hj (Nat.not_lt_zero j), fun i j hi => absurd hi (Nat.not_lt_zero i)⟩, fun j hj => absurd hj (Nat.not_lt_zero j)⟩, fun j hj => absurd hj (Nat.not_lt_zero j), ⟨by decide +kernel, by decide, fun j hj => absurd hj (Nat.not_lt_zero j)⟩, fun k hk => ⟨?_, by show 1 ≤ 1000000; omega⟩, fun k hk => ?_⟩, ?_, ⟨0, by omega, ?_, ?_, fun x hx => absurd hx (Nat.not_lt_zero x)⟩, fun j hj => ?_, ?_, ?_, ?_, ?_, ?_⟩
  · have h : ∀ k, k < 18 → mI Z0 6 k = nI 1 := by decide +kernel
    exact h k hk
  · show mJ Z0 33 k = sJ (some 1)
    rw [sJ_ct (by omega)]
    have h : ∀ k, k < 18 → mJ Z0 33 k = jJ ((1 : Nat) : Int) := by decide +kernel
    exact h k hk
  · show mI Z0 3 6 = mI Z0 26 8; decide +kernel
  · decide +kernel
  · decide +kernel
  · have h40 : ∀ k, k < 32 → mI Z0 40 k = 0 ∧ mI Z0 41 k = 0 ∧ mI Z0 42 k = 0 ∧ mI Z0 43 k = 0 := by decide +kernel
    have h11 : mI Z0 11 3 = 0 ∧ mI Z0 11 4 = 0 ∧ mI Z0 11 5 = 0 ∧ mI Z0 11 6 = 0 := by decide +kernel
    obtain ⟨a1, a2, a3, a4⟩ := h40 j hj
    obtain ⟨b1, b2, b3, b4⟩ := h11
    have n1 : ¬ ((0 : Int32) = 1) := by decide
    have nb : ¬ bt 0 j := bt_0
    unfold GB
    rw [a1, a2, a3, a4, b1, b2, b3, b4]
    exact ⟨Or.inl rfl, ⟨fun z => absurd z nb, fun z => absurd z n1⟩, Or.inl rfl, ⟨fun z => absurd z nb, fun z => absurd z n1⟩, Or.inl rfl, ⟨fun z => absurd z nb, fun z => absurd z n1⟩, Or.inl rfl, ⟨fun z => absurd rfl z.1, fun z => absurd z n1⟩, fun z => absurd z n1⟩
  · decide +kernel
  · decide +kernel
  · decide +kernel
  · decide +kernel
  · decide +kernel
theorem lawok : LAWOK := by
  intro X hX
  obtain ⟨Mf, hT, hN, hU⟩ := l_law hX 512 0 Z0 (by omega) (by omega) Z0_rel
  refine ⟨Mf, s_L_law_0 hT, ?_, ?_⟩
  · have : mN Z0 = 58 := by decide +kernel
    omega
  · have : mU Z0 ≤ 1000000 := by decide +kernel
    omega
