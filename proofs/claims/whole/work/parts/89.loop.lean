/-! ===== PURE: the law's loop ===== -/
theorem TX.fg {X : Sc} {K : MK} {pc : Nat} {L L' : LVs} {st : List AV} {M : AM} {fin : Fin'} (h : TX X K pc L st M fin) (f : FG L L') : TX X K pc L' st M fin :=
  ⟨h.1, h.2.1, fun G p l e R s m args below meth c H locs cells slots mc ms ls ct lv => h.2.2 G p l e R s m args below meth c H locs cells slots mc ms ls ct ⟨lv.1, lv.2.1, f.len.trans lv.2.2.1, fun i v z => lv.2.2.2 i v (f.get i v z)⟩⟩
abbrev LW (i : Nat) : LVs := [some (aR (some 0)), some (aR (some 3)), some (aR (some 26)), some (aR (some 57)), some (aI (nI i)), none, none, none]
theorem v_thrown {M : AM} (hS : St M) : Ev K_X7_thrown [aR (some 26)] M (some (aI (mI M 26 9))) M := s_X7_thrown_0 hS ⟨rfl, rfl⟩
theorem GRel.st {M : AM} (h : GRel M) : St M := h.1.elim (fun P h => h.elim (fun mr h => h.elim (fun ct h => h.1)))
theorem nI_k {i k : Nat} : nI i + nI k = nI (i + k) := nI_add i k

theorem w_0 {X : Sc} {i : Nat} {M : AM} (hN : X.1 ≤ 3072) (hi : i + 6 ≤ X.1) (h : GRel M) (e : (X.2 (nI i).toNatClampNeg &&& 15) = 0) : ∃ M2, GRel M2 ∧ Rmm M M2 ∧ ∀ {fin : Fin'}, TX X K_L_law 23 (LW (i + 6)) [] M2 fin → TX X K_L_law 23 (LW i) [] M fin := by
  obtain ⟨M1, k, M2, b, h1, h2, h3, h4, h5, h6, h7⟩ := L_method h (X.2 (nI i + 1).toNatClampNeg) (X.2 (nI i + 2).toNatClampNeg) (X.2 (nI i + 3).toNatClampNeg)
  refine ⟨M2, h6, h7, fun {fin} hE => ?_⟩
  have hS := h.st
  have hth := v_thrown h6.st
  rw [h4] at hth
  have e6 : nI i + 6 = nI (i + 6) := nI_add i 6
  have hend : ¬ ((Int32.ofNat X.1) - 6) < nI i := by
    show ¬ (nI X.1 - nI 6) < nI i
    rw [nI_sub (by omega), nlt (by omega) (by omega)]; omega
  apply s_L_law_23 (M1 := M1) (M2 := M2) (M3 := M2) (M4 := M) (M5 := M) (M6 := M) (M7 := M) (M8 := M) (M9 := M) (M10 := M) (M11 := M) (M12 := M) (M13 := M) (M14 := M) (M15 := M) (M16 := M) (M17 := M) (M18 := M) (M19 := M) (M20 := M) (M21 := M) (M22 := M) (M23 := M) (M24 := M) (M25 := M) (M26 := M) (M27 := M) (M28 := M) (M29 := M) (M30 := M) (M31 := M) (M32 := M) (M33 := M) (M34 := M) (M35 := M) (M36 := M) (M37 := M) (M38 := M) (M39 := M) (M40 := M) (M41 := M) (x103 := k) (x104 := b) (x105 := k) (x110 := 0) (x111 := 0) (x112 := 0) (x117 := 0) (x118 := 0) (x119 := 0) (x124 := 0) (x125 := 0) (x126 := 0) (x131 := 0) (x132 := 0) (x133 := 0) (x138 := 0) (x139 := 0) (x142 := 0) (x143 := 0) (x144 := 0) (x149 := 0) (x150 := 0) (x151 := 0) (x156 := 0) (x157 := 0) (x158 := 0) (x163 := 0) (x164 := 0) (x165 := 0) (x170 := 0) (x171 := 0) (x172 := 0) (x177 := 0) (x178 := 0) (x179 := 0) (x184 := 0) (x185 := 0) (x186 := 0) (x191 := 0) (x192 := 0) (x193 := 0) hS
  case k1 => intro q; exact absurd q hend
  case b2 => intro _; exact in_n (by omega) (by omega)
  case b3 => intros; rw [show nI i + 1 = nI (i + 1) from nI_add i 1]; exact in_n (by omega) (by omega)
  case b4 => intros; rw [show nI i + 2 = nI (i + 2) from nI_add i 2]; exact in_n (by omega) (by omega)
  case b5 => intros; rw [show nI i + 3 = nI (i + 3) from nI_add i 3]; exact in_n (by omega) (by omega)
  case b11 => intros; exact v01
  case c6 => intros; exact h1
  case h7 => intros; exact h2
  case c8 => intros; exact h3
  case c9 => intros; exact hth
  case k10 => intros; rw [e6]; exact hE.fg ⟨Or.inr rfl, Or.inr rfl, Or.inr rfl, Or.inr rfl, Or.inr rfl, Or.inl rfl, Or.inl rfl, Or.inr rfl, trivial⟩
  case k12 => intros; rw [e6]; exact hE.fg ⟨Or.inr rfl, Or.inr rfl, Or.inr rfl, Or.inr rfl, Or.inr rfl, Or.inl rfl, Or.inl rfl, Or.inr rfl, trivial⟩
  case k13 => intro _ _ _ q1 q2; rw [z0c] at q2; exact absurd (h5 q1) q2
  case k14 => intro _ _ q; exact absurd rfl q
  all_goals (clear h h1 h2 h3 h4 h5 h6 h7 hE hS hth e6; intros; exfalso; simp only [lt32, le32, eq32, lt64, le64, eq64, Int32.reduceToInt, Int64.reduceToInt] at *; omega)
theorem w_1 {X : Sc} {i : Nat} {M : AM} (hN : X.1 ≤ 3072) (hi : i + 6 ≤ X.1) (h : GRel M) (e : (X.2 (nI i).toNatClampNeg &&& 15) = 1) : ∃ M2, GRel M2 ∧ Rmm M M2 ∧ ∀ {fin : Fin'}, TX X K_L_law 23 (LW (i + 6)) [] M2 fin → TX X K_L_law 23 (LW i) [] M fin := by
  obtain ⟨M1, k, M2, b, h1, h2, h3, h4, h5, h6, h7⟩ := L_add h (X.2 (nI i + 1).toNatClampNeg) (X.2 (nI i + 2).toNatClampNeg) ((((X.2 (nI i + 3).toNatClampNeg : Int32).toInt64) <<< ((32 : Int32).toInt64 &&& 63)) ||| (((X.2 (nI i + 4).toNatClampNeg : Int32).toInt64) &&& 4294967295))
  refine ⟨M2, h6, h7, fun {fin} hE => ?_⟩
  have hS := h.st
  have hth := v_thrown h6.st
  rw [h4] at hth
  have e6 : nI i + 6 = nI (i + 6) := nI_add i 6
  have hend : ¬ ((Int32.ofNat X.1) - 6) < nI i := by
    show ¬ (nI X.1 - nI 6) < nI i
    rw [nI_sub (by omega), nlt (by omega) (by omega)]; omega
  apply s_L_law_23 (M1 := M) (M2 := M) (M3 := M) (M4 := M1) (M5 := M2) (M6 := M2) (M7 := M) (M8 := M) (M9 := M) (M10 := M) (M11 := M) (M12 := M) (M13 := M) (M14 := M) (M15 := M) (M16 := M) (M17 := M) (M18 := M) (M19 := M) (M20 := M) (M21 := M) (M22 := M) (M23 := M) (M24 := M) (M25 := M) (M26 := M) (M27 := M) (M28 := M) (M29 := M) (M30 := M) (M31 := M) (M32 := M) (M33 := M) (M34 := M) (M35 := M) (M36 := M) (M37 := M) (M38 := M) (M39 := M) (M40 := M) (M41 := M) (x103 := 0) (x104 := 0) (x105 := 0) (x110 := k) (x111 := b) (x112 := k) (x117 := 0) (x118 := 0) (x119 := 0) (x124 := 0) (x125 := 0) (x126 := 0) (x131 := 0) (x132 := 0) (x133 := 0) (x138 := 0) (x139 := 0) (x142 := 0) (x143 := 0) (x144 := 0) (x149 := 0) (x150 := 0) (x151 := 0) (x156 := 0) (x157 := 0) (x158 := 0) (x163 := 0) (x164 := 0) (x165 := 0) (x170 := 0) (x171 := 0) (x172 := 0) (x177 := 0) (x178 := 0) (x179 := 0) (x184 := 0) (x185 := 0) (x186 := 0) (x191 := 0) (x192 := 0) (x193 := 0) hS
  case k1 => intro q; exact absurd q hend
  case b2 => intro _; exact in_n (by omega) (by omega)
  case b15 => intros; rw [show nI i + 1 = nI (i + 1) from nI_add i 1]; exact in_n (by omega) (by omega)
  case b16 => intros; rw [show nI i + 2 = nI (i + 2) from nI_add i 2]; exact in_n (by omega) (by omega)
  case b17 => intros; rw [show nI i + 3 = nI (i + 3) from nI_add i 3]; exact in_n (by omega) (by omega)
  case b18 => intros; rw [show nI i + 4 = nI (i + 4) from nI_add i 4]; exact in_n (by omega) (by omega)
  case b24 => intros; exact v01
  case c19 => intros; exact h1
  case h20 => intros; exact h2
  case c21 => intros; exact h3
  case c22 => intros; exact hth
  case k23 => intros; rw [e6]; exact hE.fg ⟨Or.inr rfl, Or.inr rfl, Or.inr rfl, Or.inr rfl, Or.inr rfl, Or.inl rfl, Or.inl rfl, Or.inr rfl, trivial⟩
  case k25 => intros; rw [e6]; exact hE.fg ⟨Or.inr rfl, Or.inr rfl, Or.inr rfl, Or.inr rfl, Or.inr rfl, Or.inl rfl, Or.inl rfl, Or.inr rfl, trivial⟩
  case k26 => intro _ _ _ _ q1 q2; rw [z0c] at q2; exact absurd (h5 q1) q2
  case k27 => intro _ _ _ q; exact absurd rfl q
  all_goals (clear h h1 h2 h3 h4 h5 h6 h7 hE hS hth e6; intros; exfalso; simp only [lt32, le32, eq32, lt64, le64, eq64, Int32.reduceToInt, Int64.reduceToInt] at *; omega)
theorem w_2 {X : Sc} {i : Nat} {M : AM} (hN : X.1 ≤ 3072) (hi : i + 6 ≤ X.1) (h : GRel M) (e : (X.2 (nI i).toNatClampNeg &&& 15) = 2) : ∃ M2, GRel M2 ∧ Rmm M M2 ∧ ∀ {fin : Fin'}, TX X K_L_law 23 (LW (i + 6)) [] M2 fin → TX X K_L_law 23 (LW i) [] M fin := by
  obtain ⟨M1, k, M2, b, h1, h2, h3, h4, h5, h6, h7⟩ := L_change h (X.2 (nI i + 1).toNatClampNeg) (X.2 (nI i + 2).toNatClampNeg) (X.2 (nI i + 3).toNatClampNeg) ((((X.2 (nI i + 4).toNatClampNeg : Int32).toInt64) <<< ((32 : Int32).toInt64 &&& 63)) ||| (((X.2 (nI i + 5).toNatClampNeg : Int32).toInt64) &&& 4294967295))
  refine ⟨M2, h6, h7, fun {fin} hE => ?_⟩
  have hS := h.st
  have hth := v_thrown h6.st
  rw [h4] at hth
  have e6 : nI i + 6 = nI (i + 6) := nI_add i 6
  have hend : ¬ ((Int32.ofNat X.1) - 6) < nI i := by
    show ¬ (nI X.1 - nI 6) < nI i
    rw [nI_sub (by omega), nlt (by omega) (by omega)]; omega
  apply s_L_law_23 (M1 := M) (M2 := M) (M3 := M) (M4 := M) (M5 := M) (M6 := M) (M7 := M1) (M8 := M2) (M9 := M2) (M10 := M) (M11 := M) (M12 := M) (M13 := M) (M14 := M) (M15 := M) (M16 := M) (M17 := M) (M18 := M) (M19 := M) (M20 := M) (M21 := M) (M22 := M) (M23 := M) (M24 := M) (M25 := M) (M26 := M) (M27 := M) (M28 := M) (M29 := M) (M30 := M) (M31 := M) (M32 := M) (M33 := M) (M34 := M) (M35 := M) (M36 := M) (M37 := M) (M38 := M) (M39 := M) (M40 := M) (M41 := M) (x103 := 0) (x104 := 0) (x105 := 0) (x110 := 0) (x111 := 0) (x112 := 0) (x117 := k) (x118 := b) (x119 := k) (x124 := 0) (x125 := 0) (x126 := 0) (x131 := 0) (x132 := 0) (x133 := 0) (x138 := 0) (x139 := 0) (x142 := 0) (x143 := 0) (x144 := 0) (x149 := 0) (x150 := 0) (x151 := 0) (x156 := 0) (x157 := 0) (x158 := 0) (x163 := 0) (x164 := 0) (x165 := 0) (x170 := 0) (x171 := 0) (x172 := 0) (x177 := 0) (x178 := 0) (x179 := 0) (x184 := 0) (x185 := 0) (x186 := 0) (x191 := 0) (x192 := 0) (x193 := 0) hS
  case k1 => intro q; exact absurd q hend
  case b2 => intro _; exact in_n (by omega) (by omega)
  case b28 => intros; rw [show nI i + 1 = nI (i + 1) from nI_add i 1]; exact in_n (by omega) (by omega)
  case b29 => intros; rw [show nI i + 2 = nI (i + 2) from nI_add i 2]; exact in_n (by omega) (by omega)
  case b30 => intros; rw [show nI i + 3 = nI (i + 3) from nI_add i 3]; exact in_n (by omega) (by omega)
  case b31 => intros; rw [show nI i + 4 = nI (i + 4) from nI_add i 4]; exact in_n (by omega) (by omega)
  case b32 => intros; rw [show nI i + 5 = nI (i + 5) from nI_add i 5]; exact in_n (by omega) (by omega)
  case b38 => intros; exact v01
  case c33 => intros; exact h1
  case h34 => intros; exact h2
  case c35 => intros; exact h3
  case c36 => intros; exact hth
  case k37 => intros; rw [e6]; exact hE.fg ⟨Or.inr rfl, Or.inr rfl, Or.inr rfl, Or.inr rfl, Or.inr rfl, Or.inl rfl, Or.inl rfl, Or.inr rfl, trivial⟩
  case k39 => intros; rw [e6]; exact hE.fg ⟨Or.inr rfl, Or.inr rfl, Or.inr rfl, Or.inr rfl, Or.inr rfl, Or.inl rfl, Or.inl rfl, Or.inr rfl, trivial⟩
  case k40 => intro _ _ _ _ _ q1 q2; rw [z0c] at q2; exact absurd (h5 q1) q2
  case k41 => intro _ _ _ _ q; exact absurd rfl q
  all_goals (clear h h1 h2 h3 h4 h5 h6 h7 hE hS hth e6; intros; exfalso; simp only [lt32, le32, eq32, lt64, le64, eq64, Int32.reduceToInt, Int64.reduceToInt] at *; omega)
theorem w_3 {X : Sc} {i : Nat} {M : AM} (hN : X.1 ≤ 3072) (hi : i + 6 ≤ X.1) (h : GRel M) (e : (X.2 (nI i).toNatClampNeg &&& 15) = 3) : ∃ M2, GRel M2 ∧ Rmm M M2 ∧ ∀ {fin : Fin'}, TX X K_L_law 23 (LW (i + 6)) [] M2 fin → TX X K_L_law 23 (LW i) [] M fin := by
  obtain ⟨M1, k, M2, b, h1, h2, h3, h4, h5, h6, h7⟩ := L_cost h (X.2 (nI i + 1).toNatClampNeg) (X.2 (nI i + 2).toNatClampNeg)
  refine ⟨M2, h6, h7, fun {fin} hE => ?_⟩
  have hS := h.st
  have hth := v_thrown h6.st
  rw [h4] at hth
  have e6 : nI i + 6 = nI (i + 6) := nI_add i 6
  have hend : ¬ ((Int32.ofNat X.1) - 6) < nI i := by
    show ¬ (nI X.1 - nI 6) < nI i
    rw [nI_sub (by omega), nlt (by omega) (by omega)]; omega
  apply s_L_law_23 (M1 := M) (M2 := M) (M3 := M) (M4 := M) (M5 := M) (M6 := M) (M7 := M) (M8 := M) (M9 := M) (M10 := M1) (M11 := M2) (M12 := M2) (M13 := M) (M14 := M) (M15 := M) (M16 := M) (M17 := M) (M18 := M) (M19 := M) (M20 := M) (M21 := M) (M22 := M) (M23 := M) (M24 := M) (M25 := M) (M26 := M) (M27 := M) (M28 := M) (M29 := M) (M30 := M) (M31 := M) (M32 := M) (M33 := M) (M34 := M) (M35 := M) (M36 := M) (M37 := M) (M38 := M) (M39 := M) (M40 := M) (M41 := M) (x103 := 0) (x104 := 0) (x105 := 0) (x110 := 0) (x111 := 0) (x112 := 0) (x117 := 0) (x118 := 0) (x119 := 0) (x124 := k) (x125 := b) (x126 := k) (x131 := 0) (x132 := 0) (x133 := 0) (x138 := 0) (x139 := 0) (x142 := 0) (x143 := 0) (x144 := 0) (x149 := 0) (x150 := 0) (x151 := 0) (x156 := 0) (x157 := 0) (x158 := 0) (x163 := 0) (x164 := 0) (x165 := 0) (x170 := 0) (x171 := 0) (x172 := 0) (x177 := 0) (x178 := 0) (x179 := 0) (x184 := 0) (x185 := 0) (x186 := 0) (x191 := 0) (x192 := 0) (x193 := 0) hS
  case k1 => intro q; exact absurd q hend
  case b2 => intro _; exact in_n (by omega) (by omega)
  case b42 => intros; rw [show nI i + 1 = nI (i + 1) from nI_add i 1]; exact in_n (by omega) (by omega)
  case b43 => intros; rw [show nI i + 2 = nI (i + 2) from nI_add i 2]; exact in_n (by omega) (by omega)
  case b49 => intros; exact v01
  case c44 => intros; exact h1
  case h45 => intros; exact h2
  case c46 => intros; exact h3
  case c47 => intros; exact hth
  case k48 => intros; rw [e6]; exact hE.fg ⟨Or.inr rfl, Or.inr rfl, Or.inr rfl, Or.inr rfl, Or.inr rfl, Or.inl rfl, Or.inl rfl, Or.inr rfl, trivial⟩
  case k50 => intros; rw [e6]; exact hE.fg ⟨Or.inr rfl, Or.inr rfl, Or.inr rfl, Or.inr rfl, Or.inr rfl, Or.inl rfl, Or.inl rfl, Or.inr rfl, trivial⟩
  case k51 => intro _ _ _ _ _ _ q1 q2; rw [z0c] at q2; exact absurd (h5 q1) q2
  case k52 => intro _ _ _ _ _ q; exact absurd rfl q
  all_goals (clear h h1 h2 h3 h4 h5 h6 h7 hE hS hth e6; intros; exfalso; simp only [lt32, le32, eq32, lt64, le64, eq64, Int32.reduceToInt, Int64.reduceToInt] at *; omega)
theorem w_4 {X : Sc} {i : Nat} {M : AM} (hN : X.1 ≤ 3072) (hi : i + 6 ≤ X.1) (h : GRel M) (e : (X.2 (nI i).toNatClampNeg &&& 15) = 4) : ∃ M2, GRel M2 ∧ Rmm M M2 ∧ ∀ {fin : Fin'}, TX X K_L_law 23 (LW (i + 6)) [] M2 fin → TX X K_L_law 23 (LW i) [] M fin := by
  obtain ⟨M1, k, M2, b, h1, h2, h3, h4, h5, h6, h7⟩ := L_check h (X.2 (nI i + 1).toNatClampNeg)
  refine ⟨M2, h6, h7, fun {fin} hE => ?_⟩
  have hS := h.st
  have hth := v_thrown h6.st
  rw [h4] at hth
  have e6 : nI i + 6 = nI (i + 6) := nI_add i 6
  have hend : ¬ ((Int32.ofNat X.1) - 6) < nI i := by
    show ¬ (nI X.1 - nI 6) < nI i
    rw [nI_sub (by omega), nlt (by omega) (by omega)]; omega
  apply s_L_law_23 (M1 := M) (M2 := M) (M3 := M) (M4 := M) (M5 := M) (M6 := M) (M7 := M) (M8 := M) (M9 := M) (M10 := M) (M11 := M) (M12 := M) (M13 := M1) (M14 := M2) (M15 := M2) (M16 := M) (M17 := M) (M18 := M) (M19 := M) (M20 := M) (M21 := M) (M22 := M) (M23 := M) (M24 := M) (M25 := M) (M26 := M) (M27 := M) (M28 := M) (M29 := M) (M30 := M) (M31 := M) (M32 := M) (M33 := M) (M34 := M) (M35 := M) (M36 := M) (M37 := M) (M38 := M) (M39 := M) (M40 := M) (M41 := M) (x103 := 0) (x104 := 0) (x105 := 0) (x110 := 0) (x111 := 0) (x112 := 0) (x117 := 0) (x118 := 0) (x119 := 0) (x124 := 0) (x125 := 0) (x126 := 0) (x131 := k) (x132 := b) (x133 := k) (x138 := 0) (x139 := 0) (x142 := 0) (x143 := 0) (x144 := 0) (x149 := 0) (x150 := 0) (x151 := 0) (x156 := 0) (x157 := 0) (x158 := 0) (x163 := 0) (x164 := 0) (x165 := 0) (x170 := 0) (x171 := 0) (x172 := 0) (x177 := 0) (x178 := 0) (x179 := 0) (x184 := 0) (x185 := 0) (x186 := 0) (x191 := 0) (x192 := 0) (x193 := 0) hS
  case k1 => intro q; exact absurd q hend
  case b2 => intro _; exact in_n (by omega) (by omega)
  case b53 => intros; rw [show nI i + 1 = nI (i + 1) from nI_add i 1]; exact in_n (by omega) (by omega)
  case b59 => intros; exact v01
  case c54 => intros; exact h1
  case h55 => intros; exact h2
  case c56 => intros; exact h3
  case c57 => intros; exact hth
  case k58 => intros; rw [e6]; exact hE.fg ⟨Or.inr rfl, Or.inr rfl, Or.inr rfl, Or.inr rfl, Or.inr rfl, Or.inl rfl, Or.inl rfl, Or.inr rfl, trivial⟩
  case k60 => intros; rw [e6]; exact hE.fg ⟨Or.inr rfl, Or.inr rfl, Or.inr rfl, Or.inr rfl, Or.inr rfl, Or.inl rfl, Or.inl rfl, Or.inr rfl, trivial⟩
  case k61 => intro _ _ _ _ _ _ _ q1 q2; rw [z0c] at q2; exact absurd (h5 q1) q2
  case k62 => intro _ _ _ _ _ _ q; exact absurd rfl q
  all_goals (clear h h1 h2 h3 h4 h5 h6 h7 hE hS hth e6; intros; exfalso; simp only [lt32, le32, eq32, lt64, le64, eq64, Int32.reduceToInt, Int64.reduceToInt] at *; omega)
theorem w_5 {X : Sc} {i : Nat} {M : AM} (hN : X.1 ≤ 3072) (hi : i + 6 ≤ X.1) (h : GRel M) (e : (X.2 (nI i).toNatClampNeg &&& 15) = 5) : ∃ M2, GRel M2 ∧ Rmm M M2 ∧ ∀ {fin : Fin'}, TX X K_L_law 23 (LW (i + 6)) [] M2 fin → TX X K_L_law 23 (LW i) [] M fin := by
  obtain ⟨b, M2, h1, h2, h3, h4⟩ := L_place h
  refine ⟨M2, h3, h4, fun {fin} hE => ?_⟩
  have hS := h.st
  have e6 : nI i + 6 = nI (i + 6) := nI_add i 6
  have eN : (Int32.ofNat X.1).toInt = X.1 := ci X.1 (by omega)
  have hend : ¬ ((Int32.ofNat X.1) - 6) < nI i := by
    show ¬ (nI X.1 - nI 6) < nI i
    rw [nI_sub (by omega), nlt (by omega) (by omega)]; omega
  apply s_L_law_23 (M1 := M) (M2 := M) (M3 := M) (M4 := M) (M5 := M) (M6 := M) (M7 := M) (M8 := M) (M9 := M) (M10 := M) (M11 := M) (M12 := M) (M13 := M) (M14 := M) (M15 := M) (M16 := M) (M17 := M2) (M18 := M) (M19 := M) (M20 := M) (M21 := M) (M22 := M) (M23 := M) (M24 := M) (M25 := M) (M26 := M) (M27 := M) (M28 := M) (M29 := M) (M30 := M) (M31 := M) (M32 := M) (M33 := M) (M34 := M) (M35 := M) (M36 := M) (M37 := M) (M38 := M) (M39 := M) (M40 := M) (M41 := M) (x103 := 0) (x104 := 0) (x105 := 0) (x110 := 0) (x111 := 0) (x112 := 0) (x117 := 0) (x118 := 0) (x119 := 0) (x124 := 0) (x125 := 0) (x126 := 0) (x131 := 0) (x132 := 0) (x133 := 0) (x138 := b) (x139 := b) (x142 := 0) (x143 := 0) (x144 := 0) (x149 := 0) (x150 := 0) (x151 := 0) (x156 := 0) (x157 := 0) (x158 := 0) (x163 := 0) (x164 := 0) (x165 := 0) (x170 := 0) (x171 := 0) (x172 := 0) (x177 := 0) (x178 := 0) (x179 := 0) (x184 := 0) (x185 := 0) (x186 := 0) (x191 := 0) (x192 := 0) (x193 := 0) hS
  case k1 => intro q; exact absurd q hend
  case b2 => intro _; exact in_n (by omega) (by omega)
  case c63 => intros; exact h1
  case c64 => intros; exact h2
  case k65 => intros; rw [e6]; exact hE
  case k66 => intro _ _ _ _ _ _ _  q; exact absurd rfl q
  all_goals (clear h h1 h2 h3 h4 hE hS e6; intros; exfalso; simp only [lt32, le32, eq32, lt64, le64, eq64, Int32.reduceToInt, Int64.reduceToInt] at *; omega)
theorem w_6 {X : Sc} {i : Nat} {M : AM} (hN : X.1 ≤ 3072) (hi : i + 6 ≤ X.1) (h : GRel M) (e : (X.2 (nI i).toNatClampNeg &&& 15) = 6) : ∃ M2, GRel M2 ∧ Rmm M M2 ∧ ∀ {fin : Fin'}, TX X K_L_law 23 (LW (i + 6)) [] M2 fin → TX X K_L_law 23 (LW i) [] M fin := by
  obtain ⟨M1, k, M2, b, h1, h2, h3, h4, h5, h6, h7⟩ := L_height h (X.2 (nI i + 1).toNatClampNeg) (X.2 (nI i + 2).toNatClampNeg)
  refine ⟨M2, h6, h7, fun {fin} hE => ?_⟩
  have hS := h.st
  have hth := v_thrown h6.st
  rw [h4] at hth
  have e6 : nI i + 6 = nI (i + 6) := nI_add i 6
  have hend : ¬ ((Int32.ofNat X.1) - 6) < nI i := by
    show ¬ (nI X.1 - nI 6) < nI i
    rw [nI_sub (by omega), nlt (by omega) (by omega)]; omega
  apply s_L_law_23 (M1 := M) (M2 := M) (M3 := M) (M4 := M) (M5 := M) (M6 := M) (M7 := M) (M8 := M) (M9 := M) (M10 := M) (M11 := M) (M12 := M) (M13 := M) (M14 := M) (M15 := M) (M16 := M) (M17 := M) (M18 := M1) (M19 := M2) (M20 := M2) (M21 := M) (M22 := M) (M23 := M) (M24 := M) (M25 := M) (M26 := M) (M27 := M) (M28 := M) (M29 := M) (M30 := M) (M31 := M) (M32 := M) (M33 := M) (M34 := M) (M35 := M) (M36 := M) (M37 := M) (M38 := M) (M39 := M) (M40 := M) (M41 := M) (x103 := 0) (x104 := 0) (x105 := 0) (x110 := 0) (x111 := 0) (x112 := 0) (x117 := 0) (x118 := 0) (x119 := 0) (x124 := 0) (x125 := 0) (x126 := 0) (x131 := 0) (x132 := 0) (x133 := 0) (x138 := 0) (x139 := 0) (x142 := k) (x143 := b) (x144 := k) (x149 := 0) (x150 := 0) (x151 := 0) (x156 := 0) (x157 := 0) (x158 := 0) (x163 := 0) (x164 := 0) (x165 := 0) (x170 := 0) (x171 := 0) (x172 := 0) (x177 := 0) (x178 := 0) (x179 := 0) (x184 := 0) (x185 := 0) (x186 := 0) (x191 := 0) (x192 := 0) (x193 := 0) hS
  case k1 => intro q; exact absurd q hend
  case b2 => intro _; exact in_n (by omega) (by omega)
  case b67 => intros; rw [show nI i + 1 = nI (i + 1) from nI_add i 1]; exact in_n (by omega) (by omega)
  case b68 => intros; rw [show nI i + 2 = nI (i + 2) from nI_add i 2]; exact in_n (by omega) (by omega)
  case b74 => intros; exact v01
  case c69 => intros; exact h1
  case h70 => intros; exact h2
  case c71 => intros; exact h3
  case c72 => intros; exact hth
  case k73 => intros; rw [e6]; exact hE.fg ⟨Or.inr rfl, Or.inr rfl, Or.inr rfl, Or.inr rfl, Or.inr rfl, Or.inl rfl, Or.inl rfl, Or.inr rfl, trivial⟩
  case k75 => intros; rw [e6]; exact hE.fg ⟨Or.inr rfl, Or.inr rfl, Or.inr rfl, Or.inr rfl, Or.inr rfl, Or.inl rfl, Or.inl rfl, Or.inr rfl, trivial⟩
  case k76 => intro _ _ _ _ _ _ _ _ _ q1 q2; rw [z0c] at q2; exact absurd (h5 q1) q2
  case k77 => intro _ _ _ _ _ _ _ _ q; exact absurd rfl q
  all_goals (clear h h1 h2 h3 h4 h5 h6 h7 hE hS hth e6; intros; exfalso; simp only [lt32, le32, eq32, lt64, le64, eq64, Int32.reduceToInt, Int64.reduceToInt] at *; omega)
theorem w_7 {X : Sc} {i : Nat} {M : AM} (hN : X.1 ≤ 3072) (hi : i + 6 ≤ X.1) (h : GRel M) (e : (X.2 (nI i).toNatClampNeg &&& 15) = 7) : ∃ M2, GRel M2 ∧ Rmm M M2 ∧ ∀ {fin : Fin'}, TX X K_L_law 23 (LW (i + 6)) [] M2 fin → TX X K_L_law 23 (LW i) [] M fin := by
  obtain ⟨M1, k, M2, b, h1, h2, h3, h4, h5, h6, h7⟩ := L_analyse h (X.2 (nI i + 1).toNatClampNeg)
  refine ⟨M2, h6, h7, fun {fin} hE => ?_⟩
  have hS := h.st
  have hth := v_thrown h6.st
  rw [h4] at hth
  have e6 : nI i + 6 = nI (i + 6) := nI_add i 6
  have hend : ¬ ((Int32.ofNat X.1) - 6) < nI i := by
    show ¬ (nI X.1 - nI 6) < nI i
    rw [nI_sub (by omega), nlt (by omega) (by omega)]; omega
  apply s_L_law_23 (M1 := M) (M2 := M) (M3 := M) (M4 := M) (M5 := M) (M6 := M) (M7 := M) (M8 := M) (M9 := M) (M10 := M) (M11 := M) (M12 := M) (M13 := M) (M14 := M) (M15 := M) (M16 := M) (M17 := M) (M18 := M) (M19 := M) (M20 := M) (M21 := M1) (M22 := M2) (M23 := M2) (M24 := M) (M25 := M) (M26 := M) (M27 := M) (M28 := M) (M29 := M) (M30 := M) (M31 := M) (M32 := M) (M33 := M) (M34 := M) (M35 := M) (M36 := M) (M37 := M) (M38 := M) (M39 := M) (M40 := M) (M41 := M) (x103 := 0) (x104 := 0) (x105 := 0) (x110 := 0) (x111 := 0) (x112 := 0) (x117 := 0) (x118 := 0) (x119 := 0) (x124 := 0) (x125 := 0) (x126 := 0) (x131 := 0) (x132 := 0) (x133 := 0) (x138 := 0) (x139 := 0) (x142 := 0) (x143 := 0) (x144 := 0) (x149 := k) (x150 := b) (x151 := k) (x156 := 0) (x157 := 0) (x158 := 0) (x163 := 0) (x164 := 0) (x165 := 0) (x170 := 0) (x171 := 0) (x172 := 0) (x177 := 0) (x178 := 0) (x179 := 0) (x184 := 0) (x185 := 0) (x186 := 0) (x191 := 0) (x192 := 0) (x193 := 0) hS
  case k1 => intro q; exact absurd q hend
  case b2 => intro _; exact in_n (by omega) (by omega)
  case b78 => intros; rw [show nI i + 1 = nI (i + 1) from nI_add i 1]; exact in_n (by omega) (by omega)
  case b84 => intros; exact v01
  case c79 => intros; exact h1
  case h80 => intros; exact h2
  case c81 => intros; exact h3
  case c82 => intros; exact hth
  case k83 => intros; rw [e6]; exact hE.fg ⟨Or.inr rfl, Or.inr rfl, Or.inr rfl, Or.inr rfl, Or.inr rfl, Or.inl rfl, Or.inl rfl, Or.inr rfl, trivial⟩
  case k85 => intros; rw [e6]; exact hE.fg ⟨Or.inr rfl, Or.inr rfl, Or.inr rfl, Or.inr rfl, Or.inr rfl, Or.inl rfl, Or.inl rfl, Or.inr rfl, trivial⟩
  case k86 => intro _ _ _ _ _ _ _ _ _ _ q1 q2; rw [z0c] at q2; exact absurd (h5 q1) q2
  case k87 => intro _ _ _ _ _ _ _ _ _ q; exact absurd rfl q
  all_goals (clear h h1 h2 h3 h4 h5 h6 h7 hE hS hth e6; intros; exfalso; simp only [lt32, le32, eq32, lt64, le64, eq64, Int32.reduceToInt, Int64.reduceToInt] at *; omega)
theorem w_8 {X : Sc} {i : Nat} {M : AM} (hN : X.1 ≤ 3072) (hi : i + 6 ≤ X.1) (h : GRel M) (e : (X.2 (nI i).toNatClampNeg &&& 15) = 8) : ∃ M2, GRel M2 ∧ Rmm M M2 ∧ ∀ {fin : Fin'}, TX X K_L_law 23 (LW (i + 6)) [] M2 fin → TX X K_L_law 23 (LW i) [] M fin := by
  obtain ⟨M1, k, M2, b, h1, h2, h3, h4, h5, h6, h7⟩ := L_told h (X.2 (nI i + 1).toNatClampNeg) (X.2 (nI i + 2).toNatClampNeg)
  refine ⟨M2, h6, h7, fun {fin} hE => ?_⟩
  have hS := h.st
  have hth := v_thrown h6.st
  rw [h4] at hth
  have e6 : nI i + 6 = nI (i + 6) := nI_add i 6
  have hend : ¬ ((Int32.ofNat X.1) - 6) < nI i := by
    show ¬ (nI X.1 - nI 6) < nI i
    rw [nI_sub (by omega), nlt (by omega) (by omega)]; omega
  apply s_L_law_23 (M1 := M) (M2 := M) (M3 := M) (M4 := M) (M5 := M) (M6 := M) (M7 := M) (M8 := M) (M9 := M) (M10 := M) (M11 := M) (M12 := M) (M13 := M) (M14 := M) (M15 := M) (M16 := M) (M17 := M) (M18 := M) (M19 := M) (M20 := M) (M21 := M) (M22 := M) (M23 := M) (M24 := M1) (M25 := M2) (M26 := M2) (M27 := M) (M28 := M) (M29 := M) (M30 := M) (M31 := M) (M32 := M) (M33 := M) (M34 := M) (M35 := M) (M36 := M) (M37 := M) (M38 := M) (M39 := M) (M40 := M) (M41 := M) (x103 := 0) (x104 := 0) (x105 := 0) (x110 := 0) (x111 := 0) (x112 := 0) (x117 := 0) (x118 := 0) (x119 := 0) (x124 := 0) (x125 := 0) (x126 := 0) (x131 := 0) (x132 := 0) (x133 := 0) (x138 := 0) (x139 := 0) (x142 := 0) (x143 := 0) (x144 := 0) (x149 := 0) (x150 := 0) (x151 := 0) (x156 := k) (x157 := b) (x158 := k) (x163 := 0) (x164 := 0) (x165 := 0) (x170 := 0) (x171 := 0) (x172 := 0) (x177 := 0) (x178 := 0) (x179 := 0) (x184 := 0) (x185 := 0) (x186 := 0) (x191 := 0) (x192 := 0) (x193 := 0) hS
  case k1 => intro q; exact absurd q hend
  case b2 => intro _; exact in_n (by omega) (by omega)
  case b88 => intros; rw [show nI i + 1 = nI (i + 1) from nI_add i 1]; exact in_n (by omega) (by omega)
  case b89 => intros; rw [show nI i + 2 = nI (i + 2) from nI_add i 2]; exact in_n (by omega) (by omega)
  case b95 => intros; exact v01
  case c90 => intros; exact h1
  case h91 => intros; exact h2
  case c92 => intros; exact h3
  case c93 => intros; exact hth
  case k94 => intros; rw [e6]; exact hE.fg ⟨Or.inr rfl, Or.inr rfl, Or.inr rfl, Or.inr rfl, Or.inr rfl, Or.inl rfl, Or.inl rfl, Or.inr rfl, trivial⟩
  case k96 => intros; rw [e6]; exact hE.fg ⟨Or.inr rfl, Or.inr rfl, Or.inr rfl, Or.inr rfl, Or.inr rfl, Or.inl rfl, Or.inl rfl, Or.inr rfl, trivial⟩
  case k97 => intro _ _ _ _ _ _ _ _ _ _ _ q1 q2; rw [z0c] at q2; exact absurd (h5 q1) q2
  case k98 => intro _ _ _ _ _ _ _ _ _ _ q; exact absurd rfl q
  all_goals (clear h h1 h2 h3 h4 h5 h6 h7 hE hS hth e6; intros; exfalso; simp only [lt32, le32, eq32, lt64, le64, eq64, Int32.reduceToInt, Int64.reduceToInt] at *; omega)
theorem w_9 {X : Sc} {i : Nat} {M : AM} (hN : X.1 ≤ 3072) (hi : i + 6 ≤ X.1) (h : GRel M) (e : (X.2 (nI i).toNatClampNeg &&& 15) = 9) : ∃ M2, GRel M2 ∧ Rmm M M2 ∧ ∀ {fin : Fin'}, TX X K_L_law 23 (LW (i + 6)) [] M2 fin → TX X K_L_law 23 (LW i) [] M fin := by
  obtain ⟨M1, k, M2, b, h1, h2, h3, h4, h5, h6, h7⟩ := L_bound h (X.2 (nI i + 1).toNatClampNeg) (X.2 (nI i + 2).toNatClampNeg)
  refine ⟨M2, h6, h7, fun {fin} hE => ?_⟩
  have hS := h.st
  have hth := v_thrown h6.st
  rw [h4] at hth
  have e6 : nI i + 6 = nI (i + 6) := nI_add i 6
  have hend : ¬ ((Int32.ofNat X.1) - 6) < nI i := by
    show ¬ (nI X.1 - nI 6) < nI i
    rw [nI_sub (by omega), nlt (by omega) (by omega)]; omega
  apply s_L_law_23 (M1 := M) (M2 := M) (M3 := M) (M4 := M) (M5 := M) (M6 := M) (M7 := M) (M8 := M) (M9 := M) (M10 := M) (M11 := M) (M12 := M) (M13 := M) (M14 := M) (M15 := M) (M16 := M) (M17 := M) (M18 := M) (M19 := M) (M20 := M) (M21 := M) (M22 := M) (M23 := M) (M24 := M) (M25 := M) (M26 := M) (M27 := M1) (M28 := M2) (M29 := M2) (M30 := M) (M31 := M) (M32 := M) (M33 := M) (M34 := M) (M35 := M) (M36 := M) (M37 := M) (M38 := M) (M39 := M) (M40 := M) (M41 := M) (x103 := 0) (x104 := 0) (x105 := 0) (x110 := 0) (x111 := 0) (x112 := 0) (x117 := 0) (x118 := 0) (x119 := 0) (x124 := 0) (x125 := 0) (x126 := 0) (x131 := 0) (x132 := 0) (x133 := 0) (x138 := 0) (x139 := 0) (x142 := 0) (x143 := 0) (x144 := 0) (x149 := 0) (x150 := 0) (x151 := 0) (x156 := 0) (x157 := 0) (x158 := 0) (x163 := k) (x164 := b) (x165 := k) (x170 := 0) (x171 := 0) (x172 := 0) (x177 := 0) (x178 := 0) (x179 := 0) (x184 := 0) (x185 := 0) (x186 := 0) (x191 := 0) (x192 := 0) (x193 := 0) hS
  case k1 => intro q; exact absurd q hend
  case b2 => intro _; exact in_n (by omega) (by omega)
  case b99 => intros; rw [show nI i + 1 = nI (i + 1) from nI_add i 1]; exact in_n (by omega) (by omega)
  case b100 => intros; rw [show nI i + 2 = nI (i + 2) from nI_add i 2]; exact in_n (by omega) (by omega)
  case b106 => intros; exact v01
  case c101 => intros; exact h1
  case h102 => intros; exact h2
  case c103 => intros; exact h3
  case c104 => intros; exact hth
  case k105 => intros; rw [e6]; exact hE.fg ⟨Or.inr rfl, Or.inr rfl, Or.inr rfl, Or.inr rfl, Or.inr rfl, Or.inl rfl, Or.inl rfl, Or.inr rfl, trivial⟩
  case k107 => intros; rw [e6]; exact hE.fg ⟨Or.inr rfl, Or.inr rfl, Or.inr rfl, Or.inr rfl, Or.inr rfl, Or.inl rfl, Or.inl rfl, Or.inr rfl, trivial⟩
  case k108 => intro _ _ _ _ _ _ _ _ _ _ _ _ q1 q2; rw [z0c] at q2; exact absurd (h5 q1) q2
  case k109 => intro _ _ _ _ _ _ _ _ _ _ _ q; exact absurd rfl q
  all_goals (clear h h1 h2 h3 h4 h5 h6 h7 hE hS hth e6; intros; exfalso; simp only [lt32, le32, eq32, lt64, le64, eq64, Int32.reduceToInt, Int64.reduceToInt] at *; omega)
theorem w_10 {X : Sc} {i : Nat} {M : AM} (hN : X.1 ≤ 3072) (hi : i + 6 ≤ X.1) (h : GRel M) (e : (X.2 (nI i).toNatClampNeg &&& 15) = 10) : ∃ M2, GRel M2 ∧ Rmm M M2 ∧ ∀ {fin : Fin'}, TX X K_L_law 23 (LW (i + 6)) [] M2 fin → TX X K_L_law 23 (LW i) [] M fin := by
  obtain ⟨M1, k, M2, b, h1, h2, h3, h4, h5, h6, h7⟩ := L_argument h ((((X.2 (nI i + 1).toNatClampNeg : Int32).toInt64) <<< ((32 : Int32).toInt64 &&& 63)) ||| (((X.2 (nI i + 2).toNatClampNeg : Int32).toInt64) &&& 4294967295))
  refine ⟨M2, h6, h7, fun {fin} hE => ?_⟩
  have hS := h.st
  have hth := v_thrown h6.st
  rw [h4] at hth
  have e6 : nI i + 6 = nI (i + 6) := nI_add i 6
  have hend : ¬ ((Int32.ofNat X.1) - 6) < nI i := by
    show ¬ (nI X.1 - nI 6) < nI i
    rw [nI_sub (by omega), nlt (by omega) (by omega)]; omega
  apply s_L_law_23 (M1 := M) (M2 := M) (M3 := M) (M4 := M) (M5 := M) (M6 := M) (M7 := M) (M8 := M) (M9 := M) (M10 := M) (M11 := M) (M12 := M) (M13 := M) (M14 := M) (M15 := M) (M16 := M) (M17 := M) (M18 := M) (M19 := M) (M20 := M) (M21 := M) (M22 := M) (M23 := M) (M24 := M) (M25 := M) (M26 := M) (M27 := M) (M28 := M) (M29 := M) (M30 := M1) (M31 := M2) (M32 := M2) (M33 := M) (M34 := M) (M35 := M) (M36 := M) (M37 := M) (M38 := M) (M39 := M) (M40 := M) (M41 := M) (x103 := 0) (x104 := 0) (x105 := 0) (x110 := 0) (x111 := 0) (x112 := 0) (x117 := 0) (x118 := 0) (x119 := 0) (x124 := 0) (x125 := 0) (x126 := 0) (x131 := 0) (x132 := 0) (x133 := 0) (x138 := 0) (x139 := 0) (x142 := 0) (x143 := 0) (x144 := 0) (x149 := 0) (x150 := 0) (x151 := 0) (x156 := 0) (x157 := 0) (x158 := 0) (x163 := 0) (x164 := 0) (x165 := 0) (x170 := k) (x171 := b) (x172 := k) (x177 := 0) (x178 := 0) (x179 := 0) (x184 := 0) (x185 := 0) (x186 := 0) (x191 := 0) (x192 := 0) (x193 := 0) hS
  case k1 => intro q; exact absurd q hend
  case b2 => intro _; exact in_n (by omega) (by omega)
  case b110 => intros; rw [show nI i + 1 = nI (i + 1) from nI_add i 1]; exact in_n (by omega) (by omega)
  case b111 => intros; rw [show nI i + 2 = nI (i + 2) from nI_add i 2]; exact in_n (by omega) (by omega)
  case b117 => intros; exact v01
  case c112 => intros; exact h1
  case h113 => intros; exact h2
  case c114 => intros; exact h3
  case c115 => intros; exact hth
  case k116 => intros; rw [e6]; exact hE.fg ⟨Or.inr rfl, Or.inr rfl, Or.inr rfl, Or.inr rfl, Or.inr rfl, Or.inl rfl, Or.inl rfl, Or.inr rfl, trivial⟩
  case k118 => intros; rw [e6]; exact hE.fg ⟨Or.inr rfl, Or.inr rfl, Or.inr rfl, Or.inr rfl, Or.inr rfl, Or.inl rfl, Or.inl rfl, Or.inr rfl, trivial⟩
  case k119 => intro _ _ _ _ _ _ _ _ _ _ _ _ _ q1 q2; rw [z0c] at q2; exact absurd (h5 q1) q2
  case k120 => intro _ _ _ _ _ _ _ _ _ _ _ _ q; exact absurd rfl q
  all_goals (clear h h1 h2 h3 h4 h5 h6 h7 hE hS hth e6; intros; exfalso; simp only [lt32, le32, eq32, lt64, le64, eq64, Int32.reduceToInt, Int64.reduceToInt] at *; omega)
theorem w_11 {X : Sc} {i : Nat} {M : AM} (hN : X.1 ≤ 3072) (hi : i + 6 ≤ X.1) (h : GRel M) (e : (X.2 (nI i).toNatClampNeg &&& 15) = 11) : ∃ M2, GRel M2 ∧ Rmm M M2 ∧ ∀ {fin : Fin'}, TX X K_L_law 23 (LW (i + 6)) [] M2 fin → TX X K_L_law 23 (LW i) [] M fin := by
  obtain ⟨M1, k, M2, b, h1, h2, h3, h4, h5, h6, h7⟩ := L_run h (X.2 (nI i + 1).toNatClampNeg) (X.2 (nI i + 2).toNatClampNeg)
  refine ⟨M2, h6, h7, fun {fin} hE => ?_⟩
  have hS := h.st
  have hth := v_thrown h6.st
  rw [h4] at hth
  have e6 : nI i + 6 = nI (i + 6) := nI_add i 6
  have hend : ¬ ((Int32.ofNat X.1) - 6) < nI i := by
    show ¬ (nI X.1 - nI 6) < nI i
    rw [nI_sub (by omega), nlt (by omega) (by omega)]; omega
  apply s_L_law_23 (M1 := M) (M2 := M) (M3 := M) (M4 := M) (M5 := M) (M6 := M) (M7 := M) (M8 := M) (M9 := M) (M10 := M) (M11 := M) (M12 := M) (M13 := M) (M14 := M) (M15 := M) (M16 := M) (M17 := M) (M18 := M) (M19 := M) (M20 := M) (M21 := M) (M22 := M) (M23 := M) (M24 := M) (M25 := M) (M26 := M) (M27 := M) (M28 := M) (M29 := M) (M30 := M) (M31 := M) (M32 := M) (M33 := M1) (M34 := M2) (M35 := M2) (M36 := M) (M37 := M) (M38 := M) (M39 := M) (M40 := M) (M41 := M) (x103 := 0) (x104 := 0) (x105 := 0) (x110 := 0) (x111 := 0) (x112 := 0) (x117 := 0) (x118 := 0) (x119 := 0) (x124 := 0) (x125 := 0) (x126 := 0) (x131 := 0) (x132 := 0) (x133 := 0) (x138 := 0) (x139 := 0) (x142 := 0) (x143 := 0) (x144 := 0) (x149 := 0) (x150 := 0) (x151 := 0) (x156 := 0) (x157 := 0) (x158 := 0) (x163 := 0) (x164 := 0) (x165 := 0) (x170 := 0) (x171 := 0) (x172 := 0) (x177 := k) (x178 := b) (x179 := k) (x184 := 0) (x185 := 0) (x186 := 0) (x191 := 0) (x192 := 0) (x193 := 0) hS
  case k1 => intro q; exact absurd q hend
  case b2 => intro _; exact in_n (by omega) (by omega)
  case b121 => intros; rw [show nI i + 1 = nI (i + 1) from nI_add i 1]; exact in_n (by omega) (by omega)
  case b122 => intros; rw [show nI i + 2 = nI (i + 2) from nI_add i 2]; exact in_n (by omega) (by omega)
  case b128 => intros; exact v01
  case c123 => intros; exact h1
  case h124 => intros; exact h2
  case c125 => intros; exact h3
  case c126 => intros; exact hth
  case k127 => intros; rw [e6]; exact hE.fg ⟨Or.inr rfl, Or.inr rfl, Or.inr rfl, Or.inr rfl, Or.inr rfl, Or.inl rfl, Or.inl rfl, Or.inr rfl, trivial⟩
  case k129 => intros; rw [e6]; exact hE.fg ⟨Or.inr rfl, Or.inr rfl, Or.inr rfl, Or.inr rfl, Or.inr rfl, Or.inl rfl, Or.inl rfl, Or.inr rfl, trivial⟩
  case k130 => intro _ _ _ _ _ _ _ _ _ _ _ _ _ _ q1 q2; rw [z0c] at q2; exact absurd (h5 q1) q2
  case k131 => intro _ _ _ _ _ _ _ _ _ _ _ _ _ q; exact absurd rfl q
  all_goals (clear h h1 h2 h3 h4 h5 h6 h7 hE hS hth e6; intros; exfalso; simp only [lt32, le32, eq32, lt64, le64, eq64, Int32.reduceToInt, Int64.reduceToInt] at *; omega)
theorem w_12 {X : Sc} {i : Nat} {M : AM} (hN : X.1 ≤ 3072) (hi : i + 6 ≤ X.1) (h : GRel M) (e : (X.2 (nI i).toNatClampNeg &&& 15) = 12) : ∃ M2, GRel M2 ∧ Rmm M M2 ∧ ∀ {fin : Fin'}, TX X K_L_law 23 (LW (i + 6)) [] M2 fin → TX X K_L_law 23 (LW i) [] M fin := by
  obtain ⟨M1, k, M2, b, h1, h2, h3, h4, h5, h6, h7⟩ := L_ran h (X.2 (nI i + 1).toNatClampNeg)
  refine ⟨M2, h6, h7, fun {fin} hE => ?_⟩
  have hS := h.st
  have hth := v_thrown h6.st
  rw [h4] at hth
  have e6 : nI i + 6 = nI (i + 6) := nI_add i 6
  have hend : ¬ ((Int32.ofNat X.1) - 6) < nI i := by
    show ¬ (nI X.1 - nI 6) < nI i
    rw [nI_sub (by omega), nlt (by omega) (by omega)]; omega
  apply s_L_law_23 (M1 := M) (M2 := M) (M3 := M) (M4 := M) (M5 := M) (M6 := M) (M7 := M) (M8 := M) (M9 := M) (M10 := M) (M11 := M) (M12 := M) (M13 := M) (M14 := M) (M15 := M) (M16 := M) (M17 := M) (M18 := M) (M19 := M) (M20 := M) (M21 := M) (M22 := M) (M23 := M) (M24 := M) (M25 := M) (M26 := M) (M27 := M) (M28 := M) (M29 := M) (M30 := M) (M31 := M) (M32 := M) (M33 := M) (M34 := M) (M35 := M) (M36 := M1) (M37 := M2) (M38 := M2) (M39 := M) (M40 := M) (M41 := M) (x103 := 0) (x104 := 0) (x105 := 0) (x110 := 0) (x111 := 0) (x112 := 0) (x117 := 0) (x118 := 0) (x119 := 0) (x124 := 0) (x125 := 0) (x126 := 0) (x131 := 0) (x132 := 0) (x133 := 0) (x138 := 0) (x139 := 0) (x142 := 0) (x143 := 0) (x144 := 0) (x149 := 0) (x150 := 0) (x151 := 0) (x156 := 0) (x157 := 0) (x158 := 0) (x163 := 0) (x164 := 0) (x165 := 0) (x170 := 0) (x171 := 0) (x172 := 0) (x177 := 0) (x178 := 0) (x179 := 0) (x184 := k) (x185 := b) (x186 := k) (x191 := 0) (x192 := 0) (x193 := 0) hS
  case k1 => intro q; exact absurd q hend
  case b2 => intro _; exact in_n (by omega) (by omega)
  case b132 => intros; rw [show nI i + 1 = nI (i + 1) from nI_add i 1]; exact in_n (by omega) (by omega)
  case b138 => intros; exact v01
  case c133 => intros; exact h1
  case h134 => intros; exact h2
  case c135 => intros; exact h3
  case c136 => intros; exact hth
  case k137 => intros; rw [e6]; exact hE.fg ⟨Or.inr rfl, Or.inr rfl, Or.inr rfl, Or.inr rfl, Or.inr rfl, Or.inl rfl, Or.inl rfl, Or.inr rfl, trivial⟩
  case k139 => intros; rw [e6]; exact hE.fg ⟨Or.inr rfl, Or.inr rfl, Or.inr rfl, Or.inr rfl, Or.inr rfl, Or.inl rfl, Or.inl rfl, Or.inr rfl, trivial⟩
  case k140 => intro _ _ _ _ _ _ _ _ _ _ _ _ _ _ _ q1 q2; rw [z0c] at q2; exact absurd (h5 q1) q2
  case k141 => intro _ _ _ _ _ _ _ _ _ _ _ _ _ _ q; exact absurd rfl q
  all_goals (clear h h1 h2 h3 h4 h5 h6 h7 hE hS hth e6; intros; exfalso; simp only [lt32, le32, eq32, lt64, le64, eq64, Int32.reduceToInt, Int64.reduceToInt] at *; omega)
theorem w_13 {X : Sc} {i : Nat} {M : AM} (hN : X.1 ≤ 3072) (hi : i + 6 ≤ X.1) (h : GRel M) (e : (X.2 (nI i).toNatClampNeg &&& 15) = 13) : ∃ M2, GRel M2 ∧ Rmm M M2 ∧ ∀ {fin : Fin'}, TX X K_L_law 23 (LW (i + 6)) [] M2 fin → TX X K_L_law 23 (LW i) [] M fin := by
  obtain ⟨M1, k, M2, b, h1, h2, h3, h4, h5, h6, h7⟩ := L_about h (X.2 (nI i + 1).toNatClampNeg) (X.2 (nI i + 2).toNatClampNeg)
  refine ⟨M2, h6, h7, fun {fin} hE => ?_⟩
  have hS := h.st
  have hth := v_thrown h6.st
  rw [h4] at hth
  have e6 : nI i + 6 = nI (i + 6) := nI_add i 6
  have hend : ¬ ((Int32.ofNat X.1) - 6) < nI i := by
    show ¬ (nI X.1 - nI 6) < nI i
    rw [nI_sub (by omega), nlt (by omega) (by omega)]; omega
  apply s_L_law_23 (M1 := M) (M2 := M) (M3 := M) (M4 := M) (M5 := M) (M6 := M) (M7 := M) (M8 := M) (M9 := M) (M10 := M) (M11 := M) (M12 := M) (M13 := M) (M14 := M) (M15 := M) (M16 := M) (M17 := M) (M18 := M) (M19 := M) (M20 := M) (M21 := M) (M22 := M) (M23 := M) (M24 := M) (M25 := M) (M26 := M) (M27 := M) (M28 := M) (M29 := M) (M30 := M) (M31 := M) (M32 := M) (M33 := M) (M34 := M) (M35 := M) (M36 := M) (M37 := M) (M38 := M) (M39 := M1) (M40 := M2) (M41 := M2) (x103 := 0) (x104 := 0) (x105 := 0) (x110 := 0) (x111 := 0) (x112 := 0) (x117 := 0) (x118 := 0) (x119 := 0) (x124 := 0) (x125 := 0) (x126 := 0) (x131 := 0) (x132 := 0) (x133 := 0) (x138 := 0) (x139 := 0) (x142 := 0) (x143 := 0) (x144 := 0) (x149 := 0) (x150 := 0) (x151 := 0) (x156 := 0) (x157 := 0) (x158 := 0) (x163 := 0) (x164 := 0) (x165 := 0) (x170 := 0) (x171 := 0) (x172 := 0) (x177 := 0) (x178 := 0) (x179 := 0) (x184 := 0) (x185 := 0) (x186 := 0) (x191 := k) (x192 := b) (x193 := k) hS
  case k1 => intro q; exact absurd q hend
  case b2 => intro _; exact in_n (by omega) (by omega)
  case b142 => intros; rw [show nI i + 1 = nI (i + 1) from nI_add i 1]; exact in_n (by omega) (by omega)
  case b143 => intros; rw [show nI i + 2 = nI (i + 2) from nI_add i 2]; exact in_n (by omega) (by omega)
  case b149 => intros; exact v01
  case c144 => intros; exact h1
  case h145 => intros; exact h2
  case c146 => intros; exact h3
  case c147 => intros; exact hth
  case k148 => intros; rw [e6]; exact hE.fg ⟨Or.inr rfl, Or.inr rfl, Or.inr rfl, Or.inr rfl, Or.inr rfl, Or.inl rfl, Or.inl rfl, Or.inr rfl, trivial⟩
  case k150 => intros; rw [e6]; exact hE.fg ⟨Or.inr rfl, Or.inr rfl, Or.inr rfl, Or.inr rfl, Or.inr rfl, Or.inl rfl, Or.inl rfl, Or.inr rfl, trivial⟩
  case k151 => intro _ _ _ _ _ _ _ _ _ _ _ _ _ _ _ _ q1 q2; rw [z0c] at q2; exact absurd (h5 q1) q2
  case k152 => intro _ _ _ _ _ _ _ _ _ _ _ _ _ _ _ q; exact absurd rfl q
  all_goals (clear h h1 h2 h3 h4 h5 h6 h7 hE hS hth e6; intros; exfalso; simp only [lt32, le32, eq32, lt64, le64, eq64, Int32.reduceToInt, Int64.reduceToInt] at *; omega)
theorem w_d {X : Sc} {i : Nat} {M : AM} {fin : Fin'} (hN : X.1 ≤ 3072) (hi : i + 6 ≤ X.1) (h : GRel M) (e : ∀ c : Nat, c ≤ 13 → (X.2 (nI i).toNatClampNeg &&& 15) ≠ nI c) : TX X K_L_law 23 (LW (i + 6)) [] M fin → TX X K_L_law 23 (LW i) [] M fin := by
  intro hE
  have hS := h.st
  have e6 : nI i + 6 = nI (i + 6) := nI_add i 6
  have hend : ¬ ((Int32.ofNat X.1) - 6) < nI i := by
    show ¬ (nI X.1 - nI 6) < nI i
    rw [nI_sub (by omega), nlt (by omega) (by omega)]; omega
  have d0 : ¬ (X.2 (nI i).toNatClampNeg &&& 15) = 0 := e 0 (by omega)
  have d1 : ¬ (X.2 (nI i).toNatClampNeg &&& 15) = 1 := e 1 (by omega)
  have d2 : ¬ (X.2 (nI i).toNatClampNeg &&& 15) = 2 := e 2 (by omega)
  have d3 : ¬ (X.2 (nI i).toNatClampNeg &&& 15) = 3 := e 3 (by omega)
  have d4 : ¬ (X.2 (nI i).toNatClampNeg &&& 15) = 4 := e 4 (by omega)
  have d5 : ¬ (X.2 (nI i).toNatClampNeg &&& 15) = 5 := e 5 (by omega)
  have d6 : ¬ (X.2 (nI i).toNatClampNeg &&& 15) = 6 := e 6 (by omega)
  have d7 : ¬ (X.2 (nI i).toNatClampNeg &&& 15) = 7 := e 7 (by omega)
  have d8 : ¬ (X.2 (nI i).toNatClampNeg &&& 15) = 8 := e 8 (by omega)
  have d9 : ¬ (X.2 (nI i).toNatClampNeg &&& 15) = 9 := e 9 (by omega)
  have d10 : ¬ (X.2 (nI i).toNatClampNeg &&& 15) = 10 := e 10 (by omega)
  have d11 : ¬ (X.2 (nI i).toNatClampNeg &&& 15) = 11 := e 11 (by omega)
  have d12 : ¬ (X.2 (nI i).toNatClampNeg &&& 15) = 12 := e 12 (by omega)
  have d13 : ¬ (X.2 (nI i).toNatClampNeg &&& 15) = 13 := e 13 (by omega)
  apply s_L_law_23 (M1 := M) (M2 := M) (M3 := M) (M4 := M) (M5 := M) (M6 := M) (M7 := M) (M8 := M) (M9 := M) (M10 := M) (M11 := M) (M12 := M) (M13 := M) (M14 := M) (M15 := M) (M16 := M) (M17 := M) (M18 := M) (M19 := M) (M20 := M) (M21 := M) (M22 := M) (M23 := M) (M24 := M) (M25 := M) (M26 := M) (M27 := M) (M28 := M) (M29 := M) (M30 := M) (M31 := M) (M32 := M) (M33 := M) (M34 := M) (M35 := M) (M36 := M) (M37 := M) (M38 := M) (M39 := M) (M40 := M) (M41 := M) (x103 := 0) (x104 := 0) (x105 := 0) (x110 := 0) (x111 := 0) (x112 := 0) (x117 := 0) (x118 := 0) (x119 := 0) (x124 := 0) (x125 := 0) (x126 := 0) (x131 := 0) (x132 := 0) (x133 := 0) (x138 := 0) (x139 := 0) (x142 := 0) (x143 := 0) (x144 := 0) (x149 := 0) (x150 := 0) (x151 := 0) (x156 := 0) (x157 := 0) (x158 := 0) (x163 := 0) (x164 := 0) (x165 := 0) (x170 := 0) (x171 := 0) (x172 := 0) (x177 := 0) (x178 := 0) (x179 := 0) (x184 := 0) (x185 := 0) (x186 := 0) (x191 := 0) (x192 := 0) (x193 := 0) hS
  case k1 => intro q; exact absurd q hend
  case b2 => intro _; exact in_n (by omega) (by omega)
  case k153 => intros; rw [e6]; exact hE
  all_goals (clear h hE hS e6 e; intros; exfalso; contradiction)
theorem l_law {X : Sc} (hN : X.1 ≤ 3072) : ∀ (f i : Nat) (M : AM), X.1 ≤ i + 6 * f + 5 → i ≤ 4000 → GRel M → ∃ Mf, TX X K_L_law 23 (LW i) [] M (.inl (some (aI 1), Mf)) ∧ mN Mf ≤ mN M + 5 * f ∧ mU Mf ≤ mU M + 500 * f := by
  have fin : ∀ (i : Nat) (M : AM), X.1 < i + 6 → i ≤ 4000 → GRel M → TX X K_L_law 23 (LW i) [] M (.inl (some (aI 1), M)) := by
    intro i M hi hi2 h
    have hend : ((Int32.ofNat X.1) - 6) < nI i := by
      show (nI X.1 - nI 6) < nI i
      rw [nI_i (n := X.1) (by omega), nI_i (n := 6) (by omega), nI_i (n := i) (by omega), iI_sub, lt32, iI_t (by omega) (by omega), iI_t (by omega) (by omega)]
      omega
    apply s_L_law_23 (M1 := M) (M2 := M) (M3 := M) (M4 := M) (M5 := M) (M6 := M) (M7 := M) (M8 := M) (M9 := M) (M10 := M) (M11 := M) (M12 := M) (M13 := M) (M14 := M) (M15 := M) (M16 := M) (M17 := M) (M18 := M) (M19 := M) (M20 := M) (M21 := M) (M22 := M) (M23 := M) (M24 := M) (M25 := M) (M26 := M) (M27 := M) (M28 := M) (M29 := M) (M30 := M) (M31 := M) (M32 := M) (M33 := M) (M34 := M) (M35 := M) (M36 := M) (M37 := M) (M38 := M) (M39 := M) (M40 := M) (M41 := M) (x103 := 0) (x104 := 0) (x105 := 0) (x110 := 0) (x111 := 0) (x112 := 0) (x117 := 0) (x118 := 0) (x119 := 0) (x124 := 0) (x125 := 0) (x126 := 0) (x131 := 0) (x132 := 0) (x133 := 0) (x138 := 0) (x139 := 0) (x142 := 0) (x143 := 0) (x144 := 0) (x149 := 0) (x150 := 0) (x151 := 0) (x156 := 0) (x157 := 0) (x158 := 0) (x163 := 0) (x164 := 0) (x165 := 0) (x170 := 0) (x171 := 0) (x172 := 0) (x177 := 0) (x178 := 0) (x179 := 0) (x184 := 0) (x185 := 0) (x186 := 0) (x191 := 0) (x192 := 0) (x193 := 0) h.st
    case k1 => intro _; rfl
    all_goals (intro q; exact absurd hend q)
  intro f
  induction f with
  | zero =>
    intro i M hf hi h
    exact ⟨M, fin i M (by omega) hi h, by omega, by omega⟩
  | succ f ih =>
    intro i M hf hi h
    by_cases he : X.1 < i + 6
    · exact ⟨M, fin i M he hi h, by omega, by omega⟩
    · have go : ∀ M2, GRel M2 → Rmm M M2 → (∀ {fin : Fin'}, TX X K_L_law 23 (LW (i + 6)) [] M2 fin → TX X K_L_law 23 (LW i) [] M fin) → ∃ Mf, TX X K_L_law 23 (LW i) [] M (.inl (some (aI 1), Mf)) ∧ mN Mf ≤ mN M + 5 * (f + 1) ∧ mU Mf ≤ mU M + 500 * (f + 1) := by
        intro M2 g1 g2 g3
        obtain ⟨Mf, k1, k2, k3⟩ := ih (i + 6) M2 (by omega) (by omega) g1
        exact ⟨Mf, g3 k1, by have := g2.1; omega, by have := g2.2; omega⟩
      by_cases d0 : (X.2 (nI i).toNatClampNeg &&& 15) = 0
      · obtain ⟨M2, g1, g2, g3⟩ := w_0 hN (by omega) h d0
        exact go M2 g1 g2 g3
      by_cases d1 : (X.2 (nI i).toNatClampNeg &&& 15) = 1
      · obtain ⟨M2, g1, g2, g3⟩ := w_1 hN (by omega) h d1
        exact go M2 g1 g2 g3
      by_cases d2 : (X.2 (nI i).toNatClampNeg &&& 15) = 2
      · obtain ⟨M2, g1, g2, g3⟩ := w_2 hN (by omega) h d2
        exact go M2 g1 g2 g3
      by_cases d3 : (X.2 (nI i).toNatClampNeg &&& 15) = 3
      · obtain ⟨M2, g1, g2, g3⟩ := w_3 hN (by omega) h d3
        exact go M2 g1 g2 g3
      by_cases d4 : (X.2 (nI i).toNatClampNeg &&& 15) = 4
      · obtain ⟨M2, g1, g2, g3⟩ := w_4 hN (by omega) h d4
        exact go M2 g1 g2 g3
      by_cases d5 : (X.2 (nI i).toNatClampNeg &&& 15) = 5
      · obtain ⟨M2, g1, g2, g3⟩ := w_5 hN (by omega) h d5
        exact go M2 g1 g2 g3
      by_cases d6 : (X.2 (nI i).toNatClampNeg &&& 15) = 6
      · obtain ⟨M2, g1, g2, g3⟩ := w_6 hN (by omega) h d6
        exact go M2 g1 g2 g3
      by_cases d7 : (X.2 (nI i).toNatClampNeg &&& 15) = 7
      · obtain ⟨M2, g1, g2, g3⟩ := w_7 hN (by omega) h d7
        exact go M2 g1 g2 g3
      by_cases d8 : (X.2 (nI i).toNatClampNeg &&& 15) = 8
      · obtain ⟨M2, g1, g2, g3⟩ := w_8 hN (by omega) h d8
        exact go M2 g1 g2 g3
      by_cases d9 : (X.2 (nI i).toNatClampNeg &&& 15) = 9
      · obtain ⟨M2, g1, g2, g3⟩ := w_9 hN (by omega) h d9
        exact go M2 g1 g2 g3
      by_cases d10 : (X.2 (nI i).toNatClampNeg &&& 15) = 10
      · obtain ⟨M2, g1, g2, g3⟩ := w_10 hN (by omega) h d10
        exact go M2 g1 g2 g3
      by_cases d11 : (X.2 (nI i).toNatClampNeg &&& 15) = 11
      · obtain ⟨M2, g1, g2, g3⟩ := w_11 hN (by omega) h d11
        exact go M2 g1 g2 g3
      by_cases d12 : (X.2 (nI i).toNatClampNeg &&& 15) = 12
      · obtain ⟨M2, g1, g2, g3⟩ := w_12 hN (by omega) h d12
        exact go M2 g1 g2 g3
      by_cases d13 : (X.2 (nI i).toNatClampNeg &&& 15) = 13
      · obtain ⟨M2, g1, g2, g3⟩ := w_13 hN (by omega) h d13
        exact go M2 g1 g2 g3
      refine go M h (Rmm.same rfl) (w_d hN (by omega) h (fun c hc z => ?_))
      rcases (by omega : c = 0 ∨ c = 1 ∨ c = 2 ∨ c = 3 ∨ c = 4 ∨ c = 5 ∨ c = 6 ∨ c = 7 ∨ c = 8 ∨ c = 9 ∨ c = 10 ∨ c = 11 ∨ c = 12 ∨ c = 13) with q | q | q | q | q | q | q | q | q | q | q | q | q | q
      · subst q; exact d0 z
      · subst q; exact d1 z
      · subst q; exact d2 z
      · subst q; exact d3 z
      · subst q; exact d4 z
      · subst q; exact d5 z
      · subst q; exact d6 z
      · subst q; exact d7 z
      · subst q; exact d8 z
      · subst q; exact d9 z
      · subst q; exact d10 z
      · subst q; exact d11 z
      · subst q; exact d12 z
      · subst q; exact d13 z
