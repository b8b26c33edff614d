/-! ===== PURE: the RUN of both ===== -/
section RUN
variable {P : PG} {mr : Nat → Nat} {ct : Nat → Nat}
abbrev LM (x1 lim x3 x4 : Int32) : LVs := [some (aR (some 26)), some (aI x1), some (aI lim), some (aI x3), some (aI x4), none, none]
theorem h_end {M : AM} {x1 lim x3 x4 : Int32} (hS : St M) (h : mI M 26 34 = 0) : E K_X7_run 147 (LM x1 lim x3 x4) [] M (some (aI 1)) M := by
  have h0 : mI M 26 34 ≤ 0 := by rw [h]; decide
  apply s_X7_run_147 (M1 := M) (M2 := M) (M3 := M) (M4 := M) hS
  case k1 => intro _; exact ⟨rfl, rfl⟩
  all_goals (intro g; exact absurd h0 g)
theorem MSTP.hd {M : AM} {F : Fr} {r : List Fr} {q : QQ} (H : MSTP P ct M F r q) : ¬ mI M 26 34 ≤ 0 ∧ vp_in (mI M 26 34 - 1) 100 ∧ mI M 51 (mI M 26 34 - 1).toNatClampNeg = nI (Fj F) ∧ mI M 52 (mI M 26 34 - 1).toNatClampNeg = nI (Fi F) ∧ (mI M 26 34 = 100 ↔ r.length = 99) := by
  obtain ⟨⟨hS, hA, hT, hm, hmo, hO, hl, hw⟩, hct, hq, hc⟩ := H
  have f := frm1 hT.1
  have c := cl_n (n := r.length) (by omega)
  refine ⟨?_, ?_, ?_, ?_, ?_⟩
  · rw [hT.1, le32, ci _ (by omega)]; have : (0 : Int32).toInt = 0 := rfl; omega
  · rw [f]; exact in_n hl (by omega)
  · rw [f, c]; exact hT.2.2.1.1
  · rw [f, c]; exact hT.2.2.1.2.1
  · rw [hT.1, eq32, ci _ (by omega)]; have : (100 : Int32).toInt = 100 := rfl; omega
theorem h_lim {M : AM} {F : Fr} {r : List Fr} {q : QQ} {x1 lim x3 x4 : Int32} (H : MSTP P ct M F r q) (h : nI q.2.2.2.1 = lim) : E K_X7_run 147 (LM x1 lim x3 x4) [] M (some (aI 2)) M := by
  obtain ⟨d1, d2, d3, d4, d5⟩ := H.hd
  have h39 : mI M 26 39 = lim := H.2.2.1.2.2.2.1.trans h
  apply s_X7_run_147 (M1 := M) (M2 := M) (M3 := M) (M4 := M) H.1.1
  case k20 => intro _ _; exact ⟨rfl, rfl⟩
  case k1 => intro g; exact absurd g d1
  case b2 => intro _; exact d2
  all_goals (intro _ g; exact absurd h39 g)
theorem h_ref {M : AM} {F : Fr} {r : List Fr} {q : QQ} {x1 lim x3 x4 : Int32} (H : MSTP P ct M F r q) (h : nI q.2.2.2.1 ≠ lim) (h16 : po P (Fj F) (Fi F) = 16) (hca : 0 ≤ pa P (Fj F) (Fi F) ∧ pa P (Fj F) (Fi F) < pc P) :
    (¬ Sd (DP P (pa P (Fj F) (Fi F)).toNat) → E K_X7_run 147 (LM x1 lim x3 x4) [] M (some (aI 4)) M) ∧ (Sd (DP P (pa P (Fj F) (Fi F)).toNat) → r.length = 99 → E K_X7_run 147 (LM x1 lim x3 x4) [] M (some (aI 3)) M) := by
  obtain ⟨d1, d2, d3, d4, d5⟩ := H.hd
  obtain ⟨p1, p2, p3, p4, p5, p6, p7, p8, p9, p10, p11, p12, p13⟩ := H.1.pre
  have h39 : ¬ mI M 26 39 = lim := by rw [H.2.2.1.2.2.2.1]; exact h
  have eo : mI M 31 (120 * Fj F + Fi F) = 16 := by rw [eq32, p7, h16]; rfl
  have hpc := H.1.2.1.1.2.1
  have e32 : (mJ M 32 (120 * Fj F + Fi F)).toInt32 = nI (pa P (Fj F) (Fi F)).toNat := by rw [x_l (by omega) (by omega), p8]
  have hc : (pa P (Fj F) (Fi F)).toNat < pc P := by omega
  have e38 := (H.1.2.1.2 _ hc).1
  have hr8 := chk_r (DP P (pa P (Fj F) (Fi F)).toNat)
  have t38 := iI_t (k := (chk (DP P (pa P (Fj F) (Fi F)).toNat)).1) (by omega) (by omega)
  have c38 := cl_n (n := (pa P (Fj F) (Fi F)).toNat) (by omega)
  have z0 : (0 : Int32).toInt = 0 := rfl
  refine ⟨fun hn => ?_, fun hn h99 => ?_⟩
  · have hs : ¬ mI M 38 (pa P (Fj F) (Fi F)).toNat ≤ 0 := by
      rw [e38, le32, t38]
      have : ¬ (chk (DP P (pa P (Fj F) (Fi F)).toNat)).1 = 0 := hn
      omega
    apply s_X7_run_147 (M1 := M) (M2 := M) (M3 := M) (M4 := M) H.1.1
    case k19 => intros; exact ⟨rfl, rfl⟩
    case k1 => intro g; exact absurd g d1
    case b2 => intro _; exact d2
    case b3 => intros; rw [d3, d4]; exact p1
    case b11 => intros; rw [d3, d4, p2, e32]; exact in_n (by omega) (by omega)
    case k20 => intro _ g; exact absurd g h39
    case b12 => intro _ _ _ g; rw [d3, d4, p2, e32, c38] at g; exact absurd g hs
    case c13 => intro _ _ _ g; rw [d3, d4, p2, e32, c38] at g; exact absurd g hs
    case k14 => intro _ _ _ g; rw [d3, d4, p2, e32, c38] at g; exact absurd g hs
    case b15 => intro _ _ _ g; rw [d3, d4, p2, e32, c38] at g; exact absurd g hs
    case c16 => intro _ _ _ g; rw [d3, d4, p2, e32, c38] at g; exact absurd g hs
    case k17 => intro _ _ _ g; rw [d3, d4, p2, e32, c38] at g; exact absurd g hs
    case k18 => intro _ _ _ g; rw [d3, d4, p2, e32, c38] at g; exact absurd g hs
    all_goals (intro _ _ g; rw [d3, d4, p2] at g; exact absurd eo g)
  · have hs : mI M 38 (pa P (Fj F) (Fi F)).toNat ≤ 0 := by
      rw [e38, le32, t38]
      have : (chk (DP P (pa P (Fj F) (Fi F)).toNat)).1 = 0 := hn
      omega
    have h100 := d5.mpr h99
    apply s_X7_run_147 (M1 := M) (M2 := M) (M3 := M) (M4 := M) H.1.1
    case k18 => intros; exact ⟨rfl, rfl⟩
    case k1 => intro g; exact absurd g d1
    case b2 => intro _; exact d2
    case b3 => intros; rw [d3, d4]; exact p1
    case b11 => intros; rw [d3, d4, p2, e32]; exact in_n (by omega) (by omega)
    case k20 => intro _ g; exact absurd g h39
    case k19 => intro _ _ _ g; rw [d3, d4, p2, e32, c38] at g; exact absurd hs g
    case b12 => intro _ _ _ _ g; rw [d3, d4, p2] at g; exact absurd eo g
    case c13 => intro _ _ _ _ g; rw [d3, d4, p2] at g; exact absurd eo g
    case k14 => intro _ _ _ _ g; rw [d3, d4, p2] at g; exact absurd eo g
    case b15 => intro _ _ _ _ _ g; exact absurd h100 g
    case c16 => intro _ _ _ _ _ g; exact absurd h100 g
    case k17 => intro _ _ _ _ _ g; exact absurd h100 g
    all_goals (intro _ _ g; rw [d3, d4, p2] at g; exact absurd eo g)
/-- a step is done, and on -/
theorem h_go {M M1 M' : AM} {v : Option AV} {F : Fr} {r : List Fr} {q : QQ} {x1 lim x3 x4 : Int32} (H : MSTP P ct M F r q) (h : nI q.2.2.2.1 ≠ lim) (hc : po P (Fj F) (Fi F) = 16 → 0 ≤ pa P (Fj F) (Fi F) ∧ pa P (Fj F) (Fi F) < pc P ∧ Sd (DP P (pa P (Fj F) (Fi F)).toNat) ∧ r.length < 99)
    (hd : Ev K_X7_doOne [aR (some 26), aI (nI (Fj F)), aI (nI (Fi F))] (Mmc P ct M F q) none M1) (hE : E K_X7_run 147 (LM x1 lim x3 (nI (Fj F))) [] M1 v M') : E K_X7_run 147 (LM x1 lim x3 x4) [] M v M' := by
  obtain ⟨d1, d2, d3, d4, d5⟩ := H.hd
  obtain ⟨p1, p2, p3, p4, p5, p6, p7, p8, p9, p10, p11, p12, p13⟩ := H.1.pre
  have h39 : ¬ mI M 26 39 = lim := by rw [H.2.2.1.2.2.2.1]; exact h
  have hpc := H.1.2.1.1.2.1
  have co : (mI M 31 (120 * Fj F + Fi F)).toNatClampNeg = (po P (Fj F) (Fi F)).toNat := by rw [x_n (x := mI M 31 (120 * Fj F + Fi F)) (by omega), p7, cl_n (by omega)]
  have bo : vp_in (mI M 31 (120 * Fj F + Fi F)) 18 := in_x (by omega) (by omega)
  have eM : wrJ (wrI M 26 39 (mI M 26 39 + 1)) 26 38 (mJ M 26 38 + mJ M 33 (po P (Fj F) (Fi F)).toNat) = Mmc P ct M F q := by
    have hk : (po P (Fj F) (Fi F)).toNat < 18 := by omega
    rw [H.2.2.1.2.2.2.1, H.2.2.1.2.1, H.2.1 _ hk, sJ_ct (H.2.2.2 _ hk), nI_1]
    rfl
  have hE' : E K_X7_run 147 [some (aR (some 26)), some (aI x1), some (aI lim), some (aI x3), some (aI (nI (Fj F))), some (aI (nI (Fi F))), some (aI ((120 : Int32) * nI (Fj F) + nI (Fi F)))] [] M1 v M' := hE.fg ⟨Or.inr rfl, Or.inr rfl, Or.inr rfl, Or.inr rfl, Or.inr rfl, Or.inl rfl, Or.inl rfl, trivial⟩
  by_cases h16 : po P (Fj F) (Fi F) = 16
  · obtain ⟨c1, c2, c3, c4⟩ := hc h16
    have eo : mI M 31 (120 * Fj F + Fi F) = 16 := by rw [eq32, p7, h16]; rfl
    have e32 : (mJ M 32 (120 * Fj F + Fi F)).toInt32 = nI (pa P (Fj F) (Fi F)).toNat := by rw [x_l (by omega) (by omega), p8]
    have hcc : (pa P (Fj F) (Fi F)).toNat < pc P := by omega
    have e38 := (H.1.2.1.2 _ hcc).1
    have c38 := cl_n (n := (pa P (Fj F) (Fi F)).toNat) (by omega)
    have hs : mI M 38 (pa P (Fj F) (Fi F)).toNat ≤ 0 := by
      rw [e38, show (chk (DP P (pa P (Fj F) (Fi F)).toNat)).1 = 0 from c3]
      decide
    have h100 : ¬ mI M 26 34 = 100 := fun z => by have := d5.mp z; omega
    apply s_X7_run_147 (M1 := M) (M2 := M) (M3 := M) (M4 := M1) H.1.1
    case b15 => intros; rw [d3, d4, p2]; exact bo
    case c16 => intros; rw [d3, d4, p2, co, eM]; exact hd
    case k17 => intros; rw [d3, d4]; exact hE'
    case k1 => intro g; exact absurd g d1
    case b2 => intro _; exact d2
    case b3 => intros; rw [d3, d4]; exact p1
    case b11 => intros; rw [d3, d4, p2, e32]; exact in_n (by omega) (by omega)
    case k20 => intro _ g; exact absurd g h39
    case k19 => intro _ _ _ g; rw [d3, d4, p2, e32, c38] at g; exact absurd hs g
    case b12 => intro _ _ _ _ g; rw [d3, d4, p2] at g; exact absurd eo g
    case c13 => intro _ _ _ _ g; rw [d3, d4, p2] at g; exact absurd eo g
    case k14 => intro _ _ _ _ g; rw [d3, d4, p2] at g; exact absurd eo g
    case k18 => intro _ _ _ _ _ g; exact absurd g h100
    all_goals (intro _ _ g; rw [d3, d4, p2] at g; exact absurd eo g)
  · have eo : ¬ mI M 31 (120 * Fj F + Fi F) = 16 := by rw [eq32, p7]; exact h16
    apply s_X7_run_147 (M1 := M1) (M2 := M) (M3 := M) (M4 := M) H.1.1
    case b4 => intros; rw [d3, d4, p2]; exact bo
    case c5 => intros; rw [d3, d4, p2, co, eM]; exact hd
    case k6 => intros; rw [d3, d4]; exact hE'
    case k1 => intro g; exact absurd g d1
    case b2 => intro _; exact d2
    case b3 => intros; rw [d3, d4]; exact p1
    case k20 => intro _ g; exact absurd g h39
    case b7 => intro _ _ _ g; rw [d3, d4, p2] at g; exact absurd g eo
    case c8 => intro _ _ _ g; rw [d3, d4, p2] at g; exact absurd g eo
    case k9 => intro _ _ _ g; rw [d3, d4, p2] at g; exact absurd g eo
    case k10 => intro _ _ _ g; rw [d3, d4, p2] at g; exact absurd g eo
    all_goals (intro _ _ g; rw [d3, d4, p2] at g; exact absurd g eo)
abbrev LC (m : Nat) (lim k : Nat) : LVs := [some (aR (some 18)), some (aR (some m)), some (aR (some 25)), some (aI (nI lim)), some (aI (nI k)), none]
theorem p_go {M M1 M' : AM} {v : Option AV} {m lim k : Nat} (hS : St M) (hM : Mt M m) (hk : k < lim) (hl : lim ≤ 100000) (hd : Ev K_X3_doNext [aR (some 18)] M (some (aI 0)) M1) (hE : E K_X3_perform 55 (LC m lim (k + 1)) [] M1 v M') : E K_X3_perform 55 (LC m lim k) [] M v M' := by
  have hg : ¬ nI lim ≤ nI k := by rw [nle (by omega) (by omega)]; omega
  apply s_X3_perform_55 (M1 := M1) (x102 := 0) hS hM
  case k1 => intro g; exact absurd g hg
  case c2 => intros; exact hd
  case k3 => intros; rw [nI_1]; exact hE.fg ⟨Or.inr rfl, Or.inr rfl, Or.inr rfl, Or.inr rfl, Or.inr rfl, Or.inl rfl, trivial⟩
  case k4 => intro _ g; exact absurd rfl g
theorem p_end {M M1 : AM} {x : Int32} {m lim k : Nat} (hS : St M) (hM : Mt M m) (hk : k < lim) (hl : lim ≤ 100000) (hx : x ≠ 0) (hd : Ev K_X3_doNext [aR (some 18)] M (some (aI x)) M1) : E K_X3_perform 55 (LC m lim k) [] M (some (aI x)) M1 := by
  have hg : ¬ nI lim ≤ nI k := by rw [nle (by omega) (by omega)]; omega
  apply s_X3_perform_55 (M1 := M1) (x102 := x) hS hM
  case k1 => intro g; exact absurd g hg
  case c2 => intros; exact hd
  case k3 => intro _ g; exact absurd g hx
  case k4 => intros; exact ⟨rfl, rfl⟩
theorem p_lim {M : AM} {m lim : Nat} (hS : St M) (hM : Mt M m) (hl : lim ≤ 100000) : E K_X3_perform 55 (LC m lim lim) [] M (some (aI 2)) M := by
  have hg : nI lim ≤ nI lim := (nle (by omega) (by omega)).mpr (Nat.le_refl _)
  apply s_X3_perform_55 (M1 := M) (x102 := 0) hS hM
  case k1 => intros; exact ⟨rfl, rfl⟩
  all_goals (intro g; exact absurd hg g)
end RUN
