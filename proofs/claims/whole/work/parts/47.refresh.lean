/-! ===== PURE: the whole program; refresh ===== -/
abbrev PG : Type := Nat × (Nat → Nat) × (Nat → Nat) × (Nat → Nat) × (Nat → Nat) × (Nat → Nat → Int) × (Nat → Nat → Int)
abbrev pc (P : PG) : Nat := P.1
abbrev pA (P : PG) : Nat → Nat := P.2.1
abbrev pR (P : PG) : Nat → Nat := P.2.2.1
abbrev pL (P : PG) : Nat → Nat := P.2.2.2.1
abbrev pn (P : PG) : Nat → Nat := P.2.2.2.2.1
abbrev po (P : PG) : Nat → Nat → Int := P.2.2.2.2.2.1
abbrev pa (P : PG) : Nat → Nat → Int := P.2.2.2.2.2.2
def DP (P : PG) (j : Nat) : DD := (po P j, pa P j, (pn P j, pL P j, pR P j, pc P), pA P, pR P)
section REF
variable {P : PG} {mr : Nat → Nat}
/-- the class's objects hold the program -/
def RC (M : AM) (P : PG) (mr : Nat → Nat) : Prop := Pw M (pc P) mr ∧ ∀ j, j < pc P → mI M (mr j) 0 = nI (pA P j) ∧ pA P j ≤ 8 ∧ pA P j ≤ pL P j ∧ MC M (mr j) (DP P j)
def CK (M : AM) (P : PG) (mr : Nat → Nat) (j : Nat) : Prop := ∃ k, k ≤ pc P ∧ mI M (mr j) 10 = nI k ∧ (k = pc P → CG M (mr j) (DP P j))
def CH (M : AM) (P : PG) (mr : Nat → Nat) : Prop := ∀ j, j < pc P → CK M P mr j
def SRf : Nat → Nat → Prop := fun r _ => r = 8 ∨ r = 9 ∨ r = 10 ∨ 58 ≤ r
theorem RC.pp {M : AM} (h : RC M P mr) (j : Nat) : PC M mr (DP P j) := ⟨h.1, fun i hi => ⟨(h.2 i hi).1, (h.2 i hi).2.2.2.2.2.1, (h.2 i hi).2.1, (h.2 i hi).2.2.2.2.2.2.2.1⟩⟩
theorem RC.gap {M : AM} (h : RC M P mr) {i j : Nat} (hi : i < pc P) (hj : j < pc P) (hij : i ≠ j) : mr i + 5 ≤ mr j ∨ mr j + 5 ≤ mr i := by
  rcases Nat.lt_or_gt_of_ne hij with e | e
  · exact Or.inl (h.1.2.2.2 i j hi hj e)
  · exact Or.inr (h.1.2.2.2 j i hj hi e)
theorem RC.m {M : AM} (h : RC M P mr) {j : Nat} (hj : j < pc P) : 58 ≤ mr j := (h.1.2.2.1 j hj).2.1
/-- kept where the places that it reads are -/
theorem RC.ag {S : Nat → Nat → Prop} {M M' : AM} (h : RC M P mr) (a : Ag S M M') (h4 : ¬ S 4 2) (hs : ∀ j, j < pc P → (∀ i, i ≤ 7 → ¬ S (mr j) i) ∧ (∀ i, ¬ S (mr j + 1) i) ∧ ∀ i, ¬ S (mr j + 2) i) : RC M' P mr :=
  ⟨⟨(a.i h4).trans h.1.1, h.1.2.1, fun j hj => ⟨by rw [a.r]; exact (h.1.2.2.1 j hj).1, a.mt (h.1.2.2.1 j hj).2⟩, h.1.2.2.2⟩, fun j hj => ⟨(a.i ((hs j hj).1 0 (by omega))).trans (h.2 j hj).1, (h.2 j hj).2.1, (h.2 j hj).2.2.1, (h.2 j hj).2.2.2.ag a ((hs j hj).1 7 (by omega)) ((hs j hj).1 1 (by omega)) ((hs j hj).1 2 (by omega)) (hs j hj).2.1 (hs j hj).2.2⟩⟩
theorem CG.ag {S : Nat → Nat → Prop} {M M' : AM} {m : Nat} {D : DD} (h : CG M m D) (a : Ag S M M') (h8 : ¬ S m 8) (h9 : ¬ S m 9) (h3 : ∀ i, ¬ S (m + 3) i ∧ ¬ S (m + 4) i) : CG M' m D :=
  ⟨(a.i h8).trans h.1, (a.i h9).trans h.2.1, fun z i hi => by rw [a.i (h3 i).1, a.i (h3 i).2]; exact h.2.2 z i hi⟩
theorem CK.ag {S : Nat → Nat → Prop} {M M' : AM} {j : Nat} (h : CK M P mr j) (a : Ag S M M') (h8 : ¬ S (mr j) 8) (h9 : ¬ S (mr j) 9) (h10 : ¬ S (mr j) 10) (h3 : ∀ i, ¬ S (mr j + 3) i ∧ ¬ S (mr j + 4) i) : CK M' P mr j := by
  obtain ⟨k, h1, h2, h4⟩ := h
  exact ⟨k, h1, (a.i h10).trans h2, fun z => (h4 z).ag a h8 h9 h3⟩
def SJ (m : Nat) : Nat → Nat → Prop := fun r j => SI m r j ∨ (r = m ∧ j = 10)
theorem RC.sj {M M' : AM} {j : Nat} (h : RC M P mr) (hj : j < pc P) (a : Ag (SJ (mr j)) M M') : RC M' P mr := by
  have := h.m hj
  refine h.ag a (by unfold SJ SI; omega) (fun i hi => ?_)
  have := h.m hi
  by_cases e : i = j
  · rw [e]
    refine ⟨fun k hk => ?_, fun k => ?_, fun k => ?_⟩ <;> (unfold SJ SI; omega)
  · have := h.gap hi hj e
    refine ⟨fun k hk => ?_, fun k => ?_, fun k => ?_⟩ <;> (unfold SJ SI; omega)
theorem l_refresh : ∀ (f k : Nat) (M : AM), pc P - k = f → k ≤ pc P → St M → RC M P mr → (∀ j, j < k → mI M (mr j) 10 = nI (pc P) ∧ CG M (mr j) (DP P j)) → (∀ j, k ≤ j → j < pc P → CK M P mr j) →
    ∃ M', E K_X2_refresh 2 [some (aR (some 7)), some (aI (nI k)), none] [] M none M' ∧ Ag SRf M M' ∧ RC M' P mr ∧ ∀ j, j < pc P → mI M' (mr j) 10 = nI (pc P) ∧ CG M' (mr j) (DP P j) := by
  intro f
  induction f with
  | zero =>
    intro k M hf hk hS hR h1 h2
    have e : k = pc P := by omega
    subst e
    refine ⟨M, ?_, Ag.rf, hR, h1⟩
    have hg : mI M 4 2 ≤ nI (pc P) := by rw [hR.1.1, le32]; omega
    apply s_X2_refresh_2 (M1 := M) (M2 := M) (o102 := none) hS
    case k1 => exact fun _ => ⟨rfl, rfl⟩
    all_goals (intro g; exact absurd hg g)
  | succ f ih =>
    intro k M hf hk hS hR h1 h2
    have hc := hR.1.2.1
    have hk' : k < pc P := by omega
    have hg : ¬ mI M 4 2 ≤ nI k := by rw [hR.1.1, le32, ci _ (by omega), ci _ (by omega)]; omega
    have e1 : nI k + 1 = nI (k + 1) := nI_1 k
    have hm := hR.m hk'
    have hfi := v_findn hS hR.1 hk'
    obtain ⟨q, q1, q2, q3⟩ := h2 k (Nat.le_refl k) hk'
    by_cases e : q = pc P
    · have hn : mI M (mr k) 10 = nI (pc P) := by rw [q2, e]
      obtain ⟨M', hE, hr⟩ := ih (k + 1) M (by omega) (by omega) hS hR (fun j hj => (Nat.lt_succ_iff_lt_or_eq.mp hj).elim (h1 j) (fun z => by rw [z]; exact ⟨hn, q3 e⟩)) (fun j hj => h2 j (by omega))
      refine ⟨M', ?_, hr⟩
      apply s_X2_refresh_2 (M1 := M) (M2 := M) (o102 := some (mr k)) hS
      case k1 => exact fun g => absurd g hg
      case c2 => exact fun _ => hfi
      case k3 => intro _ z; simp at z
      case h4 => intro _ r z; injection z with z; rw [← z]; exact (hR.1.2.2.1 k hk').2
      case k5 => intro _ r z _; injection z with z; subst z; rw [e1]; exact hE.fg ⟨Or.inr rfl, Or.inr rfl, Or.inl rfl, trivial⟩
      all_goals (intro _ r z g; injection z with z; subst z; rw [hn, hR.1.1] at g; exact absurd rfl g)
    · have hne : ¬ mI M (mr k) 10 = mI M 4 2 := by rw [q2, hR.1.1, eq32, ci _ (by omega), ci _ (by omega)]; omega
      obtain ⟨M2, c6, a6, g6⟩ := v_inspect (D := DP P k) (mr := mr) (j := k) hk' rfl hS (hR.2 k hk').2.2.2 (hR.pp k)
      have aj : Ag (SJ (mr k)) M M2 := a6.mo (fun r j z => Or.inl z)
      have e4 : mI M2 4 2 = nI (pc P) := by rw [a6.i (by unfold SI; omega)]; exact hR.1.1
      have aw : Ag (SJ (mr k)) M (wrI M2 (mr k) 10 (mI M2 4 2)) := aj.wI (Or.inr ⟨rfl, rfl⟩)
      have hR2 := hR.sj hk' aw
      have gk : CG (wrI M2 (mr k) 10 (mI M2 4 2)) (mr k) (DP P k) := g6.ag (S := fun r j => r = mr k ∧ j = 10) (Ag.rf.wI ⟨rfl, rfl⟩) (by omega) (by omega) (fun i => ⟨by omega, by omega⟩)
      have ar : Ag SRf M (wrI M2 (mr k) 10 (mI M2 4 2)) := aw.mo (fun r j z => by unfold SJ SI at z; unfold SRf; omega)
      obtain ⟨M', hE, hA, hr⟩ := ih (k + 1) _ (by omega) (by omega) (aw.st hS) hR2 (fun j hj => by
          by_cases z : j = k
          · rw [z]; exact ⟨by rw [wrI_s, e4], gk⟩
          · have gp := hR.gap (i := j) (j := k) (by omega) hk' z
            have := hR.m (j := j) (by omega)
            have o := h1 j (by omega)
            exact ⟨by rw [aw.i (by unfold SJ SI; omega)]; exact o.1, o.2.ag aw (by unfold SJ SI; omega) (by unfold SJ SI; omega) (fun i => by unfold SJ SI; omega)⟩)
        (fun j hj hj2 => by
          have gp := hR.gap (i := j) (j := k) (by omega) hk' (by omega)
          have := hR.m (j := j) (by omega)
          exact (h2 j (by omega) hj2).ag aw (by unfold SJ SI; omega) (by unfold SJ SI; omega) (by unfold SJ SI; omega) (fun i => by unfold SJ SI; omega))
      refine ⟨M', ?_, ar.tr hA, hr⟩
      apply s_X2_refresh_2 (M1 := M) (M2 := M2) (o102 := some (mr k)) hS
      case k1 => exact fun g => absurd g hg
      case c2 => exact fun _ => hfi
      case k3 => intro _ z; simp at z
      case h4 => intro _ r z; injection z with z; rw [← z]; exact (hR.1.2.2.1 k hk').2
      case k5 => intro _ r z g; injection z with z; subst z; exact absurd g hne
      case c6 => intro _ r z _; injection z with z; subst z; exact c6
      case k7 => intro _ r z _; injection z with z; subst z; rw [e1]; exact hE.fg ⟨Or.inr rfl, Or.inr rfl, Or.inl rfl, trivial⟩
theorem v_refresh {M : AM} (hS : St M) (hR : RC M P mr) (hC : CH M P mr) : ∃ M', Ev K_X2_refresh [aR (some 7)] M none M' ∧ Ag SRf M M' ∧ RC M' P mr ∧ ∀ j, j < pc P → mI M' (mr j) 10 = nI (pc P) ∧ CG M' (mr j) (DP P j) := by
  obtain ⟨M', hE, hr⟩ := l_refresh (P := P) (mr := mr) _ 0 M rfl (by omega) hS hR (fun j hj => by omega) (fun j _ hj => hC j hj)
  exact ⟨M', s_X2_refresh_0 hS hE, hr⟩
end REF
