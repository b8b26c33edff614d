/-! ===== PURE: the reference's look at all; what a sound METHOD has ===== -/
section ALL
variable {P : PG}
/-- the reference's arrays hold the program -/
def RM (M : AM) (P : PG) : Prop := mI M 26 4 = nI (pc P) ∧ pc P ≤ 32 ∧ ∀ j, j < pc P → MM M j (DP P j)
theorem RM.ag {S : Nat → Nat → Prop} {M M' : AM} (h : RM M P) (a : Ag S M M') (hs : ∀ i, ¬ S 26 4 ∧ ¬ S 27 i ∧ ¬ S 28 i ∧ ¬ S 29 i ∧ ¬ S 30 i ∧ ¬ S 31 i ∧ ¬ S 32 i) : RM M' P := ⟨(a.i (hs 0).1).trans h.1, h.2.1, fun j hj => (h.2.2 j hj).ag a hs⟩
def SXA : Nat → Nat → Prop := fun r _ => 34 ≤ r ∧ r ≤ 39
theorem MG.ag {S : Nat → Nat → Prop} {D : DD} {j : Nat} {M M' : AM} (h : MG M j D) (hN : dn D ≤ 120) (a : Ag S M M') (hs : ∀ i, 120 * j ≤ i → i < 120 * j + 120 → ¬ S 34 i ∧ ¬ S 35 i ∧ ¬ S 36 i ∧ ¬ S 37 i) (h8 : ¬ S 38 j) (h9 : ¬ S 39 j) : MG M' j D :=
  ⟨(a.i h8).trans h.1, (a.i h9).trans h.2.1, fun z => ⟨fun i hi => by rw [a.i (hs _ (by omega) (by omega)).1]; exact (h.2.2 z).1 i hi, fun i hi => by
    have q := hs (120 * j + i) (by omega) (by omega)
    rw [a.i q.2.1, a.i q.2.2.1, a.i q.2.2.2]; exact (h.2.2 z).2 i hi⟩⟩
theorem l_examineAll : ∀ (f k : Nat) (M : AM), pc P - k = f → k ≤ pc P → St M → RM M P → (∀ j, j < k → MG M j (DP P j)) → ∃ M', E K_X7_examineAll 2 [some (aR (some 26)), some (aI (nI k))] [] M none M' ∧ Ag SXA M M' ∧ ∀ j, j < pc P → MG M' j (DP P j) := by
  intro f
  induction f with
  | zero =>
    intro k M hf hk hS hR h1
    have e : k = pc P := by omega
    subst e
    refine ⟨M, ?_, Ag.rf, h1⟩
    have hg : mI M 26 4 ≤ nI (pc P) := by rw [hR.1, le32]; omega
    apply s_X7_examineAll_2 (M1 := M) hS
    case k1 => exact fun _ => ⟨rfl, rfl⟩
    all_goals (intro g; exact absurd hg g)
  | succ f ih =>
    intro k M hf hk hS hR h1
    have hc := hR.2.1
    have hk' : k < pc P := by omega
    have hg : ¬ mI M 26 4 ≤ nI k := by rw [hR.1, le32, ci _ (by omega), ci _ (by omega)]; omega
    obtain ⟨M1, c1, a1, g1⟩ := v_examine hS (hR.2.2 k hk')
    have ax : Ag SXA M M1 := a1.mo (fun r i z => by unfold SX at z; unfold SXA; omega)
    obtain ⟨M', hE, hA, hr⟩ := ih (k + 1) M1 (by omega) (by omega) (a1.st hS) (hR.ag ax (fun i => by unfold SXA; omega)) (fun j hj => by
      by_cases z : j = k
      · rw [z]; exact g1
      · have hn := (hR.2.2 j (by omega)).ln
        exact (h1 j (by omega)).ag hn a1 (fun i h1 h2 => by unfold SX; omega) (by unfold SX; omega) (by unfold SX; omega))
    refine ⟨M', ?_, ax.tr hA, hr⟩
    apply s_X7_examineAll_2 (M1 := M1) hS
    case k1 => exact fun g => absurd g hg
    case c2 => intros; exact c1
    case k3 => intros; rw [nI_1]; exact hE
theorem v_examineAll {M : AM} (hS : St M) (hR : RM M P) : ∃ M', Ev K_X7_examineAll [aR (some 26)] M none M' ∧ Ag SXA M M' ∧ ∀ j, j < pc P → MG M' j (DP P j) := by
  obtain ⟨M', hE, hr⟩ := l_examineAll (P := P) _ 0 M rfl (by omega) hS hR (fun j hj => by omega)
  exact ⟨M', s_X7_examineAll_0 hS hE, hr⟩
end ALL
section SND
variable {D : DD}
/-- what holds at an INSTRUCTION that is MET -/
def Gd (D : DD) (hh : Nat → Int) (i : Nat) : Prop := tk D i ≤ hh i ∧ bhd D i hh ≤ 100 ∧ (0 ≤ onw D i → onw D i < dn D ∧ hh (onw D i).toNat = bhd D i hh) ∧ (dO D i = 12 ∨ dO D i = 13 → hh (dA D i).toNat = bhd D i hh) ∧ (dO D i = 15 → hh (mat D (dn D) i).toNat = hh i) ∧ (dO D i = 17 → hh i = dR D)
theorem onw_gt {i : Nat} (h0 : 0 ≤ onw D i) (hf : ff D i = 0) : (i : Int) < onw D i := by
  unfold onw at *
  by_cases c1 : dO D i = 12 ∨ dO D i = 17
  · rw [if_pos c1] at h0; omega
  rw [if_neg c1] at *
  by_cases c2 : dO D i = 14 ∧ dA D i = 0
  · rw [if_pos c2]
    have := (ffl hf c2.1).2.2.1
    rcases mat_cases (D := D) (dn D) i with q | q | q
    · omega
    · omega
    · obtain ⟨_, p, t, q1, q2, q3, q4, q5⟩ := q; omega
  · rw [if_neg c2]; omega
theorem hn_keep {k : Nat} {hh : Nat → Int} (hf : ff D k = 0) (h : hk D k hh = 0) (t : Nat) (ht : t ≤ k ∨ 0 ≤ hh t) (htn : t < dn D) : hn D k hh t = hh t := by
  have h1 := hk0 h
  have o1 := h1.2.2.1
  have o2 := h1.2.2.2.1
  have u1 : ∀ (g : Nat → Int), 0 ≤ onw D k → (g t = hh t) → up1 g (onw D k).toNat (bhd D k hh) t = hh t := fun g z e => by
    have := onw_gt z hf
    simp only [up1]
    split
    · rename_i et
      rcases ht with ht | ht
      · omega
      · by_cases q : hh t = bhd D k hh
        · exact q.symm
        · exact absurd ⟨z, by omega, by rw [← et]; exact ht, by rw [← et]; exact q⟩ o1
    · exact e
  have u0 : (if 0 ≤ onw D k then up1 hh (onw D k).toNat (bhd D k hh) else hh) t = hh t := by
    by_cases z : 0 ≤ onw D k
    · rw [if_pos z]; exact u1 hh z rfl
    · rw [if_neg z]
  unfold hn
  by_cases jm : dO D k = 12 ∨ dO D k = 13
  · rw [if_pos jm]
    have fj := ffj hf jm
    show (if t = (dA D k).toNat then _ else _) = _
    split
    · rename_i et
      rcases ht with ht | ht
      · omega
      · by_cases q : hh t = bhd D k hh
        · exact q.symm
        · exact absurd ⟨by omega, by omega, by rw [← et]; exact ht, by rw [← et]; exact q⟩ (o2 jm)
    · exact u0
  · rw [if_neg jm]; exact u0
theorem hp_good (hd : Ds D) (hff : ∀ i, i < dn D → ff D i = 0) : ∀ k, k ≤ dn D → (hp D k).2.1 = 0 → (0 < dn D → (hp D k).1 0 = 0) ∧ ∀ i, i < k → 0 ≤ (hp D k).1 i → Gd D (hp D k).1 i
  | 0, _, _ => ⟨fun _ => rfl, fun i hi => by omega⟩
  | k + 1, hk1, h0 => by
    have hR := hp_r hd hff k (by omega)
    unfold hp at h0 ⊢
    by_cases c0 : (hp D k).2.1 = 0
    · rw [if_pos c0] at h0 ⊢
      obtain ⟨ih0, ih⟩ := hp_good hd hff k (by omega) c0
      by_cases c1 : (hp D k).1 k < 0
      · rw [if_pos c1] at h0 ⊢
        refine ⟨ih0, fun i hi h2 => ?_⟩
        by_cases e : i = k
        · rw [e] at h2; omega
        · exact ih i (by omega) h2
      · rw [if_neg c1] at h0 ⊢
        by_cases c2 : hk D k (hp D k).1 = 0
        · rw [if_pos c2] at h0 ⊢
          have hf := hff k (by omega)
          have keep := hn_keep hf c2
          have hb0 : 0 ≤ bhd D k (hp D k).1 := by
            have := (hk0 c2).1
            have := gv_r hd hf
            unfold bhd
            omega
          refine ⟨fun hn0 => (keep 0 (Or.inl (by omega)) hn0).trans (ih0 hn0), fun i hi h2 => ?_⟩
          have ei : hn D k (hp D k).1 i = (hp D k).1 i := keep i (Or.inl (by omega)) (by omega)
          have eb : bhd D i (hn D k (hp D k).1) = bhd D i (hp D k).1 := by unfold bhd; rw [ei]
          show Gd D (hn D k (hp D k).1) i
          have h2' : 0 ≤ (hp D k).1 i := by
            have : 0 ≤ hn D k (hp D k).1 i := h2
            rw [ei] at this
            exact this
          by_cases e : i = k
          · subst e
            have q := hk0 c2
            unfold Gd
            rw [eb, ei]
            refine ⟨q.1, q.2.1, fun z => ⟨q.2.2.2.2.2.2, ?_⟩, fun jm => ?_, fun z => ?_, fun z => ?_⟩
            · unfold hn
              by_cases jm : dO D i = 12 ∨ dO D i = 13
              · rw [if_pos jm, if_pos z]; simp only [up1]; repeat' split <;> rfl
              · rw [if_neg jm, if_pos z]; exact if_pos rfl
            · unfold hn
              rw [if_pos jm]; exact if_pos rfl
            · have := ffe hf z
              have mg := mat_ge (D := D) (dn D) i
              have e15 := q.2.2.2.2.1 z
              rw [keep _ (Or.inr (by omega)) (by omega)]
              exact e15
            · have e17 := q.2.2.2.2.2.1 z
              have : tk D i = dR D := by unfold tk; rw [if_neg (by omega), if_neg (by omega), if_pos z]
              have := q.1
              omega
          · have q := ih i (by omega) h2'
            have hfi := hff i (by omega)
            have hbi : 0 ≤ bhd D i (hp D k).1 := by
              have := q.1
              have := gv_r hd hfi
              unfold bhd
              omega
            unfold Gd
            rw [eb, ei]
            refine ⟨q.1, q.2.1, fun z => ⟨(q.2.2.1 z).1, ?_⟩, fun jm => ?_, fun z => ?_, q.2.2.2.2.2⟩
            · have w := q.2.2.1 z
              rw [keep _ (Or.inr (by omega)) (by omega)]
              exact w.2
            · have fj := ffj hfi jm
              have w := q.2.2.2.1 jm
              rw [keep _ (Or.inr (by omega)) (by omega)]
              exact w
            · have := ffe hfi z
              have mg := mat_ge (D := D) (dn D) i
              have w := q.2.2.2.2.1 z
              rw [keep _ (Or.inr (by omega)) (by omega)]
              exact w
        · rw [if_neg c2] at h0
          exact absurd h0 c2
    · rw [if_neg c0] at h0
      exact absurd h0 c0
/-- a METHOD without a FAULT -/
def Sd (D : DD) : Prop := (chk D).1 = 0
theorem Sd.all (h : Sd D) : (∀ i, i < dn D → ff D i = 0) ∧ 0 < dn D ∧ (hp D (dn D)).2.1 = 0 := by
  unfold Sd chk at h
  by_cases c : (fsc (ff D) (dn D)).1 = 0
  · rw [if_pos c] at h
    by_cases n0 : dn D = 0
    · rw [if_pos n0] at h
      exact absurd h (by show ¬ (9 : Int) = 0; omega)
    · rw [if_neg n0] at h
      exact ⟨fsc_zero c, by omega, h⟩
  · rw [if_neg c] at h
    exact absurd h c
theorem Sd.ff (h : Sd D) {i : Nat} (hi : i < dn D) : ff D i = 0 := h.all.1 i hi
theorem Sd.r (h : Sd D) (hd : Ds D) {i : Nat} (hi : i < dn D) : -1 ≤ HH D i ∧ HH D i ≤ 100 := hp_r hd h.all.1 _ (Nat.le_refl _) i hi
theorem Sd.z (h : Sd D) (hd : Ds D) : HH D 0 = 0 := (hp_good hd h.all.1 _ (Nat.le_refl _) h.all.2.2).1 h.all.2.1
theorem Sd.g (h : Sd D) (hd : Ds D) {i : Nat} (hi : i < dn D) (h0 : 0 ≤ HH D i) : Gd D (HH D) i := (hp_good hd h.all.1 _ (Nat.le_refl _) h.all.2.2).2 i hi h0
end SND
