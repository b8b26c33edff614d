/-! ===== PURE: lengths of PATHS ===== -/
def pl : Option Nat → Option Nat → Option Nat
  | some a, some b => some (a + b)
  | _, _ => none
def mx : Option Nat → Option Nat → Option Nat
  | some a, some b => some (if a ≤ b then b else a)
  | none, b => b
  | a, none => a
def rp : Option Nat → Nat → Option Nat
  | some a, k => some (a * k)
  | none, _ => none
def Le (a : Option Nat) (x : Int) : Prop := ∀ v, a = some v → (v : Int) ≤ x
theorem Le.none {x : Int} : Le none x := fun v h => by simp at h
theorem Le.some {a : Nat} {x : Int} : Le (some a) x ↔ (a : Int) ≤ x := ⟨fun h => h a rfl, fun h v e => by injection e with e; omega⟩
theorem Le.mx {a b : Option Nat} {x : Int} : Le (mx a b) x ↔ Le a x ∧ Le b x := by
  cases a with
  | none => exact ⟨fun h => ⟨Le.none, by cases b <;> exact h⟩, fun h => by cases b <;> exact h.2⟩
  | some a =>
    cases b with
    | none => exact ⟨fun h => ⟨h, Le.none⟩, fun h => h.1⟩
    | some b =>
      show Le (Option.some (if a ≤ b then b else a)) x ↔ _
      rw [Le.some, Le.some, Le.some]
      split <;> omega
theorem pl_mx {a b c : Option Nat} : pl (mx a b) c = mx (pl a c) (pl b c) := by
  cases a <;> cases b <;> cases c <;> simp only [pl, mx]
  · congr 1; split <;> split <;> omega
theorem mx_pl {a b c : Option Nat} : pl a (mx b c) = mx (pl a b) (pl a c) := by
  cases a <;> cases b <;> cases c <;> simp only [pl, mx]
  · congr 1; split <;> split <;> omega
theorem pl_assoc {a b c : Option Nat} : pl (pl a b) c = pl a (pl b c) := by
  cases a <;> cases b <;> cases c <;> simp only [pl]
  · congr 1; omega
theorem Le.ext {a b : Option Nat} (h : ∀ x : Int, Le a x ↔ Le b x) : a = b := by
  cases a with
  | none =>
    cases b with
    | none => rfl
    | some b => have := (Le.some (a := b)).mp ((h (-1)).mp Le.none); omega
  | some a =>
    cases b with
    | none => have := (Le.some (a := a)).mp ((h (-1)).mpr Le.none); omega
    | some b =>
      have h1 := (h a).mp (Le.some.mpr (Int.le_refl _))
      have h2 := (h b).mpr (Le.some.mpr (Int.le_refl _))
      rw [Le.some] at h1 h2
      congr 1
      omega
/-- what the classes hold for a length -/
def sat : Option Nat → Int
  | none => -1
  | some v => if v < 9223372036854775808 then v else -2
section TIME
variable {D : DD} {ct : Nat → Nat} {T : Nat → Option Nat}
abbrev own (D : DD) (ct : Nat → Nat) (i : Nat) : Option Nat := some (ct (dO D i).toNat)
abbrev OO : Type := Option Nat × Option Nat
def beh (D : DD) (i : Nat) : Nat := (mat D (dn D) i).toNat + 1
def pl2 (a : Option Nat) (g : OO) : OO := (pl a g.1, pl a g.2)
def mx2 (g h : OO) : OO := (mx g.1 h.1, mx g.2 h.2)
def lens (D : DD) (ct : Nat → Nat) (T : Nat → Option Nat) (i : Nat) (G : Nat → OO) : OO :=
  if dO D i = 17 then (none, own D ct i)
  else if dO D i = 15 then (own D ct i, none)
  else if dO D i = 12 then pl2 (own D ct i) (G (dA D i).toNat)
  else if dO D i = 13 then mx2 (pl2 (own D ct i) (G (i + 1))) (pl2 (own D ct i) (G (dA D i).toNat))
  else if dO D i = 14 then
    if 0 < dA D i then
      (pl (pl (own D ct i) (rp (G (i + 1)).1 (dA D i).toNat)) (G (beh D i)).1,
        mx (pl (pl (own D ct i) (rp (G (i + 1)).1 (dA D i).toNat)) (G (beh D i)).2) (pl (match (G (i + 1)).1 with | none => own D ct i | some r => pl (own D ct i) (some (r * ((dA D i).toNat - 1)))) (G (i + 1)).2))
    else pl2 (own D ct i) (G (beh D i))
  else if dO D i = 16 then pl2 (pl (own D ct i) (T (dA D i).toNat)) (G (i + 1))
  else pl2 (own D ct i) (G (i + 1))
def bw (D : DD) (ct : Nat → Nat) (T : Nat → Option Nat) : Nat → Nat → OO
  | 0, _ => (none, none)
  | f + 1, i => if i < dn D ∧ 0 ≤ HH D i then lens D ct T i (bw D ct T f) else (none, none)
theorem beh_gt {i : Nat} (hf : ff D i = 0) (o : dO D i = 14) : i < beh D i ∧ beh D i ≤ dn D := by
  have := (ffl hf o).2.2.1
  unfold beh
  rcases mat_cases (D := D) (dn D) i with q | q | q
  · omega
  · omega
  · obtain ⟨_, p, t, q1, q2, q3, q4, q5⟩ := q; omega
theorem lens_congr {i : Nat} {G G' : Nat → OO} {T' : Nat → Option Nat} (hf : ff D i = 0) (h : ∀ p, i < p → G p = G' p) (hT : dO D i = 16 → T (dA D i).toNat = T' (dA D i).toNat) : lens D ct T i G = lens D ct T' i G' := by
  unfold lens
  have h1 := h (i + 1) (by omega)
  by_cases o17 : dO D i = 17
  · rw [if_pos o17, if_pos o17]
  rw [if_neg o17, if_neg o17]
  by_cases o15 : dO D i = 15
  · rw [if_pos o15, if_pos o15]
  rw [if_neg o15, if_neg o15]
  by_cases o12 : dO D i = 12
  · have := ffj hf (Or.inl o12)
    rw [if_pos o12, if_pos o12, h _ (by omega)]
  rw [if_neg o12, if_neg o12]
  by_cases o13 : dO D i = 13
  · have := ffj hf (Or.inr o13)
    rw [if_pos o13, if_pos o13, h1, h (dA D i).toNat (by omega)]
  rw [if_neg o13, if_neg o13]
  by_cases o14 : dO D i = 14
  · have := beh_gt hf o14
    rw [if_pos o14, if_pos o14, h1, h (beh D i) (by omega)]
  rw [if_neg o14, if_neg o14]
  by_cases o16 : dO D i = 16
  · rw [if_pos o16, if_pos o16, h1, hT o16]
  rw [if_neg o16, if_neg o16, h1]
theorem bw_stable (hff : ∀ i, i < dn D → ff D i = 0) : ∀ (f i : Nat), dn D - i ≤ f → bw D ct T f i = bw D ct T (f + 1) i
  | 0, i, h => by
    show (none, none) = bw D ct T 1 i
    unfold bw
    rw [if_neg (by omega)]
  | f + 1, i, h => by
    unfold bw
    by_cases c : i < dn D ∧ 0 ≤ HH D i
    · rw [if_pos c, if_pos c]
      exact lens_congr (hff i c.1) (fun p hp => bw_stable hff f p (by omega)) (fun _ => rfl)
    · rw [if_neg c, if_neg c]
def FF2 (D : DD) (ct : Nat → Nat) (T : Nat → Option Nat) : Nat → OO := bw D ct T (dn D + 1)
theorem FF2.un {i : Nat} (h : ¬ (i < dn D ∧ 0 ≤ HH D i)) : FF2 D ct T i = (none, none) := by
  unfold FF2 bw
  rw [if_neg h]
theorem FF2.eq (hff : ∀ i, i < dn D → ff D i = 0) {i : Nat} (h : i < dn D ∧ 0 ≤ HH D i) : FF2 D ct T i = lens D ct T i (FF2 D ct T) := by
  unfold FF2
  rw [bw, if_pos h]
  exact lens_congr (hff i h.1) (fun p _ => bw_stable hff _ p (by omega)) (fun _ => rfl)
theorem bw_T {T' : Nat → Option Nat} (hff : ∀ i, i < dn D → ff D i = 0) (hT : ∀ i, i < dn D → 0 ≤ HH D i → dO D i = 16 → T (dA D i).toNat = T' (dA D i).toNat) : ∀ (f i : Nat), bw D ct T f i = bw D ct T' f i
  | 0, i => rfl
  | f + 1, i => by
    unfold bw
    by_cases c : i < dn D ∧ 0 ≤ HH D i
    · rw [if_pos c, if_pos c]
      exact lens_congr (hff i c.1) (fun p _ => bw_T hff hT f p) (hT i c.1 c.2)
    · rw [if_neg c, if_neg c]
theorem stk_next {i : Nat} (h14 : dO D i ≠ 14) (h15 : dO D i ≠ 15) : stk D (i + 1) = stk D i := by rw [stk, if_neg h14, if_neg h15]
theorem stk_in {i : Nat} (h14 : dO D i = 14) : stk D (i + 1) = i :: stk D i := by rw [stk, if_pos h14]
theorem ins_stk {a b : Nat} (h : ins D a = ins D b) : stk D a = stk D b := by
  unfold ins at h
  cases ha : stk D a with
  | nil =>
    cases hb : stk D b with
    | nil => rfl
    | cons l t => rw [ha, hb] at h; simp only [hdI] at h; omega
  | cons l t =>
    cases hb : stk D b with
    | nil => rw [ha, hb] at h; simp only [hdI] at h; omega
    | cons l' t' =>
      rw [ha, hb] at h
      simp only [hdI] at h
      have e : l = l' := by omega
      subst e
      rw [(stk_cons a ha).2.2.symm, (stk_cons b hb).2.2.symm]
theorem stk_jump {i : Nat} (hf : ff D i = 0) (o : dO D i = 12 ∨ dO D i = 13) : stk D (dA D i).toNat = stk D i := ins_stk (ffj hf o).2.2
/-- a LOOP and its END -/
theorem loop_end {i : Nat} (h14 : dO D i = 14) (h0 : 0 ≤ mat D (dn D) i) : ∃ p : Nat, mat D (dn D) i = p ∧ i < p ∧ p < dn D ∧ dO D p = 15 ∧ stk D p = i :: stk D i ∧ stk D (p + 1) = stk D i ∧ mat D (dn D) p = i ∧ beh D i = p + 1 := by
  rcases mat_cases (D := D) (dn D) i with q | q | q
  · omega
  · omega
  · obtain ⟨_, p, t, q1, q2, q3, q4, q5⟩ := q
    have hc := stk_cons p q4
    have me := mat_end q4 q3 (dn D - p - 1)
    rw [show p + 1 + (dn D - p - 1) = dn D by omega] at me
    refine ⟨p, q5, q1, q2, q3, by rw [q4, hc.2.2], ?_, me.1, by unfold beh; rw [q5]; omega⟩
    rw [stk, if_neg (by omega), if_pos q3, q4, hc.2.2]; rfl
theorem end_loop {i : Nat} (h15 : dO D i = 15) (hi : i < dn D) (h0 : 0 ≤ mat D (dn D) i) : ∃ l : Nat, mat D (dn D) i = l ∧ l < i ∧ dO D l = 14 ∧ stk D i = l :: stk D l ∧ mat D (dn D) l = i ∧ stk D (i + 1) = stk D l := by
  rcases mat_cases (D := D) (dn D) i with q | q | q
  · omega
  · obtain ⟨_, _, l, t, q3, q4⟩ := q
    have hc := stk_cons i q3
    have me := mat_end q3 h15 (dn D - i - 1)
    rw [show i + 1 + (dn D - i - 1) = dn D by omega] at me
    refine ⟨l, q4, hc.1, hc.2.1, by rw [q3, hc.2.2], me.2, ?_⟩
    rw [stk, if_neg (by omega), if_pos h15, q3, hc.2.2]; rfl
  · omega
theorem met_on (h : Sd D) (hd : Ds D) {i : Nat} (hi : i < dn D) (h0 : 0 ≤ HH D i) (ho : 0 ≤ onw D i) : (onw D i).toNat < dn D ∧ 0 ≤ HH D (onw D i).toNat ∧ HH D (onw D i).toNat = bhd D i (HH D) := by
  have g := h.g hd hi h0
  have w := g.2.2.1 ho
  have := gv_r hd (h.ff hi)
  have := g.1
  refine ⟨by omega, ?_, w.2⟩
  rw [w.2]
  unfold bhd
  omega
theorem met_next (h : Sd D) (hd : Ds D) {i : Nat} (hi : i < dn D) (h0 : 0 ≤ HH D i) (h12 : dO D i ≠ 12) (h17 : dO D i ≠ 17) (h14 : dO D i = 14 → dA D i ≠ 0) : i + 1 < dn D ∧ 0 ≤ HH D (i + 1) ∧ HH D (i + 1) = bhd D i (HH D) := by
  have eo : onw D i = i + 1 := by unfold onw; rw [if_neg (by omega), if_neg (fun z => h14 z.1 z.2)]
  have := met_on h hd hi h0 (by omega)
  rw [eo, show ((i : Int) + 1).toNat = i + 1 by omega] at this
  exact this
theorem met_jump (h : Sd D) (hd : Ds D) {i : Nat} (hi : i < dn D) (h0 : 0 ≤ HH D i) (o : dO D i = 12 ∨ dO D i = 13) : (dA D i).toNat < dn D ∧ 0 ≤ HH D (dA D i).toNat ∧ HH D (dA D i).toNat = bhd D i (HH D) := by
  have g := h.g hd hi h0
  have w := g.2.2.2.1 o
  have := gv_r hd (h.ff hi)
  have := g.1
  have := ffj (h.ff hi) o
  refine ⟨by omega, ?_, w⟩
  rw [w]
  unfold bhd
  omega
theorem met_beh (h : Sd D) (hd : Ds D) {i : Nat} (hi : i < dn D) (h0 : 0 ≤ HH D i) (h14 : dO D i = 14) (a0 : dA D i = 0) : beh D i < dn D ∧ 0 ≤ HH D (beh D i) ∧ HH D (beh D i) = bhd D i (HH D) := by
  have := (ffl (h.ff hi) h14).2.2.1
  have eo : onw D i = mat D (dn D) i + 1 := by unfold onw; rw [if_neg (by omega), if_pos ⟨h14, a0⟩]
  have := met_on h hd hi h0 (by omega)
  rw [eo, show (mat D (dn D) i + 1).toNat = beh D i by unfold beh; omega] at this
  exact this
theorem pl_ne {a b : Option Nat} : pl a b ≠ none ↔ a ≠ none ∧ b ≠ none := by cases a <;> cases b <;> simp [pl]
theorem mx_ne {a b : Option Nat} : mx a b ≠ none ↔ a ≠ none ∨ b ≠ none := by cases a <;> cases b <;> simp [mx]
theorem rp_ne {a : Option Nat} {k : Nat} : rp a k ≠ none ↔ a ≠ none := by cases a <;> simp [rp]
theorem ff2_B (h : Sd D) (hd : Ds D) : ∀ (f i : Nat), dn D - i = f → (FF2 D ct T i).1 ≠ none → ∃ l t, stk D i = l :: t ∧ ∃ p, mat D (dn D) l = (p : Nat) ∧ p < dn D ∧ 0 ≤ HH D p ∧ dO D p = 15 := by
  intro f
  induction f using Nat.strongRecOn with
  | ind f ih =>
    intro i hf hne
    by_cases c : i < dn D ∧ 0 ≤ HH D i
    · have hff := h.ff c.1
      have rc9 : ∀ q, i < q → q ≤ dn D → stk D q = stk D i → (FF2 D ct T q).1 ≠ none → ∃ l t, stk D i = l :: t ∧ ∃ p, mat D (dn D) l = (p : Nat) ∧ p < dn D ∧ 0 ≤ HH D p ∧ dO D p = 15 := fun q h1 h2 h3 h4 => by
        have := ih (dn D - q) (by omega) q rfl h4
        rw [h3] at this
        exact this
      rw [FF2.eq h.all.1 c] at hne
      unfold lens at hne
      by_cases o17 : dO D i = 17
      · rw [if_pos o17] at hne; exact absurd rfl hne
      rw [if_neg o17] at hne
      by_cases o15 : dO D i = 15
      · obtain ⟨l, e1, e2, e3, e4, e5, e6⟩ := end_loop o15 c.1 (ffe hff o15)
        exact ⟨l, _, e4, i, e5, c.1, c.2, o15⟩
      rw [if_neg o15] at hne
      by_cases o12 : dO D i = 12
      · rw [if_pos o12] at hne
        have fj := ffj hff (Or.inl o12)
        exact rc9 _ (by omega) (by omega) (stk_jump hff (Or.inl o12)) (pl_ne.mp hne).2
      rw [if_neg o12] at hne
      by_cases o13 : dO D i = 13
      · rw [if_pos o13] at hne
        have fj := ffj hff (Or.inr o13)
        rcases mx_ne.mp hne with w | w
        · exact rc9 _ (by omega) (by omega) (stk_next (by omega) (by omega)) (pl_ne.mp w).2
        · exact rc9 _ (by omega) (by omega) (stk_jump hff (Or.inr o13)) (pl_ne.mp w).2
      rw [if_neg o13] at hne
      by_cases o14 : dO D i = 14
      · rw [if_pos o14] at hne
        obtain ⟨p, e1, e2, e3, e4, e5, e6, e7, e8⟩ := loop_end o14 (ffl hff o14).2.2.1
        have sb : stk D (beh D i) = stk D i := by rw [e8]; exact e6
        by_cases a0 : 0 < dA D i
        · rw [if_pos a0] at hne
          exact rc9 _ (by omega) (by omega) sb (pl_ne.mp hne).2
        · rw [if_neg a0] at hne
          exact rc9 _ (by omega) (by omega) sb (pl_ne.mp hne).2
      rw [if_neg o14] at hne
      by_cases o16 : dO D i = 16
      · rw [if_pos o16] at hne
        exact rc9 _ (by omega) (by omega) (stk_next (by omega) (by omega)) (pl_ne.mp hne).2
      rw [if_neg o16] at hne
      exact rc9 _ (by omega) (by omega) (stk_next (by omega) (by omega)) (pl_ne.mp hne).2
    · rw [FF2.un c] at hne
      exact absurd rfl hne
theorem ff2_top (h : Sd D) (hd : Ds D) {i : Nat} (hs : stk D i = []) : (FF2 D ct T i).1 = none := by
  by_cases c : (FF2 D ct T i).1 = none
  · exact c
  · obtain ⟨l, t, e, _⟩ := ff2_B h hd _ i rfl c
    rw [hs] at e
    simp at e
theorem ff2_A (h : Sd D) (hd : Ds D) (hT : ∀ i, i < dn D → 0 ≤ HH D i → dO D i = 16 → T (dA D i).toNat ≠ none) : ∀ (f i : Nat), dn D - i = f → i < dn D → 0 ≤ HH D i → (FF2 D ct T i).1 ≠ none ∨ (FF2 D ct T i).2 ≠ none := by
  intro f
  induction f using Nat.strongRecOn with
  | ind f ih =>
    intro i hf hi h0
    have hff := h.ff hi
    have rc9 : ∀ q, i < q → q < dn D → 0 ≤ HH D q → (FF2 D ct T q).1 ≠ none ∨ (FF2 D ct T q).2 ≠ none := fun q h1 h2 h3 => ih (dn D - q) (by omega) q rfl h2 h3
    have on : own D ct i ≠ none := by simp
    have p2 : ∀ (a : Option Nat) (g : OO), a ≠ none → (g.1 ≠ none ∨ g.2 ≠ none) → (pl2 a g).1 ≠ none ∨ (pl2 a g).2 ≠ none := fun a g ha hg => hg.elim (fun z => Or.inl (pl_ne.mpr ⟨ha, z⟩)) (fun z => Or.inr (pl_ne.mpr ⟨ha, z⟩))
    rw [FF2.eq h.all.1 ⟨hi, h0⟩]
    unfold lens
    by_cases o17 : dO D i = 17
    · rw [if_pos o17]; exact Or.inr on
    rw [if_neg o17]
    by_cases o15 : dO D i = 15
    · rw [if_pos o15]; exact Or.inl on
    rw [if_neg o15]
    by_cases o12 : dO D i = 12
    · rw [if_pos o12]
      have fj := ffj hff (Or.inl o12)
      have m := met_jump h hd hi h0 (Or.inl o12)
      exact p2 _ _ on (rc9 _ (by omega) m.1 m.2.1)
    rw [if_neg o12]
    by_cases o13 : dO D i = 13
    · rw [if_pos o13]
      have fj := ffj hff (Or.inr o13)
      have m := met_jump h hd hi h0 (Or.inr o13)
      rcases p2 _ _ on (rc9 _ (by omega) m.1 m.2.1) with w | w
      · exact Or.inl (mx_ne.mpr (Or.inr w))
      · exact Or.inr (mx_ne.mpr (Or.inr w))
    rw [if_neg o13]
    by_cases o14 : dO D i = 14
    · rw [if_pos o14]
      by_cases a0 : 0 < dA D i
      · rw [if_pos a0]
        have m := met_next h hd hi h0 o12 o17 (by omega)
        by_cases c : (FF2 D ct T (i + 1)).1 = none
        · rcases rc9 (i + 1) (by omega) m.1 m.2.1 with w | w
          · exact absurd c w
          · refine Or.inr (mx_ne.mpr (Or.inr (pl_ne.mpr ⟨?_, w⟩)))
            rw [c]
            exact on
        · obtain ⟨l, t, e, p, e1, e2, e3, e4⟩ := ff2_B h hd _ (i + 1) rfl c
          rw [stk_in o14] at e
          injection e with e e'
          subst e
          obtain ⟨p', q1, q2, q3, q4, q5, q6, q7, q8⟩ := loop_end o14 (ffl hff o14).2.2.1
          have : p = p' := by omega
          subst this
          have mb := met_next h hd e2 e3 (by omega) (by omega) (by omega)
          have ht : pl (own D ct i) (rp (FF2 D ct T (i + 1)).1 (dA D i).toNat) ≠ none := pl_ne.mpr ⟨on, rp_ne.mpr c⟩
          rw [q8]
          rcases rc9 (p + 1) (by omega) mb.1 mb.2.1 with w | w
          · exact Or.inl (pl_ne.mpr ⟨ht, w⟩)
          · exact Or.inr (mx_ne.mpr (Or.inl (pl_ne.mpr ⟨ht, w⟩)))
      · rw [if_neg a0]
        have fl := ffl hff o14
        have bg := beh_gt hff o14
        have m := met_beh h hd hi h0 o14 (by omega)
        exact p2 _ _ on (rc9 _ (by omega) m.1 m.2.1)
    rw [if_neg o14]
    have m := met_next h hd hi h0 o12 o17 (by omega)
    by_cases o16 : dO D i = 16
    · rw [if_pos o16]
      exact p2 _ _ (pl_ne.mpr ⟨on, hT i hi h0 o16⟩) (rc9 _ (by omega) m.1 m.2.1)
    rw [if_neg o16]
    exact p2 _ _ on (rc9 _ (by omega) m.1 m.2.1)
theorem ff2_some (h : Sd D) (hd : Ds D) (hT : ∀ i, i < dn D → 0 ≤ HH D i → dO D i = 16 → T (dA D i).toNat ≠ none) : (FF2 D ct T 0).2 ≠ none := by
  rcases ff2_A (ct := ct) h hd hT _ 0 rfl h.all.2.1 (by rw [h.z hd]; omega) with w | w
  · exact absurd (ff2_top h hd rfl) w
  · exact w
end TIME
