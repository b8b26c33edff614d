/-! ===== PURE: forgetting locals; integers ===== -/
def FG : LVs → LVs → Prop
  | [], [] => True
  | a :: l, b :: l' => (a = none ∨ a = b) ∧ FG l l'
  | _, _ => False
theorem FG.len : ∀ {L L' : LVs}, FG L L' → L.length = L'.length
  | [], [], _ => rfl
  | _ :: _, _ :: _, h => congrArg (· + 1) (FG.len h.2)
theorem FG.get : ∀ {L L' : LVs}, FG L L' → ∀ (i : Nat) (v : AV), L[i]? = some (some v) → L'[i]? = some (some v)
  | [], [], _, _, _, z => by simp at z
  | a :: _, b :: _, h, 0, v, z => by
    have z' : a = some v := by simpa using z
    rcases h.1 with e | e
    · rw [e] at z'; exact absurd z' (by simp)
    · rw [e] at z'; simp [z']
  | _ :: _, _ :: _, h, i + 1, v, z => by
    have := FG.get h.2 i v (by simpa using z)
    simpa using this
theorem E.fg {K : MK} {pc : Nat} {L L' : LVs} {st : List AV} {M M' : AM} {v : Option AV} (h : E K pc L st M v M') (f : FG L L') : E K pc L' st M v M' :=
  ⟨h.1, fun G X p l e R s m args below meth c H locs cells slots mc ms ls ct lv => h.2 G X p l e R s m args below meth c H locs cells slots mc ms ls ct ⟨lv.1, lv.2.1, f.len.trans lv.2.2.1, fun i v z => lv.2.2.2 i v (f.get i v z)⟩⟩
def iI (k : Int) : Int32 := Int32.ofInt k
theorem iI_t {k : Int} (h1 : -2147483648 ≤ k) (h2 : k < 2147483648) : (iI k).toInt = k := Int32.toInt_ofInt_of_le h1 h2
theorem iI_e {x : Int32} {k : Int} (h : x.toInt = k) : x = iI k := by rw [← h]; exact (Int32.ofInt_toInt x).symm
def jJ (k : Int) : Int64 := Int64.ofInt k
theorem jJ_t {k : Int} (h1 : -9223372036854775808 ≤ k) (h2 : k < 9223372036854775808) : (jJ k).toInt = k := Int64.toInt_ofInt_of_le h1 h2
theorem jJ_e {x : Int64} {k : Int} (h : x.toInt = k) : x = jJ k := by rw [← h]; exact (Int64.ofInt_toInt x).symm
theorem nI_i {n : Nat} (h : n < 2 ^ 31) : nI n = iI n := iI_e (ci n h)
theorem nI_m1 {n : Nat} (h : 0 < n) : nI n + (-1) = nI (n - 1) := by
  obtain ⟨k, rfl⟩ : ∃ k, n = k + 1 := ⟨n - 1, by omega⟩
  rw [← nI_1 k]
  show nI k + 1 + (-1) = nI k
  rw [Int32.add_assoc]
  exact Int32.add_zero _
theorem nI_s1 {n : Nat} (h : 0 < n) : nI n - 1 = nI (n - 1) := by
  rw [← nI_m1 h]; exact Int32.sub_eq_add_neg ..
theorem wrI_I {M : AM} {r j q i : Nat} {x : Int32} : mI (wrI M r j x) q i = if q = r ∧ i = j then x else mI M q i := rfl
theorem wrJ_i {M : AM} {r j q i : Nat} {x : Int64} : mJ (wrJ M r j x) q i = if q = r ∧ i = j then x else mJ M q i := rfl
/-! ===== PURE: a METHOD among others ===== -/
abbrev DD : Type := (Nat → Int) × (Nat → Int) × (Nat × Nat × Nat × Nat) × (Nat → Nat) × (Nat → Nat)
abbrev dO (D : DD) : Nat → Int := D.1
abbrev dA (D : DD) : Nat → Int := D.2.1
abbrev dn (D : DD) : Nat := D.2.2.1.1
abbrev dL (D : DD) : Nat := D.2.2.1.2.1
abbrev dR (D : DD) : Nat := D.2.2.1.2.2.1
abbrev dc (D : DD) : Nat := D.2.2.1.2.2.2
abbrev cA (D : DD) : Nat → Nat := D.2.2.2.1
abbrev cR (D : DD) : Nat → Nat := D.2.2.2.2
section MATH
variable {D : DD}
def stk (D : DD) : Nat → List Nat
  | 0 => []
  | i + 1 => if dO D i = 14 then i :: stk D i else if dO D i = 15 then (stk D i).tail else stk D i
def hdI : List Nat → Int
  | [] => -1
  | l :: _ => l
def ins (D : DD) (i : Nat) : Int := hdI (stk D i)
def dep (D : DD) (i : Nat) : Nat := (stk D i).length
def up1 (f : Nat → Int) (j : Nat) (x : Int) : Nat → Int := fun k => if k = j then x else f k
def mat (D : DD) : Nat → Nat → Int
  | 0 => fun _ => -1
  | j + 1 => if dO D j = 15 then match stk D j with
      | [] => mat D j
      | l :: _ => up1 (up1 (mat D j) j l) l j
    else mat D j
theorem stk_lt : ∀ (j : Nat), ∀ x ∈ stk D j, x < j
  | 0, x, h => by simp [stk] at h
  | j + 1, x, h => by
    unfold stk at h
    split at h
    · rcases List.mem_cons.mp h with e | e
      · omega
      · have := stk_lt j x e; omega
    · split at h
      · have := stk_lt j x (List.mem_of_mem_tail h); omega
      · have := stk_lt j x h; omega
theorem stk_cons : ∀ (j : Nat) {l : Nat} {t : List Nat}, stk D j = l :: t → l < j ∧ dO D l = 14 ∧ stk D l = t := by
  intro j
  induction j using Nat.strongRecOn with
  | ind j ih =>
    intro l t h
    cases j with
    | zero => simp [stk] at h
    | succ j =>
      unfold stk at h
      split at h
      · rename_i e
        injection h with h1 h2
        subst h1
        exact ⟨by omega, e, h2⟩
      · split at h
        · cases hs : stk D j with
          | nil => rw [hs] at h; simp at h
          | cons a b =>
            rw [hs] at h
            have ha := ih j (by omega) hs
            have hb : b = l :: t := h
            have := ih a (by omega) (ha.2.2.trans hb)
            exact ⟨by omega, this.2⟩
        · have := ih j (by omega) h
          exact ⟨by omega, this.2⟩
theorem dep_le : ∀ (j : Nat), dep D j ≤ j
  | 0 => by simp [dep, stk]
  | j + 1 => by
    have := dep_le j
    unfold dep at this ⊢
    unfold stk
    split
    · simp; omega
    · split
      · simp; omega
      · omega
theorem stk_after {i l : Nat} {t : List Nat} (h : stk D i = l :: t) (h15 : dO D i = 15) : ∀ (k : Nat), ∀ x ∈ stk D (i + 1 + k), x ∈ t ∨ i < x
  | 0, x, hx => by
    have e : stk D (i + 1) = t := by rw [stk, if_neg (by omega), if_pos h15, h]; rfl
    rw [Nat.add_zero, e] at hx
    exact Or.inl hx
  | k + 1, x, hx => by
    have hx' : x ∈ stk D (i + 1 + k + 1) := hx
    unfold stk at hx'
    split at hx'
    · rcases List.mem_cons.mp hx' with e | e
      · right; omega
      · exact stk_after h h15 k x e
    · split at hx'
      · exact stk_after h h15 k x (List.mem_of_mem_tail hx')
      · exact stk_after h h15 k x hx'
theorem mat_end {i l : Nat} {t : List Nat} (h : stk D i = l :: t) (h15 : dO D i = 15) : ∀ (k : Nat), mat D (i + 1 + k) i = l ∧ mat D (i + 1 + k) l = i
  | 0 => by
    have hl := stk_cons i h
    rw [Nat.add_zero]
    unfold mat
    rw [if_pos h15, h]
    simp only [up1]
    constructor
    · rw [if_neg (by omega)]; simp
    · simp
  | k + 1 => by
    have ih := mat_end h h15 k
    have hl := stk_cons i h
    show mat D (i + 1 + k + 1) i = l ∧ mat D (i + 1 + k + 1) l = i
    unfold mat
    split
    · rename_i e15
      cases hs : stk D (i + 1 + k) with
      | nil => exact ih
      | cons l' t' =>
        have hl' := stk_cons _ hs
        have hm := stk_after h h15 k l' (by rw [hs]; exact List.mem_cons_self)
        have n1 : l' ≠ l := by
          rcases hm with hm | hm
          · rw [← hl.2.2] at hm
            have := stk_lt l l' hm
            omega
          · omega
        have n2 : l' ≠ i := fun z => by rw [z] at hl'; omega
        simp only [up1]
        rw [if_neg (fun z => n2 z.symm), if_neg (by omega), if_neg (fun z => n1 z.symm), if_neg (by omega)]
        exact ih
    · exact ih
theorem mat_cases : ∀ (k i : Nat), mat D k i = -1 ∨ (dO D i = 15 ∧ i < k ∧ ∃ l t, stk D i = l :: t ∧ mat D k i = l) ∨ (dO D i = 14 ∧ ∃ j t, i < j ∧ j < k ∧ dO D j = 15 ∧ stk D j = i :: t ∧ mat D k i = j)
  | 0, i => Or.inl rfl
  | k + 1, i => by
    have ih := mat_cases k i
    have ih' : mat D k i = -1 ∨ (dO D i = 15 ∧ i < k + 1 ∧ ∃ l t, stk D i = l :: t ∧ mat D k i = l) ∨ (dO D i = 14 ∧ ∃ j t, i < j ∧ j < k + 1 ∧ dO D j = 15 ∧ stk D j = i :: t ∧ mat D k i = j) := by
      rcases ih with h | h | h
      · exact Or.inl h
      · obtain ⟨h1, h2, h3⟩ := h; exact Or.inr (Or.inl ⟨h1, by omega, h3⟩)
      · obtain ⟨h1, j, t, h2, h3, h4⟩ := h; exact Or.inr (Or.inr ⟨h1, j, t, h2, by omega, h4⟩)
    unfold mat
    split
    · rename_i e15
      cases hs : stk D k with
      | nil => exact ih'
      | cons l t =>
        have hl := stk_cons _ hs
        simp only [up1]
        by_cases e1 : i = l
        · rw [if_pos e1]
          right; right
          exact ⟨by rw [e1]; exact hl.2.1, k, t, by omega, by omega, e15, by rw [e1]; exact hs, rfl⟩
        · rw [if_neg e1]
          by_cases e2 : i = k
          · rw [if_pos e2]
            right; left
            exact ⟨by rw [e2]; exact e15, by omega, l, t, by rw [e2]; exact hs, rfl⟩
          · rw [if_neg e2]
            exact ih'
    · exact ih'
theorem mat_self {k i : Nat} (h : k ≤ i) : mat D k i = -1 := by
  rcases mat_cases (D := D) k i with h1 | h1 | h1
  · exact h1
  · omega
  · obtain ⟨_, j, _, h2, h3, _⟩ := h1; omega
theorem mat_ge (k i : Nat) : -1 ≤ mat D k i ∧ mat D k i < k ∨ mat D k i = -1 := by
  rcases mat_cases (D := D) k i with h1 | h1 | h1
  · exact Or.inr h1
  · obtain ⟨_, h2, l, t, h3, h4⟩ := h1
    have := stk_cons _ h3
    left; omega
  · obtain ⟨_, j, _, h2, h3, _, _, h6⟩ := h1
    left; omega
end MATH
