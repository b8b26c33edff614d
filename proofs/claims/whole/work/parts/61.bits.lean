/-! ===== PURE: bits; closures; values by fuel ===== -/
def bt (x : Int32) (k : Nat) : Prop := x.toBitVec.getLsbD k = true
theorem bt_or {x y : Int32} {k : Nat} : bt (x ||| y) k ↔ bt x k ∨ bt y k := by
  unfold bt
  rw [Int32.toBitVec_or, BitVec.getLsbD_or, Bool.or_eq_true]
theorem bt_and {x y : Int32} {k : Nat} : bt (x &&& y) k ↔ bt x k ∧ bt y k := by
  unfold bt
  rw [Int32.toBitVec_and, BitVec.getLsbD_and, Bool.and_eq_true]
theorem bt_not {x : Int32} {k : Nat} (hk : k < 32) : bt (x ^^^ (-1)) k ↔ ¬ bt x k := by
  unfold bt
  have e : ((-1 : Int32).toBitVec).getLsbD k = true := by
    have : ∀ k : Nat, k < 32 → ((-1 : Int32).toBitVec).getLsbD k = true := by decide
    exact this k hk
  rw [Int32.toBitVec_xor, BitVec.getLsbD_xor, e]
  simp
theorem bt_bit {c k : Nat} (hc : c < 32) (hk : k < 32) : bt ((1 : Int32) <<< (nI c &&& 31)) k ↔ k = c := by
  have : ∀ c : Nat, c < 32 → ∀ k : Nat, k < 32 → (((1 : Int32) <<< (nI c &&& 31)).toBitVec.getLsbD k = true ↔ k = c) := by decide +kernel
  exact this c hc k hk
theorem bt_0 {k : Nat} : ¬ bt 0 k := by
  unfold bt
  show ¬ (0#32).getLsbD k = true
  simp
theorem bt_hi {x : Int32} {k : Nat} (h : 32 ≤ k) : ¬ bt x k := by
  unfold bt
  rw [BitVec.getLsbD_of_ge _ _ h]
  simp
theorem bt_z {x : Int32} : x = 0 ↔ ∀ k, k < 32 → ¬ bt x k := by
  constructor
  · intro z k _
    rw [z]
    exact bt_0
  · intro z
    apply Int32.toBitVec_inj.mp
    apply BitVec.eq_of_getLsbD_eq
    intro i hi
    have := z i hi
    unfold bt at this
    show _ = (0#32).getLsbD i
    rw [Bool.eq_false_iff.mpr this]
    simp
theorem bt_shr {x : Int32} {k : Nat} (hk : k < 32) : ((x.toUInt32 >>> ((nI k).toUInt32 &&& Int32.toUInt32 31)).toInt32 &&& 1 = 1 ∨ (x.toUInt32 >>> ((nI k).toUInt32 &&& Int32.toUInt32 31)).toInt32 &&& 1 = 0) ∧ ((x.toUInt32 >>> ((nI k).toUInt32 &&& Int32.toUInt32 31)).toInt32 &&& 1 = 1 ↔ bt x k) := by
  have e : ∀ k : Nat, k < 32 → ((nI k).toUInt32 &&& Int32.toUInt32 31).toBitVec % 32#32 = BitVec.ofNat 32 k ∧ (BitVec.ofNat 32 k).toNat = k := by decide
  obtain ⟨e1, e2⟩ := e k hk
  have eb : ((x.toUInt32 >>> ((nI k).toUInt32 &&& Int32.toUInt32 31)).toInt32 &&& 1 : Int32).toBitVec = (x.toBitVec >>> k) &&& 1#32 := by
    rw [Int32.toBitVec_and]
    show ((x.toUInt32 >>> ((nI k).toUInt32 &&& Int32.toUInt32 31)).toBitVec) &&& 1#32 = _
    rw [UInt32.toBitVec_shiftRight]
    show (x.toBitVec >>> (((nI k).toUInt32 &&& Int32.toUInt32 31).toBitVec % 32#32)) &&& 1#32 = _
    rw [e1, BitVec.ushiftRight_eq', e2]
  have g : ∀ i, ((x.toBitVec >>> k) &&& 1#32).getLsbD i = (decide (i = 0) && x.toBitVec.getLsbD k) := fun i => by
    rw [BitVec.getLsbD_and, BitVec.getLsbD_ushiftRight, BitVec.getLsbD_one]
    by_cases c : i = 0
    · subst c; simp
    · simp [c]
  have one : ((x.toUInt32 >>> ((nI k).toUInt32 &&& Int32.toUInt32 31)).toInt32 &&& 1 : Int32) = 1 ↔ bt x k := by
    rw [← Int32.toBitVec_inj, eb]
    show _ = 1#32 ↔ _
    constructor
    · intro z
      have := g 0
      rw [z] at this
      unfold bt
      simpa using this.symm
    · intro z
      unfold bt at z
      apply BitVec.eq_of_getLsbD_eq
      intro i hi
      rw [g i, z, BitVec.getLsbD_one]
      simp [hi]
  refine ⟨?_, one⟩
  by_cases c : bt x k
  · exact Or.inl (one.mpr c)
  · right
    rw [← Int32.toBitVec_inj, eb]
    show _ = 0#32
    apply BitVec.eq_of_getLsbD_eq
    intro i hi
    unfold bt at c
    rw [g i, Bool.eq_false_iff.mpr c]
    simp
/-! closures -/
def cloR (R : Nat → Nat → Prop) : Nat → Nat → Nat → Prop
  | 0 => R
  | v + 1 => fun a b => cloR R v a b ∨ (cloR R v a v ∧ cloR R v v b)
theorem cloR_dir {R : Nat → Nat → Prop} : ∀ (v : Nat) {a b : Nat}, R a b → cloR R v a b
  | 0, _, _, h => h
  | v + 1, _, _, h => Or.inl (cloR_dir v h)
theorem cloR_in {R Q : Nat → Nat → Prop} (hR : ∀ a b, R a b → Q a b) (hQ : ∀ a b c, Q a b → Q b c → Q a c) : ∀ (v : Nat) {a b : Nat}, cloR R v a b → Q a b
  | 0, a, b, h => hR a b h
  | v + 1, a, b, h => h.elim (cloR_in hR hQ v) (fun z => hQ a v b (cloR_in hR hQ v z.1) (cloR_in hR hQ v z.2))
theorem cloR_tr {R : Nat → Nat → Prop} : ∀ (v w : Nat), w < v → ∀ {a b : Nat}, cloR R v a w → cloR R v w b → cloR R v a b
  | 0, w, h, _, _, _, _ => by omega
  | v + 1, w, h, a, b, h1, h2 => by
    by_cases e : w = v
    · subst e
      have q1 : cloR R w a w := h1.elim id (fun z => z.1)
      have q2 : cloR R w w b := h2.elim id (fun z => z.2)
      exact Or.inr ⟨q1, q2⟩
    · have t : ∀ {a b : Nat}, cloR R v a w → cloR R v w b → cloR R v a b := cloR_tr v w (by omega)
      rcases h1 with h1 | h1 <;> rcases h2 with h2 | h2
      · exact Or.inl (t h1 h2)
      · exact Or.inr ⟨t h1 h2.1, h2.2⟩
      · exact Or.inr ⟨h1.1, t h1.2 h2⟩
      · exact Or.inr ⟨h1.1, h2.2⟩
theorem cloR_row {R : Nat → Nat → Prop} {v b : Nat} : cloR R (v + 1) v b ↔ cloR R v v b := ⟨fun h => h.elim id (fun z => z.2), Or.inl⟩
theorem cloR_col {R : Nat → Nat → Prop} {v a : Nat} : cloR R (v + 1) a v ↔ cloR R v a v := ⟨fun h => h.elim id (fun z => z.1), Or.inl⟩
/-- a set that is not empty has one that comes to none of it -/
theorem min_ex {Q : Nat → Nat → Prop} : ∀ (n : Nat) (W : Nat → Prop), (∀ j, W j → j < n) → (∃ j, W j) → (∀ j, W j → ¬ Q j j) → (∀ a b c, W b → Q a b → Q b c → Q a c) → ∃ j, W j ∧ ∀ b, W b → ¬ Q j b
  | 0, W, h, ⟨j, hj⟩, _, _ => by have := h j hj; omega
  | n + 1, W, h, hne, hirr, htr => by
    by_cases c : ∃ j, W j ∧ j < n
    · obtain ⟨j0, h1, h2⟩ := min_ex n (fun j => W j ∧ j < n) (fun j z => z.2) c (fun j z => hirr j z.1) (fun a b c z => htr a b c z.1)
      by_cases c2 : W n ∧ Q j0 n
      · refine ⟨n, c2.1, fun b hb q => ?_⟩
        by_cases e : b = n
        · rw [e] at q; exact hirr n c2.1 q
        · exact h2 b ⟨hb, by have := h b hb; omega⟩ (htr j0 n b c2.1 c2.2 q)
      · refine ⟨j0, h1.1, fun b hb q => ?_⟩
        by_cases e : b = n
        · rw [e] at q hb; exact c2 ⟨hb, q⟩
        · exact h2 b ⟨hb, by have := h b hb; omega⟩ q
    · obtain ⟨j, hj⟩ := hne
      have e : ∀ b, W b → b = n := fun b hb => by
        have := h b hb
        by_cases q : b < n
        · exact absurd ⟨b, hb, q⟩ c
        · omega
      refine ⟨j, hj, fun b hb q => ?_⟩
      have h1 := e j hj
      have h2 := e b hb
      rw [h1] at q hj
      rw [h2] at q
      exact hirr n hj q
/-- how many below k have it -/
noncomputable def cnt (W : Nat → Prop) : Nat → Nat
  | 0 => 0
  | k + 1 => cnt W k + (Classical.propDecidable (W k)).casesOn (fun _ => 0) (fun _ => 1)
theorem cnt_pos {W : Nat → Prop} {k : Nat} (h : W k) : cnt W (k + 1) = cnt W k + 1 := by
  show cnt W k + _ = _
  cases Classical.propDecidable (W k) with
  | isFalse z => exact absurd h z
  | isTrue z => rfl
theorem cnt_neg {W : Nat → Prop} {k : Nat} (h : ¬ W k) : cnt W (k + 1) = cnt W k := by
  show cnt W k + _ = _
  cases Classical.propDecidable (W k) with
  | isFalse z => rfl
  | isTrue z => exact absurd z h
theorem cnt_le {W : Nat → Prop} : ∀ k, cnt W k ≤ k
  | 0 => Nat.le_refl _
  | k + 1 => by
    have := cnt_le (W := W) k
    by_cases c : W k
    · rw [cnt_pos c]; omega
    · rw [cnt_neg c]; omega
theorem cnt_mono {W V : Nat → Prop} : ∀ k, (∀ j, j < k → W j → V j) → cnt W k ≤ cnt V k
  | 0, _ => Nat.le_refl _
  | k + 1, h => by
    have := cnt_mono (W := W) (V := V) k (fun j hj => h j (by omega))
    by_cases c : W k
    · rw [cnt_pos c, cnt_pos (h k (by omega) c)]; omega
    · rw [cnt_neg c]
      by_cases d : V k
      · rw [cnt_pos d]; omega
      · rw [cnt_neg d]; exact this
theorem cnt_lt {W V : Nat → Prop} : ∀ k, (∀ j, j < k → W j → V j) → (∃ j, j < k ∧ V j ∧ ¬ W j) → cnt W k < cnt V k
  | 0, _, ⟨j, hj, _⟩ => by omega
  | k + 1, h, ⟨j, hj, h1, h2⟩ => by
    by_cases e : j = k
    · subst e
      rw [cnt_neg h2, cnt_pos h1]
      have := cnt_mono (W := W) (V := V) j (fun i hi => h i (by omega))
      omega
    · have := cnt_lt (W := W) (V := V) k (fun i hi => h i (by omega)) ⟨j, by omega, h1, h2⟩
      by_cases c : W k
      · rw [cnt_pos c, cnt_pos (h k (by omega) c)]; omega
      · rw [cnt_neg c]
        by_cases d : V k
        · rw [cnt_pos d]; omega
        · rw [cnt_neg d]; exact this
theorem cnt_0 {W : Nat → Prop} : ∀ k, cnt W k = 0 → ∀ j, j < k → ¬ W j
  | 0, _, j, hj => by omega
  | k + 1, h, j, hj => by
    intro w
    by_cases c : W k
    · rw [cnt_pos c] at h; omega
    · rw [cnt_neg c] at h
      by_cases e : j = k
      · rw [e] at w; exact c w
      · exact cnt_0 k h j (by omega) w
