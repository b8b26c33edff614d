theorem lvMk {M : AM} {r k k' n : Nat} (h : Lv M r k) : Lv (mk M k' n) r k := ⟨h.1, Nat.lt_succ_of_lt h.2.1, by
  show (va_up (mS M) (mN M) (k', n) r).1 = k
  rw [va_up_ne _ _ (Nat.ne_of_lt h.2.1)]
  exact h.2.2⟩
theorem lvNew {M : AM} {i k n : Nat} (h3 : 3 ≤ i) (hN : mN M = i) : Lv (mk M k n) i k := by
  subst hN
  exact ⟨h3, Nat.lt_succ_self _, by show (va_up (mS M) (mN M) (k, n) (mN M)).1 = k; rw [va_up_self]⟩
theorem at_of {L : List Cond} (h : L.all (fun w => decide (w ∈ lw_tbl) && ((goodWord w || isN w) && vx_ot w)) = true) : ∀ w ∈ L, (w ∈ gtbl ∨ w ∈ ntbl) ∧ vx_ot w = true := by
  intro w hw
  have h1 := List.all_eq_true.mp h w hw
  simp only [Bool.and_eq_true, decide_eq_true_eq, Bool.or_eq_true] at h1
  refine ⟨?_, h1.2.2⟩
  rcases h1.2.1 with h2 | h2
  · exact Or.inl (gu h1.1 h2)
  · exact Or.inr (nu h1.1 h2)
set_option maxRecDepth 100000 in
theorem at8 : ∀ w ∈ vx_atS "BoundCode" 54 (exN 8) exUp, (w ∈ gtbl ∨ w ∈ ntbl) ∧ vx_ot w = true := at_of (by decide +kernel)
set_option maxRecDepth 100000 in
theorem at9 : ∀ w ∈ vx_atS "BoundCode" 138 (exN 9) exUp, (w ∈ gtbl ∨ w ∈ ntbl) ∧ vx_ot w = true := at_of (by decide +kernel)
set_option maxRecDepth 100000 in
theorem at10 : ∀ w ∈ vx_atS "BoundCode" 98 (exN 10) exUp, (w ∈ gtbl ∨ w ∈ ntbl) ∧ vx_ot w = true := at_of (by decide +kernel)
