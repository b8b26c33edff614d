theorem tsw_out {lo : Int} {tg : List Nat} {d : Nat} {x : Int32} (ks : List Int32) (hk : (List.range tg.length).all (fun i => tg.getD i d == d || ks.any (fun k => k.toInt == lo + (i : Int))) = true) (h : ∀ k ∈ ks, ¬ x = k) : tsw lo tg d x = d := by
  unfold tsw
  by_cases h1 : x.toInt < lo
  · rw [if_pos h1]
  · rw [if_neg h1]
    by_cases h2 : (x.toInt - lo).toNat < tg.length
    · have h3 := List.all_eq_true.mp hk _ (List.mem_range.mpr h2)
      rw [Bool.or_eq_true] at h3
      rcases h3 with h3 | h3
      · exact beq_iff_eq.mp h3
      · obtain ⟨k, hk1, hk2⟩ := List.any_eq_true.mp h3
        have e : k.toInt = x.toInt := by
          have := beq_iff_eq.mp hk2
          rw [this]
          omega
        exact absurd (Int32.toInt_inj.mp e).symm (h k hk1)
    · rw [List.getD_eq_getElem?_getD, List.getElem?_eq_none (by omega)]
      rfl
theorem lsw_out {d : Nat} {x : Int32} (ks : List Int32) : ∀ {qs : List (Int × Nat)} (_ : qs.all (fun q => q.2 == d || ks.any (fun k => k.toInt == q.1)) = true) (_ : ∀ k ∈ ks, ¬ x = k), lsw qs d x = d
  | [], _, _ => rfl
  | (a, t) :: r, hk, h => by
    simp only [List.all_cons, Bool.and_eq_true, Bool.or_eq_true] at hk
    unfold lsw
    by_cases e : a = x.toInt
    · rw [if_pos e]
      rcases hk.1 with h3 | h3
      · exact beq_iff_eq.mp h3
      · obtain ⟨k, hk1, hk2⟩ := List.any_eq_true.mp h3
        have e2 : k.toInt = x.toInt := (beq_iff_eq.mp hk2).trans e
        exact absurd (Int32.toInt_inj.mp e2).symm (h k hk1)
    · rw [if_neg e]
      exact lsw_out ks hk.2 h
section MORE
variable {K : MK} {pc : Nat} {L : LVs} {st : List AV} {M M' : AM} {v : Option AV}
theorem e_aaldv {r : Nat} {x : Int32} {w : Option Nat} (hr : Lv M r 14) (hx : vp_in x (mS M r).2) (hd : decode (kC K) pc = .ok (.aaload, 1)) (hv : mR M r x.toNatClampNeg = w) (kk : E K (pc + 1) L (aR w :: st) M v M') : E K pc L (aI x :: aR (some r) :: st) M v M' := by
  subst hv
  exact e_aald hr hx hd kk
theorem e_lenIv {r n : Nat} (hr : Lv M r 11) (hn : (mS M r).2 = n) (hd : decode (kC K) pc = .ok (.arraylength, 1)) (kk : E K (pc + 1) L (aI (Int32.ofNat n) :: st) M v M') : E K pc L (aR (some r) :: st) M v M' := by
  subst hn
  exact e_lenI hr hd kk
theorem e_lenJv {r n : Nat} (hr : Lv M r 12) (hn : (mS M r).2 = n) (hd : decode (kC K) pc = .ok (.arraylength, 1)) (kk : E K (pc + 1) L (aI (Int32.ofNat n) :: st) M v M') : E K pc L (aR (some r) :: st) M v M' := by
  subst hn
  exact e_lenJ hr hd kk
theorem e_lenQv {r n : Nat} (hr : Lv M r 14) (hn : (mS M r).2 = n) (hd : decode (kC K) pc = .ok (.arraylength, 1)) (kk : E K (pc + 1) L (aI (Int32.ofNat n) :: st) M v M') : E K pc L (aR (some r) :: st) M v M' := by
  subst hn
  exact e_lenQ hr hd kk
theorem Mt.n1 {r : Nat} (h : Mt M r) : (mS M (r + 1)).2 = 120 := by rw [h.2.2.2.1]
theorem Mt.n2 {r : Nat} (h : Mt M r) : (mS M (r + 2)).2 = 120 := by rw [h.2.2.2.2.1]
theorem Mt.n3 {r : Nat} (h : Mt M r) : (mS M (r + 3)).2 = 120 := by rw [h.2.2.2.2.2.1]
theorem Mt.n4 {r : Nat} (h : Mt M r) : (mS M (r + 4)).2 = 120 := by rw [h.2.2.2.2.2.2.1]
end MORE
