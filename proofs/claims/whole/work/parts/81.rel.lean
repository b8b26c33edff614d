/-! ===== PURE: the class and the reference, side by side ===== -/
def Kq (S : Nat → Nat → Prop) (M M' : AM) : Prop := mN M ≤ mN M' ∧ (∀ r, r < mN M → mS M' r = mS M r ∧ ∀ j, mR M' r j = mR M r j) ∧ ∀ r j, r < mN M → ¬ S r j → mI M' r j = mI M r j ∧ mJ M' r j = mJ M r j
theorem Ag.kq {S : Nat → Nat → Prop} {M M' : AM} (h : Ag S M M') : Kq S M M' := ⟨by show M.1.1 ≤ M'.1.1; rw [h.1]; exact Nat.le_refl _, fun r _ => ⟨by rw [h.2.1], fun j => by rw [h.2.2.1]⟩, fun r j _ hs => h.2.2.2 r j hs⟩
theorem Kq.tr {S : Nat → Nat → Prop} {M M1 M2 : AM} (h : Kq S M M1) (k : Kq S M1 M2) : Kq S M M2 := ⟨Nat.le_trans h.1 k.1, fun r hr => ⟨(k.2.1 r (Nat.lt_of_lt_of_le hr h.1)).1.trans (h.2.1 r hr).1, fun j => ((k.2.1 r (Nat.lt_of_lt_of_le hr h.1)).2 j).trans ((h.2.1 r hr).2 j)⟩, fun r j hr hs => ⟨(k.2.2 r j (Nat.lt_of_lt_of_le hr h.1) hs).1.trans (h.2.2 r j hr hs).1, (k.2.2 r j (Nat.lt_of_lt_of_le hr h.1) hs).2.trans (h.2.2 r j hr hs).2⟩⟩
theorem Kq.mo {S S' : Nat → Nat → Prop} {M M1 : AM} (h : Kq S M M1) (k : ∀ r j, S r j → S' r j) : Kq S' M M1 := ⟨h.1, h.2.1, fun r j hr hs => h.2.2 r j hr (fun z => hs (k r j z))⟩
theorem Kq.i {S : Nat → Nat → Prop} {M M1 : AM} {r j : Nat} (h : Kq S M M1) (hr : r < mN M) (k : ¬ S r j) : mI M1 r j = mI M r j := (h.2.2 r j hr k).1
theorem Kq.j {S : Nat → Nat → Prop} {M M1 : AM} {r j : Nat} (h : Kq S M M1) (hr : r < mN M) (k : ¬ S r j) : mJ M1 r j = mJ M r j := (h.2.2 r j hr k).2
theorem mk_kq {S : Nat → Nat → Prop} {M : AM} {k n : Nat} : Kq S M (mk M k n) := by
  refine ⟨Nat.le_succ _, fun r hr => ⟨?_, fun j => ?_⟩, fun r j hr _ => ⟨?_, ?_⟩⟩
  · show va_up (mS M) (mN M) (k, n) r = mS M r
    unfold va_up
    rw [if_neg (by omega)]
  · show row0 (mR M) (mN M) none r j = mR M r j
    unfold row0
    rw [if_neg (by omega)]
  · show row0 (mI M) (mN M) 0 r j = mI M r j
    unfold row0
    rw [if_neg (by omega)]
  · show row0 (mJ M) (mN M) 0 r j = mJ M r j
    unfold row0
    rw [if_neg (by omega)]
theorem St.kq {S : Nat → Nat → Prop} {M M' : AM} (h : St M) (a : Kq S M M') : St M' := by
  have h58 := h.1
  refine ⟨Nat.le_trans h58 a.1, fun i h1 h2 => ?_, fun i j h1 h2 h3 h4 => ?_⟩
  · rw [(a.2.1 i (by omega)).1]; exact h.2.1 i h1 h2
  · rw [(a.2.1 i (by omega)).2 j]; exact h.2.2 i j h1 h2 h3 h4
theorem Mt.kq {S : Nat → Nat → Prop} {M M' : AM} {m : Nat} (h : Mt M m) (a : Kq S M M') : Mt M' m := by
  obtain ⟨h1, h2, h3, h4, h5, h6, h7, h8, h9, h10, h11⟩ := h
  have hl := a.1
  exact ⟨h1, by omega, by rw [(a.2.1 _ (by omega)).1]; exact h3, by rw [(a.2.1 _ (by omega)).1]; exact h4, by rw [(a.2.1 _ (by omega)).1]; exact h5, by rw [(a.2.1 _ (by omega)).1]; exact h6, by rw [(a.2.1 _ (by omega)).1]; exact h7, by rw [(a.2.1 _ (by omega)).2]; exact h8, by rw [(a.2.1 _ (by omega)).2]; exact h9, by rw [(a.2.1 _ (by omega)).2]; exact h10, by rw [(a.2.1 _ (by omega)).2]; exact h11⟩
section REL
variable {P : PG} {mr : Nat → Nat} {ct : Nat → Nat}
theorem MC.kq {S : Nat → Nat → Prop} {M M' : AM} {m : Nat} {D : DD} (h : MC M m D) (a : Kq S M M') (hs : ∀ i, (i ≤ 7 → ¬ S m i) ∧ ¬ S (m + 1) i ∧ ¬ S (m + 2) i) : MC M' m D := by
  have hm := h.1.1
  have h2 := hm.2.1
  refine ⟨⟨hm.kq a, (a.i (by omega) ((hs 7).1 (by omega))).trans h.1.2.1, h.1.2.2⟩, fun i hi => ?_, (a.i (by omega) ((hs 1).1 (by omega))).trans h.2.2.1, (a.i (by omega) ((hs 2).1 (by omega))).trans h.2.2.2.1, h.2.2.2.2⟩
  rw [a.i (by omega) (hs i).2.1, a.j (by omega) (hs i).2.2]
  exact h.2.1 i hi
theorem CG.kq {S : Nat → Nat → Prop} {M M' : AM} {m : Nat} {D : DD} (h : CG M m D) (hm : Mt M m) (a : Kq S M M') (hs : ∀ i, (8 ≤ i ∧ i ≤ 9 → ¬ S m i) ∧ ¬ S (m + 3) i ∧ ¬ S (m + 4) i) : CG M' m D := by
  have h2 := hm.2.1
  refine ⟨(a.i (by omega) ((hs 8).1 (by omega))).trans h.1, (a.i (by omega) ((hs 9).1 (by omega))).trans h.2.1, fun z i hi => ?_⟩
  rw [a.i (by omega) (hs i).2.1, a.i (by omega) (hs i).2.2]
  exact h.2.2 z i hi
/-- what is irrelevant for the program and the costs -/
def Ns (r j : Nat) : Prop := r ≤ 57 ∧ ¬ (r = 4 ∧ j = 2) ∧ r ≠ 6 ∧ ¬ (r = 26 ∧ j = 4) ∧ ¬ (27 ≤ r ∧ r ≤ 33)
def SR (M : AM) (P : PG) (mr : Nat → Nat) (ct : Nat → Nat) : Prop := St M ∧ RC M P mr ∧ CH M P mr ∧ RM M P ∧ CO M ct ∧ CM2 M ct
theorem RM.kq {S : Nat → Nat → Prop} {M M' : AM} (h : RM M P) (hS : St M) (a : Kq S M M') (hs : ∀ r j, S r j → ¬ (r = 26 ∧ j = 4) ∧ ¬ (27 ≤ r ∧ r ≤ 32)) : RM M' P := by
  have h58 := hS.1
  have k4 : ¬ S 26 4 := fun z => (hs _ _ z).1 ⟨rfl, rfl⟩
  have k : ∀ r j, 27 ≤ r → r ≤ 32 → ¬ S r j := fun r j h1 h2 z => (hs _ _ z).2 ⟨h1, h2⟩
  refine ⟨(a.i (by omega) k4).trans h.1, h.2.1, fun j hj => ?_⟩
  obtain ⟨m1, m2, m3, m4, m5, m6, m7⟩ := h.2.2 j hj
  refine ⟨(a.i (by omega) (k _ _ (by omega) (by omega))).trans m1, fun i hi => ?_, (a.i (by omega) (k _ _ (by omega) (by omega))).trans m3, (a.i (by omega) (k _ _ (by omega) (by omega))).trans m4, fun i hi => ?_, (a.i (by omega) k4).trans m6, m7⟩
  · rw [a.i (by omega) (k _ _ (by omega) (by omega)), a.j (by omega) (k _ _ (by omega) (by omega))]; exact m2 i hi
  · rw [a.i (by omega) (k _ _ (by omega) (by omega)), a.i (by omega) (k _ _ (by omega) (by omega))]; exact m5 i hi
theorem SR.kq {S : Nat → Nat → Prop} {M M' : AM} (h : SR M P mr ct) (a : Kq S M M') (hs : ∀ r j, S r j → Ns r j) : SR M' P mr ct := by
  obtain ⟨hS, hR, hH, hM, hC, h2⟩ := h
  have h58 := hS.1
  have k : ∀ r j, 58 ≤ r → ¬ S r j := fun r j h1 z => by have := hs _ _ z; unfold Ns at this; omega
  have mt : ∀ j, j < pc P → 58 ≤ mr j ∧ mr j + 4 < mN M := fun j hj => ⟨(hR.1.2.2.1 j hj).2.1, (hR.1.2.2.1 j hj).2.2.1⟩
  refine ⟨hS.kq a, ⟨⟨?_, hR.1.2.1, fun j hj => ⟨?_, (hR.1.2.2.1 j hj).2.kq a⟩, hR.1.2.2.2⟩, fun j hj => ?_⟩, fun j hj => ?_, hM.kq hS a (fun r j z => by have := hs _ _ z; unfold Ns at this; omega), fun i hi => ?_, fun i hi => ?_⟩
  · exact (a.i (by omega) (fun z => by have := hs _ _ z; unfold Ns at this; omega)).trans hR.1.1
  · rw [(a.2.1 5 (by omega)).2]; exact (hR.1.2.2.1 j hj).1
  · have g := hR.2 j hj
    have q := mt j hj
    exact ⟨(a.i (by omega) (k _ _ (by omega))).trans g.1, g.2.1, g.2.2.1, g.2.2.2.kq a (fun i => ⟨fun _ => k _ _ (by omega), k _ _ (by omega), k _ _ (by omega)⟩)⟩
  · have q := mt j hj
    obtain ⟨c, c1, c2, c3⟩ := hH j hj
    exact ⟨c, c1, (a.i (by omega) (k _ _ (by omega))).trans c2, fun z => (c3 z).kq (hR.1.2.2.1 j hj).2 a (fun i => ⟨fun _ => k _ _ (by omega), k _ _ (by omega), k _ _ (by omega)⟩)⟩
  · rw [a.i (by omega) (fun z => by have := hs _ _ z; unfold Ns at this; omega)]; exact hC i hi
  · rw [a.j (by omega) (fun z => by have := hs _ _ z; unfold Ns at this; omega)]; exact h2 i hi
theorem SR.pd {M : AM} (h : SR M P mr ct) : PD P := fun j hj => ⟨(h.2.2.2.1.2.2 j hj).2.2.2.2.2.2.1, (h.2.1.2 j hj).2.2.1⟩
/-- refreshed -/
theorem SR.rf {M : AM} (h : SR M P mr ct) : ∃ M', Ev K_X2_refresh [aR (some 7)] M none M' ∧ Ag SRf M M' ∧ SR M' P mr ct ∧ AC M' P mr := by
  obtain ⟨hS, hR, hH, hM, hC, h2⟩ := h
  obtain ⟨M', e, a, r, g⟩ := v_refresh hS hR hH
  refine ⟨M', e, a, ⟨a.st hS, r, fun j hj => ⟨pc P, Nat.le_refl _, (g j hj).1, fun _ => (g j hj).2⟩, hM.ag a (fun i => by unfold SRf; omega), fun i hi => ?_, fun i hi => ?_⟩, r, fun j hj => (g j hj).2⟩
  · rw [a.i (by unfold SRf; omega)]; exact hC i hi
  · rw [a.j (by unfold SRf; omega)]; exact h2 i hi
/-! the values that are told -/
def GP (M : AM) : Prop := mI M 3 6 = mI M 26 8
def GG (M : AM) : Prop := ∃ a, a ≤ 8 ∧ mI M 3 5 = nI a ∧ mI M 26 27 = nI a ∧ ∀ x, x < a → mJ M 25 x = mJ M 50 x
def GB (M : AM) (j : Nat) : Prop := (mI M 40 j = 0 ∨ mI M 40 j = 1) ∧ (bt (mI M 11 3) j ↔ mI M 40 j = 1) ∧ (mI M 41 j = 0 ∨ mI M 41 j = 1) ∧ (bt (mI M 11 4) j ↔ mI M 41 j = 1) ∧ (mI M 42 j = 0 ∨ mI M 42 j = 1) ∧ (bt (mI M 11 5) j ↔ mI M 42 j = 1) ∧ (mI M 43 j = 0 ∨ mI M 43 j = 1) ∧ (¬ mI M 11 6 = 0 ∧ bt (mI M 11 3) j ↔ mI M 43 j = 1) ∧ (mI M 43 j = 1 → mJ M 13 j = mJ M 44 j ∧ mJ M 14 j = mJ M 45 j)
def GT (M : AM) : Prop := ∀ j, j < 32 → GB M j
def GN (M : AM) : Prop := mJ M 18 10 = mJ M 26 37 ∧ mJ M 18 11 = mJ M 26 38 ∧ mI M 18 12 = mI M 26 36 ∧ mI M 18 13 = mI M 26 39 ∧ mI M 18 14 = mI M 26 40
theorem GP.kq {S : Nat → Nat → Prop} {M M' : AM} (h : GP M) (hS : St M) (a : Kq S M M') (k : ¬ S 3 6 ∧ ¬ S 26 8) : GP M' := by
  have h58 := hS.1
  unfold GP
  rw [a.i (by omega) k.1, a.i (by omega) k.2]; exact h
theorem GG.kq {S : Nat → Nat → Prop} {M M' : AM} (h : GG M) (hS : St M) (a : Kq S M M') (k : ∀ x, ¬ S 3 5 ∧ ¬ S 26 27 ∧ ¬ S 25 x ∧ ¬ S 50 x) : GG M' := by
  have h58 := hS.1
  obtain ⟨c, c1, c2, c3, c4⟩ := h
  exact ⟨c, c1, (a.i (by omega) (k 0).1).trans c2, (a.i (by omega) (k 0).2.1).trans c3, fun x hx => by rw [a.j (by omega) (k x).2.2.1, a.j (by omega) (k x).2.2.2]; exact c4 x hx⟩
theorem GT.kq {S : Nat → Nat → Prop} {M M' : AM} (h : GT M) (hS : St M) (a : Kq S M M') (k : ∀ r j, S r j → ¬ (r = 11 ∧ 3 ≤ j ∧ j ≤ 6) ∧ r ≠ 13 ∧ r ≠ 14 ∧ ¬ (40 ≤ r ∧ r ≤ 45)) : GT M' := by
  have h58 := hS.1
  have q : ∀ r j, (r = 11 ∧ 3 ≤ j ∧ j ≤ 6) ∨ r = 13 ∨ r = 14 ∨ (40 ≤ r ∧ r ≤ 45) → ¬ S r j := fun r j z y => by have := k r j y; omega
  intro j hj
  unfold GB
  rw [a.i (r := 40) (by omega) (q _ _ (by omega)), a.i (r := 41) (by omega) (q _ _ (by omega)), a.i (r := 42) (by omega) (q _ _ (by omega)), a.i (r := 43) (by omega) (q _ _ (by omega)), a.i (r := 11) (j := 3) (by omega) (q _ _ (by omega)), a.i (r := 11) (j := 4) (by omega) (q _ _ (by omega)), a.i (r := 11) (j := 5) (by omega) (q _ _ (by omega)), a.i (r := 11) (j := 6) (by omega) (q _ _ (by omega)), a.j (r := 13) (by omega) (q _ _ (by omega)), a.j (r := 14) (by omega) (q _ _ (by omega)), a.j (r := 44) (by omega) (q _ _ (by omega)), a.j (r := 45) (by omega) (q _ _ (by omega))]
  exact h j hj
theorem GN.kq {S : Nat → Nat → Prop} {M M' : AM} (h : GN M) (hS : St M) (a : Kq S M M') (k : ∀ r j, S r j → ¬ (r = 18 ∧ 10 ≤ j ∧ j ≤ 14) ∧ ¬ (r = 26 ∧ 36 ≤ j ∧ j ≤ 40)) : GN M' := by
  have h58 := hS.1
  have q : ∀ r j, (r = 18 ∧ 10 ≤ j ∧ j ≤ 14) ∨ (r = 26 ∧ 36 ≤ j ∧ j ≤ 40) → ¬ S r j := fun r j z y => by have := k r j y; omega
  unfold GN
  rw [a.j (r := 18) (j := 10) (by omega) (q _ _ (by omega)), a.j (r := 18) (j := 11) (by omega) (q _ _ (by omega)), a.i (r := 18) (j := 12) (by omega) (q _ _ (by omega)), a.i (r := 18) (j := 13) (by omega) (q _ _ (by omega)), a.i (r := 18) (j := 14) (by omega) (q _ _ (by omega)), a.j (r := 26) (j := 37) (by omega) (q _ _ (by omega)), a.j (r := 26) (j := 38) (by omega) (q _ _ (by omega)), a.i (r := 26) (j := 36) (by omega) (q _ _ (by omega)), a.i (r := 26) (j := 39) (by omega) (q _ _ (by omega)), a.i (r := 26) (j := 40) (by omega) (q _ _ (by omega))]
  exact h
/-- nothing that is told -/
def Nv (r j : Nat) : Prop := ¬ (r = 3 ∧ (j = 5 ∨ j = 6)) ∧ ¬ (r = 26 ∧ (j = 8 ∨ j = 27 ∨ (36 ≤ j ∧ j ≤ 40))) ∧ r ≠ 25 ∧ r ≠ 50 ∧ ¬ (r = 11 ∧ 3 ≤ j ∧ j ≤ 6) ∧ r ≠ 13 ∧ r ≠ 14 ∧ ¬ (40 ≤ r ∧ r ≤ 45) ∧ ¬ (r = 18 ∧ 10 ≤ j ∧ j ≤ 14)
def GV (M : AM) : Prop := GP M ∧ GG M ∧ GT M ∧ GN M
theorem GV.kq {S : Nat → Nat → Prop} {M M' : AM} (h : GV M) (hS : St M) (a : Kq S M M') (k : ∀ r j, S r j → Nv r j) : GV M' := by
  have q : ∀ r j, ¬ Nv r j → ¬ S r j := fun r j z y => z (k r j y)
  refine ⟨h.1.kq hS a ⟨q _ _ (by unfold Nv; omega), q _ _ (by unfold Nv; omega)⟩, h.2.1.kq hS a (fun x => ⟨q _ _ (by unfold Nv; omega), q _ _ (by unfold Nv; omega), q _ _ (by unfold Nv; omega), q _ _ (by unfold Nv; omega)⟩), h.2.2.1.kq hS a (fun r j z => by have := k r j z; unfold Nv at this; omega), h.2.2.2.kq hS a (fun r j z => by have := k r j z; unfold Nv at this; omega)⟩
def GRel (M : AM) : Prop := (∃ P mr ct, SR M P mr ct) ∧ GV M
end REL
