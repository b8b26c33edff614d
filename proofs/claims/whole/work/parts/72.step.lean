/-! ===== PURE: one step of a RUN, in frames ===== -/
def PD (P : PG) : Prop := ∀ j, j < pc P → Ds (DP P j) ∧ pA P j ≤ pL P j
def OKF (P : PG) (F : Fr) (e : Nat) : Prop := Fj F < pc P ∧ Sd (DP P (Fj F)) ∧ Fi F < pn P (Fj F) ∧ HH (DP P (Fj F)) (Fi F) = (Fh F + e : Nat) ∧ Fl F = dep (DP P (Fj F)) (Fi F) ∧ (∀ l, l ∈ stk (DP P (Fj F)) (Fi F) → 0 ≤ HH (DP P (Fj F)) l ∧ 0 < dA (DP P (Fj F)) l) ∧ ∀ k, k < Fl F → 1 ≤ Ft F k ∧ Ft F k ≤ 1000000000
def OKL (P : PG) : Nat → List Fr → Prop
  | _, [] => True
  | e, F :: r => OKF P F e ∧ OKL P (pR P (Fj F)) r
def nf (P : PG) (F : Fr) : Fr := if po P (Fj F) (Fi F) ≤ 11 then hf (pL P (Fj F)) (po P (Fj F) (Fi F)) (pa P (Fj F) (Fi F)) (fN F (Fi F + 1)) else gf (DP P (Fj F)) F
theorem nf_def {P : PG} {F : Fr} : nf P F = if po P (Fj F) (Fi F) ≤ 11 then hf (pL P (Fj F)) (po P (Fj F) (Fi F)) (pa P (Fj F) (Fi F)) (fN F (Fi F + 1)) else gf (DP P (Fj F)) F := rfl
/-- the caller while it waits -/
def cf (P : PG) (F : Fr) : Fr := ((Fj F, Fi F + 1, Fh F - pA P (pa P (Fj F) (Fi F)).toNat, Fl F), Fw F, Ft F)
/-- the callee's frame -/
def ef (P : PG) (F : Fr) : Fr := nfr P (pa P (Fj F) (Fi F)).toNat (fun x => Fw F (pL P (Fj F) + (Fh F - pA P (pa P (Fj F) (Fi F)).toNat) + x))
/-- the caller behind a RETURN -/
def bf (P : PG) (F G : Fr) : Fr := if 0 < pR P (Fj F) then fP (pL P (Fj G)) G (ans P F) else G
theorem dep8 {D : DD} (h : Sd D) {i : Nat} (hi : i ≤ dn D) : dep D i ≤ 8 := by
  unfold dep
  cases hs : stk D i with
  | nil => simp
  | cons l t =>
    have hl := stk_cons i hs
    have := (ffl (h.ff (i := l) (by omega)) hl.2.1).2.2.2
    unfold dep at this
    rw [hl.2.2] at this
    simp; omega
theorem PD.ds {P : PG} (h : PD P) {j : Nat} (hj : j < pc P) : Ds (DP P j) := (h j hj).1
theorem hf_s {D : DD} {i : Nat} {F : Fr} {L : Nat} (h0 : 0 ≤ dO D i) (h11 : dO D i ≤ 11) (H : HO L (dO D i) (dA D i) F) : Fj (hf L (dO D i) (dA D i) F) = Fj F ∧ Fi (hf L (dO D i) (dA D i) F) = Fi F ∧ Fl (hf L (dO D i) (dA D i) F) = Fl F ∧ Ft (hf L (dO D i) (dA D i) F) = Ft F ∧ (Fh (hf L (dO D i) (dA D i) F) : Int) = Fh F - tk D i + gv D i := by
  obtain ⟨q0, q1, q2, q3, q9, q10, q11⟩ := H
  unfold hf
  rcases (by omega : dO D i = 0 ∨ dO D i = 1 ∨ dO D i = 2 ∨ dO D i = 3 ∨ dO D i = 9 ∨ dO D i = 10 ∨ dO D i = 11 ∨ (4 ≤ dO D i ∧ dO D i ≤ 8)) with e | e | e | e | e | e | e | e
  · rw [if_pos e]; refine ⟨rfl, rfl, rfl, rfl, ?_⟩; show ((Fh F + 1 : Nat) : Int) = _; clear q0 q1 q2 q3 q9 q10 q11; unfold tk gv; (repeat' split) <;> omega
  · rw [if_neg (by omega), if_pos e]; refine ⟨rfl, rfl, rfl, rfl, ?_⟩; show ((Fh F - 1 : Nat) : Int) = _; have := q1 e; clear q0 q1 q2 q3 q9 q10 q11; unfold tk gv; (repeat' split) <;> omega
  · rw [if_neg (by omega), if_neg (by omega), if_pos e]; refine ⟨rfl, rfl, rfl, rfl, ?_⟩; show ((Fh F + 1 : Nat) : Int) = _; clear q0 q1 q2 q3 q9 q10 q11; unfold tk gv; (repeat' split) <;> omega
  · rw [if_neg (by omega), if_neg (by omega), if_neg (by omega), if_pos e]; refine ⟨rfl, rfl, rfl, rfl, ?_⟩; show ((Fh F : Nat) : Int) = _; clear q0 q1 q2 q3 q9 q10 q11; unfold tk gv; (repeat' split) <;> omega
  · rw [if_neg (by omega), if_neg (by omega), if_neg (by omega), if_neg (by omega), if_pos e]; refine ⟨rfl, rfl, rfl, rfl, ?_⟩; show ((Fh F + 1 : Nat) : Int) = _; clear q0 q1 q2 q3 q9 q10 q11; unfold tk gv; (repeat' split) <;> omega
  · rw [if_neg (by omega), if_neg (by omega), if_neg (by omega), if_neg (by omega), if_neg (by omega), if_pos e]; refine ⟨rfl, rfl, rfl, rfl, ?_⟩; show ((Fh F - 1 : Nat) : Int) = _; have := q10 e; clear q0 q1 q2 q3 q9 q10 q11; unfold tk gv; (repeat' split) <;> omega
  · rw [if_neg (by omega), if_neg (by omega), if_neg (by omega), if_neg (by omega), if_neg (by omega), if_neg (by omega), if_pos e]; refine ⟨rfl, rfl, rfl, rfl, ?_⟩; show ((Fh F + 1 : Nat) : Int) = _; clear q0 q1 q2 q3 q9 q10 q11; unfold tk gv; (repeat' split) <;> omega
  · rw [if_neg (by omega), if_neg (by omega), if_neg (by omega), if_neg (by omega), if_neg (by omega), if_neg (by omega), if_neg (by omega)]; refine ⟨rfl, rfl, rfl, rfl, ?_⟩; show ((Fh F - 1 : Nat) : Int) = _; have := q3 (by omega); clear q0 q1 q2 q3 q9 q10 q11; unfold tk gv; (repeat' split) <;> omega
section STP
variable {P : PG}
theorem OKF.rng {F : Fr} {e : Nat} (hP : PD P) (h : OKF P F e) : Fh F + e ≤ 100 ∧ Fl F ≤ 8 ∧ pL P (Fj F) ≤ 16 ∧ pR P (Fj F) ≤ 1 ∧ pn P (Fj F) ≤ 120 := by
  have hd := hP.ds h.1
  have h1 := (h.2.1.r hd (i := Fi F) h.2.2.1).2
  rw [h.2.2.2.1] at h1
  have h2 := dep8 h.2.1 (i := Fi F) (Nat.le_of_lt h.2.2.1)
  rw [← h.2.2.2.2.1] at h2
  exact ⟨by omega, h2, hd.2.1, hd.2.2.1, hd.1⟩
theorem OKL.szr (hP : PD P) : ∀ (r : List Fr) (e : Nat), OKL P e r → sz P r ≤ 116 * r.length ∧ lz r ≤ 8 * r.length
  | [], _, _ => ⟨Nat.le_refl _, Nat.le_refl _⟩
  | F :: r, e, h => by
    have i := OKL.szr hP r _ h.2
    have q := h.1.rng hP
    have e1 : sz P (F :: r) = sz P r + (pL P (Fj F) + Fh F) := rfl
    have e2 : lz (F :: r) = lz r + Fl F := rfl
    have e3 : (F :: r).length = r.length + 1 := rfl
    omega
theorem OKL.rm (hP : PD P) {F : Fr} {r : List Fr} {e : Nat} (h : OKL P e (F :: r)) (hl : r.length < 100) : Rm P F r :=
  ⟨hl, (OKL.szr hP r _ h.2).1, (OKL.szr hP r _ h.2).2, by have := (h.1.rng hP).1; omega, (h.1.rng hP).2.1, (h.1.rng hP).2.2.1⟩
theorem OKF.ho {F : Fr} (hP : PD P) (h : OKF P F 0) (h11 : po P (Fj F) (Fi F) ≤ 11) : HO (pL P (Fj F)) (po P (Fj F) (Fi F)) (pa P (Fj F) (Fi F)) (fN F (Fi F + 1)) := by
  have hd := hP.ds h.1
  have h0 : 0 ≤ HH (DP P (Fj F)) (Fi F) := by rw [h.2.2.2.1]; omega
  have g := h.2.1.g hd (i := Fi F) h.2.2.1 h0
  have f := (ff0 (h.2.1.ff (i := Fi F) h.2.2.1)).1
  have hh : HH (DP P (Fj F)) (Fi F) = Fh F := h.2.2.2.1
  have g1 : tk (DP P (Fj F)) (Fi F) ≤ Fh F := by rw [← hh]; exact g.1
  have g2 : (Fh F : Int) - tk (DP P (Fj F)) (Fi F) + gv (DP P (Fj F)) (Fi F) ≤ 100 := by rw [← hh]; exact g.2.1
  clear g
  have f9 : dO (DP P (Fj F)) (Fi F) = 9 ∨ dO (DP P (Fj F)) (Fi F) = 10 → 0 ≤ dA (DP P (Fj F)) (Fi F) ∧ dA (DP P (Fj F)) (Fi F) < dL (DP P (Fj F)) := by clear g1 g2; intro z; omega
  have f11 : dO (DP P (Fj F)) (Fi F) = 11 → 0 ≤ dA (DP P (Fj F)) (Fi F) := by clear g1 g2; intro z; omega
  have f9' : po P (Fj F) (Fi F) = 9 ∨ po P (Fj F) (Fi F) = 10 → 0 ≤ pa P (Fj F) (Fi F) ∧ pa P (Fj F) (Fi F) < pL P (Fj F) := f9
  have f11' : po P (Fj F) (Fi F) = 11 → 0 ≤ pa P (Fj F) (Fi F) := f11
  clear f9 f11
  have et : ∀ (o a : Int), po P (Fj F) (Fi F) = o → pa P (Fj F) (Fi F) = a → tk (DP P (Fj F)) (Fi F) = if o = 11 then a + 1 else if o = 16 then cA (DP P (Fj F)) a.toNat else if o = 17 then dR (DP P (Fj F)) else if o = 1 ∨ o = 2 ∨ o = 10 ∨ o = 13 then 1 else if 3 ≤ o ∧ o ≤ 8 then 2 else 0 := by
    intro o a e1 e2; rw [← e1, ← e2]; rfl
  have eg : ∀ (o a : Int), po P (Fj F) (Fi F) = o → pa P (Fj F) (Fi F) = a → gv (DP P (Fj F)) (Fi F) = if o = 11 then a + 2 else if o = 16 then cR (DP P (Fj F)) a.toNat else if o = 0 ∨ (4 ≤ o ∧ o ≤ 9) then 1 else if o = 2 ∨ o = 3 then 2 else 0 := by
    intro o a e1 e2; rw [← e1, ← e2]; rfl
  have et' := et _ _ rfl rfl
  have eg' := eg _ _ rfl rfl
  clear et eg f
  generalize po P (Fj F) (Fi F) = o at *
  generalize pa P (Fj F) (Fi F) = a at *
  generalize tk (DP P (Fj F)) (Fi F) = T at *
  generalize gv (DP P (Fj F)) (Fi F) = G at *
  unfold HO
  show (o = 0 → Fh F < 100) ∧ (o = 1 → 1 ≤ Fh F) ∧ (o = 2 → 1 ≤ Fh F ∧ Fh F < 100) ∧ (3 ≤ o ∧ o ≤ 8 → 2 ≤ Fh F) ∧ (o = 9 → 0 ≤ a ∧ a < pL P (Fj F) ∧ Fh F < 100) ∧ (o = 10 → 0 ≤ a ∧ a < pL P (Fj F) ∧ 1 ≤ Fh F) ∧ (o = 11 → 0 ≤ a ∧ a + 1 ≤ Fh F ∧ Fh F < 100)
  refine ⟨fun e => ?_, fun e => ?_, fun e => ?_, fun e => ?_, fun e => ?_, fun e => ?_, fun e => ?_⟩
  all_goals (clear h hd h0 hh; (try have f9 := f9' (by omega)); (try have f11 := f11' (by omega)); (repeat' split at et') <;> (repeat' split at eg') <;> omega)
theorem OKF.k13 {F : Fr} (hP : PD P) (h : OKF P F 0) (e : po P (Fj F) (Fi F) = 13) : 1 ≤ Fh F := by
  have h0 : 0 ≤ HH (DP P (Fj F)) (Fi F) := by rw [h.2.2.2.1]; omega
  have g := (h.2.1.g (hP.ds h.1) (i := Fi F) h.2.2.1 h0).1
  have hh : HH (DP P (Fj F)) (Fi F) = Fh F := h.2.2.2.1
  have e' : dO (DP P (Fj F)) (Fi F) = 13 := e
  rw [hh] at g
  unfold tk at g
  (repeat' split at g) <;> omega
theorem OKF.k14 {F : Fr} {x : Nat} (h : OKF P F x) (e : po P (Fj F) (Fi F) = 14) : Fl F < 8 := by
  rw [h.2.2.2.2.1]
  exact (ffl (h.2.1.ff (i := Fi F) h.2.2.1) e).2.2.2
theorem OKF.k15 {F : Fr} {x : Nat} (h : OKF P F x) (e : po P (Fj F) (Fi F) = 15) : 1 ≤ Fl F ∧ 1 ≤ Ft F (Fl F - 1) ∧ Ft F (Fl F - 1) ≤ 1000000000 := by
  have hm := ffe (h.2.1.ff (i := Fi F) h.2.2.1) e
  obtain ⟨l, z1, z2, z3, z4, z5, z6⟩ := end_loop (D := DP P (Fj F)) e h.2.2.1 hm
  have : 1 ≤ Fl F := by rw [h.2.2.2.2.1]; unfold dep; rw [z4]; simp
  exact ⟨this, h.2.2.2.2.2.2 (Fl F - 1) (by omega)⟩
theorem OKF.nx {F : Fr} (hP : PD P) (h : OKF P F 0) (h16 : po P (Fj F) (Fi F) ≠ 16) (h17 : po P (Fj F) (Fi F) ≠ 17) : OKF P (nf P F) 0 ∧ Fj (nf P F) = Fj F := by
  have hd := hP.ds h.1
  have h0 : 0 ≤ HH (DP P (Fj F)) (Fi F) := by rw [h.2.2.2.1]; omega
  have hh : HH (DP P (Fj F)) (Fi F) = Fh F := h.2.2.2.1
  have hff := h.2.1.ff (i := Fi F) h.2.2.1
  have fo : 0 ≤ po P (Fj F) (Fi F) ∧ po P (Fj F) (Fi F) < 18 := ffo hff
  rw [nf_def]
  by_cases e11 : po P (Fj F) (Fi F) ≤ 11
  · rw [if_pos e11]
    have hs := hf_s (D := DP P (Fj F)) (i := Fi F) (F := fN F (Fi F + 1)) (L := pL P (Fj F)) fo.1 e11 (h.ho hP e11)
    have hn := met_next h.2.1 hd (i := Fi F) h.2.2.1 h0 (by show po P (Fj F) (Fi F) ≠ 12; omega) (by show po P (Fj F) (Fi F) ≠ 17; omega) (fun z => by have : po P (Fj F) (Fi F) = 14 := z; omega)
    have hk := stk_next (D := DP P (Fj F)) (i := Fi F) (by show po P (Fj F) (Fi F) ≠ 14; omega) (by show po P (Fj F) (Fi F) ≠ 15; omega)
    change Fj (hf (pL P (Fj F)) (po P (Fj F) (Fi F)) (pa P (Fj F) (Fi F)) (fN F (Fi F + 1))) = Fj F ∧ Fi (hf (pL P (Fj F)) (po P (Fj F) (Fi F)) (pa P (Fj F) (Fi F)) (fN F (Fi F + 1))) = Fi F + 1 ∧ Fl (hf (pL P (Fj F)) (po P (Fj F) (Fi F)) (pa P (Fj F) (Fi F)) (fN F (Fi F + 1))) = Fl F ∧ Ft (hf (pL P (Fj F)) (po P (Fj F) (Fi F)) (pa P (Fj F) (Fi F)) (fN F (Fi F + 1))) = Ft F ∧ (Fh (hf (pL P (Fj F)) (po P (Fj F) (Fi F)) (pa P (Fj F) (Fi F)) (fN F (Fi F + 1))) : Int) = Fh F - tk (DP P (Fj F)) (Fi F) + gv (DP P (Fj F)) (Fi F) at hs
    generalize hf (pL P (Fj F)) (po P (Fj F) (Fi F)) (pa P (Fj F) (Fi F)) (fN F (Fi F + 1)) = Q at hs ⊢
    obtain ⟨s1, s2, s3, s4, s5⟩ := hs
    refine ⟨?_, s1⟩
    unfold OKF
    rw [s1, s2, s3, s4]
    refine ⟨h.1, h.2.1, hn.1, ?_, ?_, ?_, h.2.2.2.2.2.2⟩
    · rw [hn.2.2]; unfold bhd; rw [hh]; omega
    · rw [h.2.2.2.2.1]; unfold dep; rw [hk]
    · rw [hk]; exact h.2.2.2.2.2.1
  · rw [if_neg e11]
    unfold gf
    rcases (by omega : po P (Fj F) (Fi F) = 12 ∨ po P (Fj F) (Fi F) = 13 ∨ po P (Fj F) (Fi F) = 14 ∨ po P (Fj F) (Fi F) = 15) with e | e | e | e
    · have e' : dO (DP P (Fj F)) (Fi F) = 12 := e
      rw [if_pos e']
      have hj := met_jump h.2.1 hd (i := Fi F) h.2.2.1 h0 (Or.inl e')
      have hk := stk_jump hff (Or.inl e')
      refine ⟨⟨h.1, h.2.1, hj.1, ?_, ?_, ?_, h.2.2.2.2.2.2⟩, rfl⟩
      · show HH (DP P (Fj F)) (dA (DP P (Fj F)) (Fi F)).toNat = (Fh F : Nat)
        rw [hj.2.2]; unfold bhd tk gv; rw [hh]; (repeat' split) <;> omega
      · show Fl F = dep (DP P (Fj F)) (dA (DP P (Fj F)) (Fi F)).toNat
        rw [h.2.2.2.2.1]; unfold dep; rw [hk]
      · show ∀ l, l ∈ stk (DP P (Fj F)) (dA (DP P (Fj F)) (Fi F)).toNat → _
        rw [hk]; exact h.2.2.2.2.2.1
    · have e' : dO (DP P (Fj F)) (Fi F) = 13 := e
      have h1 := h.k13 hP e
      rw [if_neg (by omega), if_pos e']
      have hj := met_jump h.2.1 hd (i := Fi F) h.2.2.1 h0 (Or.inr e')
      have hk := stk_jump hff (Or.inr e')
      have hn := met_next h.2.1 hd (i := Fi F) h.2.2.1 h0 (by omega) (by omega) (fun z => by omega)
      have hk2 := stk_next (D := DP P (Fj F)) (i := Fi F) (by omega) (by omega)
      have eb : bhd (DP P (Fj F)) (Fi F) (HH (DP P (Fj F))) = (Fh F - 1 : Nat) := by unfold bhd tk gv; rw [hh]; (repeat' split) <;> omega
      by_cases z : Fw F (dL (DP P (Fj F)) + Fh F - 1) = 0
      · rw [if_pos z]
        refine ⟨⟨h.1, h.2.1, hj.1, ?_, ?_, ?_, h.2.2.2.2.2.2⟩, rfl⟩
        · show HH (DP P (Fj F)) (dA (DP P (Fj F)) (Fi F)).toNat = (Fh F - 1 : Nat)
          rw [hj.2.2, eb]
        · show Fl F = dep (DP P (Fj F)) (dA (DP P (Fj F)) (Fi F)).toNat
          rw [h.2.2.2.2.1]; unfold dep; rw [hk]
        · show ∀ l, l ∈ stk (DP P (Fj F)) (dA (DP P (Fj F)) (Fi F)).toNat → _
          rw [hk]; exact h.2.2.2.2.2.1
      · rw [if_neg z]
        refine ⟨⟨h.1, h.2.1, hn.1, ?_, ?_, ?_, h.2.2.2.2.2.2⟩, rfl⟩
        · show HH (DP P (Fj F)) (Fi F + 1) = (Fh F - 1 : Nat)
          rw [hn.2.2, eb]
        · show Fl F = dep (DP P (Fj F)) (Fi F + 1)
          rw [h.2.2.2.2.1]; unfold dep; rw [hk2]
        · show ∀ l, l ∈ stk (DP P (Fj F)) (Fi F + 1) → _
          rw [hk2]; exact h.2.2.2.2.2.1
    · have e' : dO (DP P (Fj F)) (Fi F) = 14 := e
      have hl := ffl hff e'
      rw [if_neg (by omega), if_neg (by omega), if_pos e']
      have eb : bhd (DP P (Fj F)) (Fi F) (HH (DP P (Fj F))) = (Fh F : Nat) := by unfold bhd tk gv; rw [hh]; (repeat' split) <;> omega
      by_cases z : dA (DP P (Fj F)) (Fi F) = 0
      · rw [if_pos z]
        have hb := met_beh h.2.1 hd (i := Fi F) h.2.2.1 h0 e' z
        obtain ⟨p, p1, p2, p3, p4, p5, p6, p7, p8⟩ := loop_end e' hl.2.2.1
        refine ⟨⟨h.1, h.2.1, hb.1, ?_, ?_, ?_, h.2.2.2.2.2.2⟩, rfl⟩
        · show HH (DP P (Fj F)) (beh (DP P (Fj F)) (Fi F)) = (Fh F : Nat)
          rw [hb.2.2, eb]
        · show Fl F = dep (DP P (Fj F)) (beh (DP P (Fj F)) (Fi F))
          rw [h.2.2.2.2.1, p8]; unfold dep; rw [p6]
        · show ∀ l, l ∈ stk (DP P (Fj F)) (beh (DP P (Fj F)) (Fi F)) → _
          rw [p8, p6]; exact h.2.2.2.2.2.1
      · rw [if_neg z]
        have hn := met_next h.2.1 hd (i := Fi F) h.2.2.1 h0 (by omega) (by omega) (fun _ => z)
        have hk := stk_in e'
        refine ⟨⟨h.1, h.2.1, hn.1, ?_, ?_, ?_, ?_⟩, rfl⟩
        · show HH (DP P (Fj F)) (Fi F + 1) = (Fh F : Nat)
          rw [hn.2.2, eb]
        · show Fl F + 1 = dep (DP P (Fj F)) (Fi F + 1)
          rw [h.2.2.2.2.1]; unfold dep; rw [hk]; rfl
        · show ∀ l, l ∈ stk (DP P (Fj F)) (Fi F + 1) → 0 ≤ HH (DP P (Fj F)) l ∧ 0 < dA (DP P (Fj F)) l
          rw [hk]
          intro l hl'
          rcases List.mem_cons.mp hl' with q | q
          · rw [q]; exact ⟨h0, by omega⟩
          · exact h.2.2.2.2.2.1 l q
        · show ∀ k, k < Fl F + 1 → 1 ≤ up1 (Ft F) (Fl F) (dA (DP P (Fj F)) (Fi F)) k ∧ up1 (Ft F) (Fl F) (dA (DP P (Fj F)) (Fi F)) k ≤ 1000000000
          intro k hk'
          unfold up1
          by_cases q : k = Fl F
          · rw [if_pos q]; omega
          · rw [if_neg q]; exact h.2.2.2.2.2.2 k (by omega)
    · have e' : dO (DP P (Fj F)) (Fi F) = 15 := e
      have hk15 := h.k15 e
      rw [if_neg (by omega), if_neg (by omega), if_neg (by omega)]
      have hm := ffe hff e'
      have eb : bhd (DP P (Fj F)) (Fi F) (HH (DP P (Fj F))) = (Fh F : Nat) := by unfold bhd tk gv; rw [hh]; (repeat' split) <;> omega
      obtain ⟨l, z1, z2, z3, z4, z5, z6⟩ := end_loop e' h.2.2.1 hm
      have ebeh : beh (DP P (Fj F)) (Fi F) = l + 1 := by unfold beh; rw [z1]; omega
      have ho := h.2.2.2.2.2.1 l (by rw [z4]; exact List.mem_cons_self)
      have hli : l < dn (DP P (Fj F)) := Nat.lt_trans z2 h.2.2.1
      have hnl := met_next h.2.1 hd (i := l) hli ho.1 (by omega) (by omega) (fun _ => by omega)
      have hg := (h.2.1.g hd (i := Fi F) h.2.2.1 h0).2.2.2.2.1 e'
      rw [z1] at hg
      have hg' : HH (DP P (Fj F)) l = Fh F := by rw [← hh]; exact hg
      have ebl : bhd (DP P (Fj F)) l (HH (DP P (Fj F))) = (Fh F : Nat) := by unfold bhd tk gv; rw [hg']; (repeat' split) <;> omega
      have hsl : stk (DP P (Fj F)) (l + 1) = stk (DP P (Fj F)) (Fi F) := by rw [stk_in z3, z4]
      by_cases z : 0 < Ft F (Fl F - 1) - 1
      · rw [if_pos z]
        refine ⟨⟨h.1, h.2.1, ?_, ?_, ?_, ?_, ?_⟩, rfl⟩
        · show beh (DP P (Fj F)) (Fi F) < dn (DP P (Fj F)); rw [ebeh]; exact hnl.1
        · show HH (DP P (Fj F)) (beh (DP P (Fj F)) (Fi F)) = (Fh F : Nat)
          rw [ebeh, hnl.2.2, ebl]
        · show Fl F = dep (DP P (Fj F)) (beh (DP P (Fj F)) (Fi F))
          rw [h.2.2.2.2.1, ebeh]; unfold dep; rw [hsl]
        · show ∀ l, l ∈ stk (DP P (Fj F)) (beh (DP P (Fj F)) (Fi F)) → _
          rw [ebeh, hsl]; exact h.2.2.2.2.2.1
        · show ∀ k, k < Fl F → 1 ≤ up1 (Ft F) (Fl F - 1) (Ft F (Fl F - 1) - 1) k ∧ up1 (Ft F) (Fl F - 1) (Ft F (Fl F - 1) - 1) k ≤ 1000000000
          intro k hk'
          unfold up1
          by_cases q : k = Fl F - 1
          · rw [if_pos q]; omega
          · rw [if_neg q]; exact h.2.2.2.2.2.2 k hk'
      · rw [if_neg z]
        have hn := met_next h.2.1 hd (i := Fi F) h.2.2.1 h0 (by omega) (by omega) (fun q => by omega)
        refine ⟨⟨h.1, h.2.1, hn.1, ?_, ?_, ?_, ?_⟩, rfl⟩
        · show HH (DP P (Fj F)) (Fi F + 1) = (Fh F : Nat)
          rw [hn.2.2, eb]
        · show Fl F - 1 = dep (DP P (Fj F)) (Fi F + 1)
          rw [h.2.2.2.2.1]; unfold dep; rw [z6, z4]; rfl
        · show ∀ l, l ∈ stk (DP P (Fj F)) (Fi F + 1) → 0 ≤ HH (DP P (Fj F)) l ∧ 0 < dA (DP P (Fj F)) l
          rw [z6]
          intro q hq
          exact h.2.2.2.2.2.1 q (by rw [z4]; exact List.mem_cons_of_mem _ hq)
        · intro k hk'
          have hk2 : k < Fl F - 1 := hk'
          exact h.2.2.2.2.2.2 k (by omega)
end STP
