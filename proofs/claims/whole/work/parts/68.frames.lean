/-! ===== PURE: a RUN: frames; the class's words ===== -/
def Aq (S : Nat → Nat → Prop) (M M' : AM) : Prop := M'.1 = M.1 ∧ mS M' = mS M ∧ (∀ r j, ¬ (r = 21 ∧ S r j) → mR M' r j = mR M r j) ∧ ∀ r j, ¬ S r j → mI M' r j = mI M r j ∧ mJ M' r j = mJ M r j
theorem Ag.aq {S : Nat → Nat → Prop} {M M' : AM} (h : Ag S M M') : Aq S M M' := ⟨h.1, h.2.1, fun r j _ => by rw [h.r], h.2.2.2⟩
theorem Aq.rf {S : Nat → Nat → Prop} {M : AM} : Aq S M M := Ag.rf.aq
theorem Aq.tr {S : Nat → Nat → Prop} {M M1 M2 : AM} (h : Aq S M M1) (k : Aq S M1 M2) : Aq S M M2 := ⟨k.1.trans h.1, k.2.1.trans h.2.1, fun r j z => (k.2.2.1 r j z).trans (h.2.2.1 r j z), fun r j hs => ⟨(k.2.2.2 r j hs).1.trans (h.2.2.2 r j hs).1, (k.2.2.2 r j hs).2.trans (h.2.2.2 r j hs).2⟩⟩
theorem Aq.mo {S S' : Nat → Nat → Prop} {M M1 : AM} (h : Aq S M M1) (k : ∀ r j, S r j → S' r j) : Aq S' M M1 := ⟨h.1, h.2.1, fun r j z => h.2.2.1 r j (fun y => z ⟨y.1, k r j y.2⟩), fun r j hs => h.2.2.2 r j (fun z => hs (k r j z))⟩
theorem Aq.wI {S : Nat → Nat → Prop} {M M1 : AM} {r j : Nat} {x : Int32} (h : Aq S M M1) (k : S r j) : Aq S M (wrI M1 r j x) := h.tr (Ag.rf.wI k).aq
theorem Aq.wJ {S : Nat → Nat → Prop} {M M1 : AM} {r j : Nat} {x : Int64} (h : Aq S M M1) (k : S r j) : Aq S M (wrJ M1 r j x) := h.tr (Ag.rf.wJ k).aq
theorem Aq.wR {S : Nat → Nat → Prop} {M M1 : AM} {j : Nat} {x : Option Nat} (h : Aq S M M1) (k : S 21 j) : Aq S M (wrR M1 21 j x) := h.tr ⟨rfl, rfl, fun q i z => if_neg (fun y => z ⟨y.1, by rw [y.1, y.2]; exact k⟩), fun _ _ _ => ⟨rfl, rfl⟩⟩
theorem Aq.sh {S : Nat → Nat → Prop} {M M1 : AM} (h : Aq S M M1) (k : St M) : Sh M M1 := ⟨h.1, h.2.1, fun r j z => h.2.2.1 r j (fun y => by
  rw [y.1, k.2.1 21 (by omega) (by omega)] at z
  exact absurd z (by decide))⟩
theorem Aq.st {S : Nat → Nat → Prop} {M M1 : AM} (h : Aq S M M1) (k : St M) : St M1 := k.sh (h.sh k)
theorem Aq.mt {S : Nat → Nat → Prop} {M M1 : AM} {m : Nat} (h : Aq S M M1) (k : St M) (z : Mt M m) : Mt M1 m := z.sh (h.sh k)
theorem Aq.i {S : Nat → Nat → Prop} {M M1 : AM} {r j : Nat} (h : Aq S M M1) (k : ¬ S r j) : mI M1 r j = mI M r j := (h.2.2.2 r j k).1
theorem Aq.j {S : Nat → Nat → Prop} {M M1 : AM} {r j : Nat} (h : Aq S M M1) (k : ¬ S r j) : mJ M1 r j = mJ M r j := (h.2.2.2 r j k).2
theorem Aq.r {S : Nat → Nat → Prop} {M M1 : AM} {r j : Nat} (h : Aq S M M1) (k : ¬ (r = 21 ∧ S r j)) : mR M1 r j = mR M r j := h.2.2.1 r j k
/-- the same with the references of before: for what no reference belongs to -/
theorem Aq.ag {S : Nat → Nat → Prop} {M M1 : AM} (h : Aq S M M1) : Ag S M (M1.1, M1.2.1, M1.2.2.1, M1.2.2.2.1, mR M) := ⟨h.1, h.2.1, rfl, h.2.2.2⟩
abbrev Fr : Type := (Nat × Nat × Nat × Nat) × (Nat → Int64) × (Nat → Int)
abbrev Fj (F : Fr) : Nat := F.1.1
abbrev Fi (F : Fr) : Nat := F.1.2.1
abbrev Fh (F : Fr) : Nat := F.1.2.2.1
abbrev Fl (F : Fr) : Nat := F.1.2.2.2
abbrev Fw (F : Fr) : Nat → Int64 := F.2.1
abbrev Ft (F : Fr) : Nat → Int := F.2.2
def upw (w : Nat → Int64) (k : Nat) (x : Int64) : Nat → Int64 := fun i => if i = k then x else w i
abbrev fP (L : Nat) (F : Fr) (x : Int64) : Fr := ((Fj F, Fi F, Fh F + 1, Fl F), upw (Fw F) (L + Fh F) x, Ft F)
abbrev fQ (F : Fr) : Fr := ((Fj F, Fi F, Fh F - 1, Fl F), Fw F, Ft F)
abbrev fN (F : Fr) (i : Nat) : Fr := ((Fj F, i, Fh F, Fl F), Fw F, Ft F)
abbrev fS (F : Fr) (k : Nat) (x : Int64) : Fr := ((Fj F, Fi F, Fh F, Fl F), upw (Fw F) k x, Ft F)
def fz (P : PG) (F : Fr) : Nat := pL P (Fj F) + Fh F
def sz (P : PG) : List Fr → Nat
  | [] => 0
  | F :: r => sz P r + fz P F
def lz : List Fr → Nat
  | [] => 0
  | F :: r => lz r + Fl F
section CLS
variable {P : PG} {mr : Nat → Nat}
def CF (P : PG) (mr : Nat → Nat) (M : AM) (n b lb : Nat) (F : Fr) : Prop := mR M 21 n = some (mr (Fj F)) ∧ mI M 22 n = nI (Fi F) ∧ mI M 23 n = nI b ∧ mI M 24 n = nI lb ∧ (∀ x, x < fz P F → mJ M 19 (b + x) = Fw F x) ∧ ∀ k, k < Fl F → mI M 20 (lb + k) = iI (Ft F k)
def CFs (P : PG) (mr : Nat → Nat) (M : AM) : List Fr → Prop
  | [] => True
  | F :: r => CF P mr M r.length (sz P r) (lz r) F ∧ CFs P mr M r
/-- what the class holds of the frames -/
def CSt (P : PG) (mr : Nat → Nat) (M : AM) (F : Fr) (r : List Fr) : Prop := mI M 18 7 = nI r.length ∧ mI M 18 8 = nI (sz P r + fz P F) ∧ mI M 18 9 = nI (lz r + Fl F) ∧ CF P mr M r.length (sz P r) (lz r) F ∧ CFs P mr M r
/-- room -/
def Rm (P : PG) (F : Fr) (r : List Fr) : Prop := r.length < 100 ∧ sz P r ≤ 116 * r.length ∧ lz r ≤ 8 * r.length ∧ Fh F ≤ 100 ∧ Fl F ≤ 8 ∧ pL P (Fj F) ≤ 16
def SH (b lb n : Nat) : Nat → Nat → Prop := fun r k => (r = 18 ∧ (k = 8 ∨ k = 9)) ∨ (r = 19 ∧ b ≤ k) ∨ (r = 20 ∧ lb ≤ k) ∨ (r = 22 ∧ n ≤ k)
theorem CFs.aq {S : Nat → Nat → Prop} {M M' : AM} (a : Aq S M M') : ∀ (r : List Fr), CFs P mr M r → (∀ k, k < sz P r → ¬ S 19 k) → (∀ k, k < lz r → ¬ S 20 k) → (∀ k, k < r.length → ¬ S 21 k ∧ ¬ S 22 k ∧ ¬ S 23 k ∧ ¬ S 24 k) → CFs P mr M' r
  | [], _, _, _, _ => trivial
  | F :: r, h, h1, h2, h3 => by
    have hl : (F :: r).length = r.length + 1 := rfl
    have e1 : sz P (F :: r) = sz P r + fz P F := rfl
    have e2 : lz (F :: r) = lz r + Fl F := rfl
    rw [hl] at h3
    rw [e1] at h1
    rw [e2] at h2
    obtain ⟨⟨g1, g2, g3, g4, g5, g6⟩, g⟩ := h
    have z := h3 r.length (by omega)
    exact ⟨⟨(a.r (fun y => z.1 y.2)).trans g1, (a.i z.2.1).trans g2, (a.i z.2.2.1).trans g3, (a.i z.2.2.2).trans g4, fun x hx => (a.j (h1 _ (by omega))).trans (g5 x hx), fun k hk => (a.i (h2 _ (by omega))).trans (g6 k hk)⟩, CFs.aq a r g (fun k hk => h1 k (by omega)) (fun k hk => h2 k (by omega)) (fun k hk => h3 k (by omega))⟩
theorem CFs.sh {M M' : AM} {r : List Fr} (h : CFs P mr M r) (a : Aq (SH (sz P r) (lz r) r.length) M M') : CFs P mr M' r :=
  CFs.aq a r h (fun k hk z => by unfold SH at z; omega) (fun k hk z => by unfold SH at z; omega) (fun k hk => ⟨fun z => by unfold SH at z; omega, fun z => by unfold SH at z; omega, fun z => by unfold SH at z; omega, fun z => by unfold SH at z; omega⟩)
theorem v_write {M : AM} {k : Nat} {x : Int64} (hS : St M) (h : k < 11600) : Ev K_X3_write [aR (some 18), aI (nI k), aJ x] M none (wrJ M 19 k x) := by
  have ck := cl_n (n := k) (by omega)
  have ek := ci k (by omega)
  apply s_X3_write_0 hS
  case b3 => intros; exact in_n h (by omega)
  case k4 => intros; rw [ck]; exact ⟨rfl, rfl⟩
  all_goals (intros; exfalso; simp only [lt32, le32, eq32, lt64, le64, eq64, Int32.reduceToInt, Int64.reduceToInt, ek] at *; omega)
theorem v_read {M : AM} {k : Nat} (hS : St M) (h : k < 11600) : Ev K_X3_read [aR (some 18), aI (nI k)] M (some (aJ (mJ M 19 k))) M := by
  have ck := cl_n (n := k) (by omega)
  have ek := ci k (by omega)
  apply s_X3_read_0 hS
  case b3 => intros; exact in_n h (by omega)
  case k4 => intros; rw [ck]; exact ⟨rfl, rfl⟩
  all_goals (intros; exfalso; simp only [lt32, le32, eq32, lt64, le64, eq64, Int32.reduceToInt, Int64.reduceToInt, ek] at *; omega)
theorem v_push {M : AM} {k : Nat} {x : Int64} (hS : St M) (h8 : mI M 18 8 = nI k) (h : k < 11600) : Ev K_X3_push [aR (some 18), aJ x] M none (wrI (wrJ M 19 k x) 18 8 (nI (k + 1))) := by
  apply s_X3_push_0 (M1 := wrJ M 19 k x) hS
  case c1 => rw [h8]; exact v_write hS h
  case k2 => refine ⟨rfl, ?_⟩; rw [wrJ_I, h8, nI_1]
theorem v_pop {M : AM} {k : Nat} (hS : St M) (h8 : mI M 18 8 = nI (k + 1)) (h : k < 11600) : Ev K_X3_pop [aR (some 18)] M (some (aJ (mJ M 19 k))) (wrI M 18 8 (nI k)) := by
  have e : nI (k + 1) - 1 = nI k := nI_s1 (by omega)
  apply s_X3_pop_0 (M1 := wrI M 18 8 (nI k)) (x101 := mJ M 19 k) hS
  case c1 => rw [h8, e]; exact v_read (M := wrI M 18 8 (nI k)) ((Ag.rf (S := fun _ _ => True).wI trivial).st hS) h
  case k2 => exact ⟨rfl, rfl⟩
theorem v_cpush {M : AM} {F : Fr} {r : List Fr} {x : Int64} (hS : St M) (h : CSt P mr M F r) (hr : Rm P F r) (hh : Fh F < 100) : ∃ M', Ev K_X3_push [aR (some 18), aJ x] M none M' ∧ CSt P mr M' (fP (pL P (Fj F)) F x) r ∧ Aq (SH (sz P r) (lz r) r.length) M M' := by
  obtain ⟨r1, r2, r3, r4, r5, r6⟩ := hr
  obtain ⟨h1, h2, h3, ⟨g1, g2, g3, g4, g5, g6⟩, g⟩ := h
  unfold fz at h2 g5
  have hz : sz P r + (pL P (Fj F) + Fh F) < 11600 := by omega
  have a : Aq (SH (sz P r) (lz r) r.length) M (wrI (wrJ M 19 (sz P r + (pL P (Fj F) + Fh F)) x) 18 8 (nI (sz P r + (pL P (Fj F) + Fh F) + 1))) := (Aq.rf.wJ (by unfold SH; omega)).wI (by unfold SH; omega)
  refine ⟨_, v_push hS h2 hz, ⟨?_, ?_, ?_, ⟨?_, ?_, ?_, ?_, ?_, ?_⟩, g.sh a⟩, a⟩
  · simp (disch := omega) only [wrI_s, wrI_r, wrI_j, wrJ_s, wrJ_r, wrJ_j, wrI_J, wrJ_I, wrR_I, wrR_J]; exact h1
  · rw [wrI_s]; rfl
  · simp (disch := omega) only [wrI_s, wrI_r, wrI_j, wrJ_s, wrJ_r, wrJ_j, wrI_J, wrJ_I, wrR_I, wrR_J]; exact h3
  · exact g1
  · simp (disch := omega) only [wrI_s, wrI_r, wrI_j, wrJ_s, wrJ_r, wrJ_j, wrI_J, wrJ_I, wrR_I, wrR_J]; exact g2
  · simp (disch := omega) only [wrI_s, wrI_r, wrI_j, wrJ_s, wrJ_r, wrJ_j, wrI_J, wrJ_I, wrR_I, wrR_J]; exact g3
  · simp (disch := omega) only [wrI_s, wrI_r, wrI_j, wrJ_s, wrJ_r, wrJ_j, wrI_J, wrJ_I, wrR_I, wrR_J]; exact g4
  · intro y hy
    unfold fz at hy
    have hy' : y < pL P (Fj F) + (Fh F + 1) := hy
    rw [wrI_J]
    show _ = upw (Fw F) (pL P (Fj F) + Fh F) x y
    unfold upw
    by_cases e : y = pL P (Fj F) + Fh F
    · rw [e, wrJ_s, if_pos rfl]
    · rw [wrJ_j (by omega), if_neg e]; exact g5 y (by omega)
  · intro k hk; simp (disch := omega) only [wrI_s, wrI_r, wrI_j, wrJ_s, wrJ_r, wrJ_j, wrI_J, wrJ_I, wrR_I, wrR_J]; exact g6 k hk
theorem v_cpop {M : AM} {F : Fr} {r : List Fr} (hS : St M) (h : CSt P mr M F r) (hr : Rm P F r) (hh : 1 ≤ Fh F) : ∃ M', Ev K_X3_pop [aR (some 18)] M (some (aJ (Fw F (pL P (Fj F) + Fh F - 1)))) M' ∧ CSt P mr M' (fQ F) r ∧ Aq (SH (sz P r) (lz r) r.length) M M' := by
  obtain ⟨r1, r2, r3, r4, r5, r6⟩ := hr
  obtain ⟨h1, h2, h3, ⟨g1, g2, g3, g4, g5, g6⟩, g⟩ := h
  unfold fz at h2 g5
  have hz : sz P r + (pL P (Fj F) + Fh F - 1) < 11600 := by omega
  have e : sz P r + (pL P (Fj F) + Fh F) = sz P r + (pL P (Fj F) + Fh F - 1) + 1 := by omega
  rw [e] at h2
  have a : Aq (SH (sz P r) (lz r) r.length) M (wrI M 18 8 (nI (sz P r + (pL P (Fj F) + Fh F - 1)))) := Aq.rf.wI (by unfold SH; omega)
  rw [← g5 _ (by omega)]
  refine ⟨_, v_pop hS h2 hz, ⟨?_, ?_, ?_, ⟨?_, ?_, ?_, ?_, ?_, ?_⟩, g.sh a⟩, a⟩
  · simp (disch := omega) only [wrI_s, wrI_r, wrI_j, wrJ_s, wrJ_r, wrJ_j, wrI_J, wrJ_I, wrR_I, wrR_J]; exact h1
  · rw [wrI_s]; unfold fz; show nI _ = nI (sz P r + (pL P (Fj F) + (Fh F - 1))); congr 1; omega
  · simp (disch := omega) only [wrI_s, wrI_r, wrI_j, wrJ_s, wrJ_r, wrJ_j, wrI_J, wrJ_I, wrR_I, wrR_J]; exact h3
  · exact g1
  · simp (disch := omega) only [wrI_s, wrI_r, wrI_j, wrJ_s, wrJ_r, wrJ_j, wrI_J, wrJ_I, wrR_I, wrR_J]; exact g2
  · simp (disch := omega) only [wrI_s, wrI_r, wrI_j, wrJ_s, wrJ_r, wrJ_j, wrI_J, wrJ_I, wrR_I, wrR_J]; exact g3
  · simp (disch := omega) only [wrI_s, wrI_r, wrI_j, wrJ_s, wrJ_r, wrJ_j, wrI_J, wrJ_I, wrR_I, wrR_J]; exact g4
  · intro y hy
    unfold fz at hy
    have hy' : y < pL P (Fj F) + (Fh F - 1) := hy
    exact g5 y (by omega)
  · intro k hk; simp (disch := omega) only [wrI_s, wrI_r, wrI_j, wrJ_s, wrJ_r, wrJ_j, wrI_J, wrJ_I, wrR_I, wrR_J]; exact g6 k hk
/-- a word of the frame in its place -/
theorem v_cread {M : AM} {F : Fr} {r : List Fr} {k : Nat} (hS : St M) (h : CSt P mr M F r) (hr : Rm P F r) (hk : k < fz P F) : Ev K_X3_read [aR (some 18), aI (nI (sz P r + k))] M (some (aJ (Fw F k))) M := by
  obtain ⟨r1, r2, r3, r4, r5, r6⟩ := hr
  rw [← h.2.2.2.1.2.2.2.2.1 k hk]
  unfold fz at hk
  exact v_read hS (by omega)
theorem v_cwrite {M : AM} {F : Fr} {r : List Fr} {k : Nat} {x : Int64} (hS : St M) (h : CSt P mr M F r) (hr : Rm P F r) (hk : k < fz P F) : ∃ M', Ev K_X3_write [aR (some 18), aI (nI (sz P r + k)), aJ x] M none M' ∧ CSt P mr M' (fS F k x) r ∧ Aq (SH (sz P r) (lz r) r.length) M M' := by
  obtain ⟨r1, r2, r3, r4, r5, r6⟩ := hr
  obtain ⟨h1, h2, h3, ⟨g1, g2, g3, g4, g5, g6⟩, g⟩ := h
  have hz : sz P r + k < 11600 := by unfold fz at hk; omega
  have a : Aq (SH (sz P r) (lz r) r.length) M (wrJ M 19 (sz P r + k) x) := Aq.rf.wJ (by unfold SH; omega)
  refine ⟨_, v_write hS hz, ⟨?_, ?_, ?_, ⟨?_, ?_, ?_, ?_, ?_, ?_⟩, g.sh a⟩, a⟩
  · exact h1
  · exact h2
  · exact h3
  · exact g1
  · exact g2
  · exact g3
  · exact g4
  · intro y hy
    show _ = upw (Fw F) k x y
    unfold upw
    by_cases e : y = k
    · rw [e, wrJ_s, if_pos rfl]
    · rw [wrJ_j (by omega), if_neg e]; exact g5 y hy
  · exact g6
end CLS
