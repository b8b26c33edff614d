/-! ===== PURE: both machines, step by step ===== -/
section MDL
variable {P : PG}
theorem m_call {M : AM} {F : Fr} {r : List Fr} {mo ca : Nat} (hP : PD P) (H : MR P M F r mo) (h16 : po P (Fj F) (Fi F) = 16) (h99 : r.length < 99) (h40 : mI M 26 40 = nI ca) :
    ∃ M', Ev K_X7_doOne [aR (some 26), aI (nI (Fj F)), aI (nI (Fi F))] M none M' ∧ MSt P M' (ef P F) (cf P F :: r) ∧ mI M' 26 36 = nI (max mo (wd P (ef P F) (cf P F :: r))) ∧ mI M' 26 40 = nI (ca + 1) ∧ Ag (fun q k => SM r.length q k ∨ (q = 26 ∧ k = 40)) M M' := by
  have hH := H
  obtain ⟨hS, hA, hT, hm, hmo, hO, hl, hw⟩ := hH
  obtain ⟨p1, p2, p3, p4, p5, p6, p7, p8, p9, p10, p11, p12, p13⟩ := H.pre
  have hr := hO.rm hP hl
  have hrl := OKL.rml hP r _ hO.2
  have hB := hr
  obtain ⟨r1, r2, r3, r4, r5, r6⟩ := hB
  have hr1 : Rm P (fN F (Fi F + 1)) r := hr
  have hT1 := hT.n hrl (Fi F + 1)
  have a1 : Ag (SM r.length) M (wrI M 52 r.length (nI (Fi F + 1))) := Ag.rf.wI (by unfold SM; omega)
  have hS1 := a1.st hS
  have hm1 : mI (wrI M 52 r.length (nI (Fi F + 1))) 26 36 = nI mo := by simp (disch := omega) only [wrI_s, wrI_r, wrI_j, wrJ_s, wrJ_r, wrJ_j, wrI_J, wrJ_I, wrR_I, wrR_J]; exact hm
  have e52 : wrI M 52 (mI M 26 34 - 1).toNatClampNeg (nI (Fi F) + 1) = wrI M 52 r.length (nI (Fi F + 1)) := by rw [p3, p5, nI_1]
  have ewd : wd P F r = sz P r + (pL P (Fj F) + Fh F) + 2 * r.length := rfl
  have hca := hO.1.call hP h16
  obtain ⟨M', hE, hC, hM, h4, hA'⟩ := v_mcall (c := (pa P (Fj F) (Fi F)).toNat) (mo := mo) (ca := ca) hP hS1 (hA.1.ag a1 (fun i => by unfold SM; omega)) hT1 hr1 hrl h99 (by omega) hca.2.2.1 hm1 hmo (by simp (disch := omega) only [wrI_s, wrI_r, wrI_j, wrJ_s, wrJ_r, wrJ_j, wrI_J, wrJ_I, wrR_I, wrR_J]; exact h40)
  have hpc := hA.1.2.1
  refine ⟨M', ?_, hC, hM, h4, (a1.mo (fun q k z => Or.inl z)).tr hA'⟩
  apply s_X7_doOne_0 (M1 := M) (M2 := M) (M3 := M) (M4 := M) (M5 := M) (M6 := M) (M7 := M) (M8 := M') (M9 := M) (M10 := M) (M11 := M) (M12 := M) (M13 := M) (x103 := 0) (x108 := 0) (x112 := 0) (x120 := 0) (x121 := 0) (x122 := 0) hS
  case b1 => exact p1
  case b2 => rw [p3]; exact p4
  case c32 => intros; rw [e52, p2, x_l (by omega) (by omega), p8]; exact hE
  case k33 => intros; exact ⟨rfl, rfl⟩
  all_goals (clear H hS hA hT hm hO hl hw p1 p3 p4 p5 p6 p8 p9 p10 hr hrl hr1 hT1 a1 hS1 hm1 e52 hE hC hM h4 hA' hca; intros; exfalso; simp only [lt32, le32, eq32, lt64, le64, eq64, Int32.reduceToInt, Int64.reduceToInt, p2, p7] at * <;> omega)
theorem m_ret1 {M : AM} {F G : Fr} {s : List Fr} {mo : Nat} (hP : PD P) (H : MR P M F (G :: s) mo) (h17 : po P (Fj F) (Fi F) = 17) :
    ∃ M', Ev K_X7_doOne [aR (some 26), aI (nI (Fj F)), aI (nI (Fi F))] M none M' ∧ MSt P M' (bf P F G) s ∧ mI M' 26 36 = nI mo ∧ Ag (SM s.length) M M' := by
  have hH := H
  obtain ⟨hS, hA, hT, hm, hmo, hO, hl, hw⟩ := hH
  obtain ⟨p1, p2, p3, p4, p5, p6, p7, p8, p9, p10, p11, p12, p13⟩ := H.pre
  have hr := hO.rm hP hl
  have hrl := OKL.rml hP (G :: s) _ hO.2
  have hB := hr
  obtain ⟨r1, r2, r3, r4, r5, r6⟩ := hB
  have hr1 : Rm P (fN F (Fi F + 1)) (G :: s) := hr
  have hT1 := hT.n hrl (Fi F + 1)
  have a1 : Ag (SM (G :: s).length) M (wrI M 52 (G :: s).length (nI (Fi F + 1))) := Ag.rf.wI (by unfold SM; omega)
  have hS1 := a1.st hS
  have hm1 : mI (wrI M 52 (G :: s).length (nI (Fi F + 1))) 26 36 = nI mo := by simp (disch := omega) only [wrI_s, wrI_r, wrI_j, wrJ_s, wrJ_r, wrJ_j, wrI_J, wrJ_I, wrR_I, wrR_J]; exact hm
  have e52 : wrI M 52 (mI M 26 34 - 1).toNatClampNeg (nI (Fi F) + 1) = wrI M 52 (G :: s).length (nI (Fi F + 1)) := by rw [p3, p5, nI_1]
  have ewd : wd P F (G :: s) = sz P (G :: s) + (pL P (Fj F) + Fh F) + 2 * (G :: s).length := rfl
  have hll : (G :: s).length = s.length + 1 := rfl
  have hret := hO.1.ret hP h17
  have hrg := hO.1.rng hP
  obtain ⟨M', hE, hC, hM, hA'⟩ := v_mback1 (F := fN F (Fi F + 1)) (mo := mo) hS1 (hA.1.ag a1 (fun i => by unfold SM; omega)) hO.1.1 hT1 hr1 (OKL.rm hP hO.2 (by omega)) hrl hrg.2.2.2.1 (by show pR P (Fj F) ≤ Fh F; omega) (hO.2.1.rng hP).1 hm1 hmo hw
  refine ⟨M', ?_, hC, hM, (a1.mo (fun q k z => by unfold SM at z ⊢; omega)).tr hA'⟩
  apply s_X7_doOne_0 (M1 := M) (M2 := M) (M3 := M) (M4 := M) (M5 := M) (M6 := M) (M7 := M) (M8 := M) (M9 := M') (M10 := M) (M11 := M) (M12 := M) (M13 := M) (x103 := 0) (x108 := 0) (x112 := 0) (x120 := 0) (x121 := 0) (x122 := 0) hS
  case b1 => exact p1
  case b2 => rw [p3]; exact p4
  case c34 => intros; rw [e52]; exact hE
  case k35 => intros; exact ⟨rfl, rfl⟩
  all_goals (clear H hS hA hT hm hO hl hw p1 p3 p4 p5 p6 p8 p9 p10 hr hrl hr1 hT1 a1 hS1 hm1 e52 hE hC hM hA' hret hrg hll; intros; exfalso; simp only [lt32, le32, eq32, lt64, le64, eq64, Int32.reduceToInt, Int64.reduceToInt, p2, p7] at * <;> omega)
theorem m_ret0 {M : AM} {F : Fr} {mo : Nat} (hP : PD P) (H : MR P M F [] mo) (h17 : po P (Fj F) (Fi F) = 17) :
    ∃ M', Ev K_X7_doOne [aR (some 26), aI (nI (Fj F)), aI (nI (Fi F))] M none M' ∧ mI M' 26 34 = 0 ∧ mJ M' 26 37 = ans P F ∧ mI M' 26 36 = nI mo ∧ Ag (fun q k => SM 0 q k ∨ (q = 26 ∧ k = 37)) M M' := by
  have hH := H
  obtain ⟨hS, hA, hT, hm, hmo, hO, hl, hw⟩ := hH
  obtain ⟨p1, p2, p3, p4, p5, p6, p7, p8, p9, p10, p11, p12, p13⟩ := H.pre
  have hr := hO.rm hP hl
  have hrl := OKL.rml hP [] _ hO.2
  have hB := hr
  obtain ⟨r1, r2, r3, r4, r5, r6⟩ := hB
  have hr1 : Rm P (fN F (Fi F + 1)) [] := hr
  have hT1 := hT.n hrl (Fi F + 1)
  have a1 : Ag (SM ([] : List Fr).length) M (wrI M 52 ([] : List Fr).length (nI (Fi F + 1))) := Ag.rf.wI (by unfold SM; omega)
  have hS1 := a1.st hS
  have hm1 : mI (wrI M 52 ([] : List Fr).length (nI (Fi F + 1))) 26 36 = nI mo := by simp (disch := omega) only [wrI_s, wrI_r, wrI_j, wrJ_s, wrJ_r, wrJ_j, wrI_J, wrJ_I, wrR_I, wrR_J]; exact hm
  have e52 : wrI M 52 (mI M 26 34 - 1).toNatClampNeg (nI (Fi F) + 1) = wrI M 52 ([] : List Fr).length (nI (Fi F + 1)) := by rw [p3, p5, nI_1]
  have ewd : wd P F [] = sz P [] + (pL P (Fj F) + Fh F) + 2 * ([] : List Fr).length := rfl
  have hret := hO.1.ret hP h17
  have hrg := hO.1.rng hP
  obtain ⟨M', hE, hC, hD, hM, hA'⟩ := v_mback0 (F := fN F (Fi F + 1)) hS1 (hA.1.ag a1 (fun i => by unfold SM; omega)) hO.1.1 hT1 hr1 hrg.2.2.2.1 (by show pR P (Fj F) ≤ Fh F; omega)
  refine ⟨M', ?_, hC, hD, hM.trans hm1, (a1.mo (fun q k z => Or.inl z)).tr hA'⟩
  apply s_X7_doOne_0 (M1 := M) (M2 := M) (M3 := M) (M4 := M) (M5 := M) (M6 := M) (M7 := M) (M8 := M) (M9 := M') (M10 := M) (M11 := M) (M12 := M) (M13 := M) (x103 := 0) (x108 := 0) (x112 := 0) (x120 := 0) (x121 := 0) (x122 := 0) hS
  case b1 => exact p1
  case b2 => rw [p3]; exact p4
  case c34 => intros; rw [e52]; exact hE
  case k35 => intros; exact ⟨rfl, rfl⟩
  all_goals (clear H hS hA hT hm hO hl hw p1 p3 p4 p5 p6 p8 p9 p10 hr hrl hr1 hT1 a1 hS1 hm1 e52 hE hC hD hM hA' hret hrg; intros; exfalso; simp only [lt32, le32, eq32, lt64, le64, eq64, Int32.reduceToInt, Int64.reduceToInt, p2, p7] at * <;> omega)
def MQq (M : AM) (q : QQ) : Prop := mJ M 26 37 = q.1 ∧ mJ M 26 38 = q.2.1 ∧ mI M 26 36 = nI q.2.2.1 ∧ mI M 26 39 = nI q.2.2.2.1 ∧ mI M 26 40 = nI q.2.2.2.2
def SMr : Nat → Nat → Prop := fun r k => (r = 26 ∧ 34 ≤ k ∧ k ≤ 40) ∨ (51 ≤ r ∧ r ≤ 56)
def MSTP (P : PG) (ct : Nat → Nat) (M : AM) (F : Fr) (r : List Fr) (q : QQ) : Prop := MR P M F r q.2.2.1 ∧ CM2 M ct ∧ MQq M q ∧ ∀ k, k < 18 → ct k ≤ 1000000
theorem AX.ag3 {S : Nat → Nat → Prop} {M M' : AM} (h : AX M P) (a : Ag S M M') (hs : ∀ r k, S r k → (r = 26 ∧ 5 ≤ k) ∨ (40 ≤ r ∧ r ≤ 57)) : AX M' P := by
  have k : ∀ r j, (r ≤ 25 ∨ (27 ≤ r ∧ r ≤ 39)) → ¬ S r j := fun r j z y => by have := hs r j y; omega
  refine ⟨h.1.ag a (fun i => ⟨fun z => by have := hs _ _ z; omega, k _ _ (by omega), k _ _ (by omega), k _ _ (by omega), k _ _ (by omega), k _ _ (by omega), k _ _ (by omega)⟩), fun j hj => (h.2 j hj).ag (h.1.2.2 j hj).2.2.2.2.2.2.1.1 a (fun i _ _ => ⟨k _ _ (by omega), k _ _ (by omega), k _ _ (by omega), k _ _ (by omega)⟩) (k _ _ (by omega)) (k _ _ (by omega))⟩
theorem sJ_ct {n : Nat} (h : n ≤ 1000000) : sJ (some n) = jJ n := by
  show jJ (if n < 9223372036854775808 then (n : Int) else -2) = _
  rw [if_pos (by omega)]
/-- the count of a step, in the reference -/
def Mmc (P : PG) (ct : Nat → Nat) (M : AM) (F : Fr) (q : QQ) : AM := wrJ (wrI M 26 39 (nI (q.2.2.2.1 + 1))) 26 38 (q.2.1 + jJ (ct (po P (Fj F) (Fi F)).toNat))
theorem MSTP.pre {ct : Nat → Nat} {M : AM} {F : Fr} {r : List Fr} {q : QQ} (H : MSTP P ct M F r q) : MR P (Mmc P ct M F q) F r q.2.2.1 ∧ Ag SMr M (Mmc P ct M F q) ∧ mJ (Mmc P ct M F q) 26 37 = q.1 ∧ mJ (Mmc P ct M F q) 26 38 = q.2.1 + jJ (ct (po P (Fj F) (Fi F)).toNat) ∧ mI (Mmc P ct M F q) 26 39 = nI (q.2.2.2.1 + 1) ∧ mI (Mmc P ct M F q) 26 40 = nI q.2.2.2.2 := by
  obtain ⟨⟨hS, hA, hT, hm, hmo, hO, hl, hw⟩, hct, hq, hc⟩ := H
  have a : Ag (fun q k => q = 26 ∧ (k = 38 ∨ k = 39)) M (Mmc P ct M F q) := (Ag.rf.wI (by omega)).wJ (by omega)
  obtain ⟨h1, h2, ⟨g1, g2, g3, g4, g5, g6⟩, g⟩ := hT
  have hT' : MSt P (Mmc P ct M F q) F r := by
    refine ⟨(a.i (by omega)).trans h1, (a.i (by omega)).trans h2, ⟨(a.i (by omega)).trans g1, (a.i (by omega)).trans g2, (a.i (by omega)).trans g3, fun x hx => (a.j (by omega)).trans (g4 x hx), fun x hx => (a.j (by omega)).trans (g5 x hx), fun x hx => (a.j (by omega)).trans (g6 x hx)⟩, ?_⟩
    have k2 : ∀ (r : List Fr), MFs P M r → MFs P (Mmc P ct M F q) r := by
      intro r
      induction r with
      | nil => exact fun _ => trivial
      | cons F r ih =>
        intro z
        obtain ⟨⟨g1, g2, g3, g4, g5, g6⟩, g⟩ := z
        exact ⟨⟨(a.i (by omega)).trans g1, (a.i (by omega)).trans g2, (a.i (by omega)).trans g3, fun x hx => (a.j (by omega)).trans (g4 x hx), fun x hx => (a.j (by omega)).trans (g5 x hx), fun x hx => (a.j (by omega)).trans (g6 x hx)⟩, ih g⟩
    exact k2 r g
  refine ⟨⟨a.st hS, hA.ag3 a (fun r k z => by omega), hT', (a.i (by omega)).trans hm, hmo, hO, hl, hw⟩, a.mo (fun r k z => by unfold SMr; omega), ?_, ?_, ?_, ?_⟩
  · unfold Mmc; simp (disch := omega) only [wrI_s, wrI_r, wrI_j, wrJ_s, wrJ_r, wrJ_j, wrI_J, wrJ_I, wrR_I, wrR_J]; exact hq.1
  · unfold Mmc; simp (disch := omega) only [wrI_s, wrI_r, wrI_j, wrJ_s, wrJ_r, wrJ_j, wrI_J, wrJ_I, wrR_I, wrR_J]
  · unfold Mmc; simp (disch := omega) only [wrI_s, wrI_r, wrI_j, wrJ_s, wrJ_r, wrJ_j, wrI_J, wrJ_I, wrR_I, wrR_J]
  · unfold Mmc; simp (disch := omega) only [wrI_s, wrI_r, wrI_j, wrJ_s, wrJ_r, wrJ_j, wrI_J, wrJ_I, wrR_I, wrR_J]; exact hq.2.2.2.2
end MDL
