/-! ===== PURE: the class's doNext ===== -/
abbrev QQ : Type := Int64 × Int64 × Nat × Nat × Nat
def wd (P : PG) (F : Fr) (r : List Fr) : Nat := sz P r + fz P F + 2 * r.length
def kq (q : QQ) (c : Int64) (mo k : Nat) : QQ := (q.1, q.2.1 + c, mo, q.2.2.2.1 + 1, q.2.2.2.2 + k)
def CQ (M : AM) (q : QQ) : Prop := mJ M 18 10 = q.1 ∧ mJ M 18 11 = q.2.1 ∧ mI M 18 12 = nI q.2.2.1 ∧ mI M 18 13 = nI q.2.2.2.1 ∧ mI M 18 14 = nI q.2.2.2.2
def QR (q : QQ) : Prop := q.2.2.1 ≤ 1000000 ∧ q.2.2.2.1 ≤ 1000000 ∧ q.2.2.2.2 ≤ 1000000
def S1824 : Nat → Nat → Prop := fun r _ => 18 ≤ r ∧ r ≤ 24
section CLS
variable {P : PG} {mr : Nat → Nat} {ct : Nat → Nat}
theorem OKF.call {F : Fr} (hP : PD P) (h : OKF P F 0) (e : po P (Fj F) (Fi F) = 16) : 0 ≤ pa P (Fj F) (Fi F) ∧ pa P (Fj F) (Fi F) < pc P ∧ pA P (pa P (Fj F) (Fi F)).toNat ≤ Fh F ∧ OKF P (cf P F) (pR P (pa P (Fj F) (Fi F)).toNat) := by
  have hd := hP.ds h.1
  have h0 : 0 ≤ HH (DP P (Fj F)) (Fi F) := by rw [h.2.2.2.1]; omega
  have hh : HH (DP P (Fj F)) (Fi F) = Fh F := h.2.2.2.1
  have e' : dO (DP P (Fj F)) (Fi F) = 16 := e
  have hc := ffc (h.2.1.ff (i := Fi F) h.2.2.1) e'
  have g := (h.2.1.g hd (i := Fi F) h.2.2.1 h0).1
  have hn := met_next h.2.1 hd (i := Fi F) h.2.2.1 h0 (by omega) (by omega) (fun z => by omega)
  have hk := stk_next (D := DP P (Fj F)) (i := Fi F) (by omega) (by omega)
  have et : tk (DP P (Fj F)) (Fi F) = pA P (pa P (Fj F) (Fi F)).toNat := by unfold tk; rw [if_neg (by omega), if_pos e']; rfl
  have eg : gv (DP P (Fj F)) (Fi F) = pR P (pa P (Fj F) (Fi F)).toNat := by unfold gv; rw [if_neg (by omega), if_pos e']; rfl
  rw [et, hh] at g
  refine ⟨hc.1, hc.2, by omega, ⟨h.1, h.2.1, hn.1, ?_, ?_, ?_, h.2.2.2.2.2.2⟩⟩
  · show HH (DP P (Fj F)) (Fi F + 1) = ((Fh F - pA P (pa P (Fj F) (Fi F)).toNat) + pR P (pa P (Fj F) (Fi F)).toNat : Nat)
    rw [hn.2.2]; unfold bhd; rw [et, eg, hh]; omega
  · show Fl F = dep (DP P (Fj F)) (Fi F + 1)
    rw [h.2.2.2.2.1]; unfold dep; rw [hk]
  · show ∀ l, l ∈ stk (DP P (Fj F)) (Fi F + 1) → _
    rw [hk]; exact h.2.2.2.2.2.1
theorem OKF.new (hP : PD P) {c : Nat} (hc : c < pc P) (hs : Sd (DP P c)) (w : Nat → Int64) : OKF P (nfr P c w) 0 := by
  refine ⟨hc, hs, hs.all.2.1, ?_, ?_, ?_, ?_⟩
  · show HH (DP P c) 0 = (0 : Nat); rw [hs.z (hP.ds hc)]; rfl
  · rfl
  · intro l hl; exact absurd hl (by show ¬ l ∈ stk (DP P c) 0; simp [stk])
  · intro k hk; exact absurd hk (Nat.not_lt_zero k)
theorem OKF.ret {F : Fr} (hP : PD P) (h : OKF P F 0) (e : po P (Fj F) (Fi F) = 17) : Fh F = pR P (Fj F) := by
  have h0 : 0 ≤ HH (DP P (Fj F)) (Fi F) := by rw [h.2.2.2.1]; omega
  have hh : HH (DP P (Fj F)) (Fi F) = Fh F := h.2.2.2.1
  have g := (h.2.1.g (hP.ds h.1) (i := Fi F) h.2.2.1 h0).2.2.2.2.2 e
  rw [hh] at g
  have g' : (Fh F : Int) = pR P (Fj F) := g
  omega
theorem OKF.bk {F G : Fr} (h : OKF P G (pR P (Fj F))) (h1 : pR P (Fj F) ≤ 1) : OKF P (bf P F G) 0 ∧ Fj (bf P F G) = Fj G := by
  unfold bf
  by_cases z : 0 < pR P (Fj F)
  · rw [if_pos z]
    refine ⟨⟨h.1, h.2.1, h.2.2.1, ?_, h.2.2.2.2⟩, rfl⟩
    have := h.2.2.2.1
    show HH (DP P (Fj G)) (Fi G) = (Fh G + 1 + 0 : Nat)
    rw [this]; congr 1; omega
  · rw [if_neg z]
    refine ⟨⟨h.1, h.2.1, h.2.2.1, ?_, h.2.2.2.2⟩, rfl⟩
    have := h.2.2.2.1
    rw [this]; congr 1; omega
theorem AC.aq {S : Nat → Nat → Prop} {M M' : AM} (h : AC M P mr) (hS : St M) (a : Aq S M M') (hs : ∀ r j, S r j → 18 ≤ r ∧ r ≤ 24) : AC M' P mr := by
  have k : ∀ r j, r ≤ 17 ∨ 58 ≤ r → ¬ S r j := fun r j z y => by have := hs r j y; omega
  have hp := h.1.1
  refine ⟨⟨⟨(a.i (k 4 2 (by omega))).trans hp.1, hp.2.1, fun j hj => ⟨(a.r (by omega)).trans (hp.2.2.1 j hj).1, a.mt hS (hp.2.2.1 j hj).2⟩, hp.2.2.2⟩, fun j hj => ?_⟩, fun j hj => ?_⟩
  · have g := h.1.2 j hj
    have hm := g.2.2.2.1.1.1
    refine ⟨(a.i (k _ _ (by omega))).trans g.1, g.2.1, g.2.2.1, ⟨⟨a.mt hS g.2.2.2.1.1, (a.i (k _ _ (by omega))).trans g.2.2.2.1.2.1, g.2.2.2.1.2.2⟩, fun i hi => ?_, (a.i (k _ _ (by omega))).trans g.2.2.2.2.2.1, (a.i (k _ _ (by omega))).trans g.2.2.2.2.2.2.1, g.2.2.2.2.2.2.2⟩⟩
    rw [a.i (k _ _ (by omega)), a.j (k _ _ (by omega))]
    exact g.2.2.2.2.1 i hi
  · have g := h.2 j hj
    have hm := (hp.2.2.1 j hj).2.1
    exact ⟨(a.i (k _ _ (by omega))).trans g.1, (a.i (k _ _ (by omega))).trans g.2.1, fun z i hi => by rw [a.i (k _ _ (by omega)), a.i (k _ _ (by omega))]; exact g.2.2 z i hi⟩
theorem CSt.q {M M' : AM} {F : Fr} {r : List Fr} (h : CSt P mr M F r) (a : Aq (fun q x => q = 18 ∧ 10 ≤ x) M M') : CSt P mr M' F r := by
  obtain ⟨h1, h2, h3, ⟨g1, g2, g3, g4, g5, g6⟩, g⟩ := h
  exact ⟨(a.i (by omega)).trans h1, (a.i (by omega)).trans h2, (a.i (by omega)).trans h3, ⟨(a.r (by omega)).trans g1, (a.i (by omega)).trans g2, (a.i (by omega)).trans g3, (a.i (by omega)).trans g4, fun x hx => (a.j (by omega)).trans (g5 x hx), fun k hk => (a.i (by omega)).trans (g6 k hk)⟩, CFs.aq a r g (fun _ _ => by omega) (fun _ _ => by omega) (fun _ _ => by omega)⟩
/-- the memory behind the count of a step -/
def Mst (P : PG) (ct : Nat → Nat) (M : AM) (F : Fr) (r : List Fr) (q : QQ) : AM := wrI (wrJ (wrI M 18 13 (nI (q.2.2.2.1 + 1))) 18 11 (q.2.1 + jJ (ct (po P (Fj F) (Fi F)).toNat))) 22 r.length (nI (Fi F + 1))
def STP (P : PG) (mr : Nat → Nat) (ct : Nat → Nat) (M : AM) (F : Fr) (r : List Fr) (q : QQ) : Prop := St M ∧ AC M P mr ∧ CO M ct ∧ CSt P mr M F r ∧ CQ M q ∧ OKL P 0 (F :: r) ∧ r.length < 100 ∧ QR q
theorem STP.pre {M : AM} {F : Fr} {r : List Fr} {q : QQ} (H : STP P mr ct M F r q) :
    mI M 18 7 = nI r.length ∧ vp_in (nI r.length) 100 ∧ (nI r.length).toNatClampNeg = r.length ∧ mR M 21 r.length = some (mr (Fj F)) ∧ mI M 22 r.length = nI (Fi F) ∧ (nI (Fi F)).toNatClampNeg = Fi F ∧ vp_in (nI (Fi F)) 120 ∧ (mI M (mr (Fj F) + 1) (Fi F)).toInt = po P (Fj F) (Fi F) ∧ (mJ M (mr (Fj F) + 2) (Fi F)).toInt = pa P (Fj F) (Fi F) ∧ Mt M (mr (Fj F)) ∧
    Ev K_X4_has [aR (some (mr (Fj F))), aJ (nI (Fi F)).toInt64] M (some (aI 1)) M ∧ 0 ≤ po P (Fj F) (Fi F) ∧ po P (Fj F) (Fi F) < 18 ∧
    (∀ M1, Aq (fun q x => q = 18 ∧ 10 ≤ x) M M1 → Ev K_X5_costOf [aR (some 4), aI (mI M (mr (Fj F) + 1) (Fi F))] M1 (some (aI (nI (ct (po P (Fj F) (Fi F)).toNat)))) M1) ∧ (nI (ct (po P (Fj F) (Fi F)).toNat)).toInt64 = jJ (ct (po P (Fj F) (Fi F)).toNat) ∧
    CSt P mr (Mst P ct M F r q) (fN F (Fi F + 1)) r ∧ Aq S1824 M (Mst P ct M F r q) ∧ mI (Mst P ct M F r q) 18 12 = nI q.2.2.1 ∧ mI (Mst P ct M F r q) 18 13 = nI (q.2.2.2.1 + 1) ∧ mI (Mst P ct M F r q) 18 14 = nI q.2.2.2.2 ∧ mJ (Mst P ct M F r q) 18 10 = q.1 ∧ mJ (Mst P ct M F r q) 18 11 = q.2.1 + jJ (ct (po P (Fj F) (Fi F)).toNat) ∧ mI M 18 13 + 1 = nI (q.2.2.2.1 + 1) ∧ mJ M 18 11 = q.2.1 := by
  obtain ⟨hS, hA, hC, hT, hQ, hO, hl, hq⟩ := H
  obtain ⟨o1, o2, o3, o4, o5, o6, o7⟩ := hO.1
  have g := hA.1.2 (Fj F) o1
  have hn : pn P (Fj F) ≤ 120 := g.2.2.2.1.2.2
  have hm := g.2.2.2.2.1 (Fi F) o3
  have h58 := g.2.2.2.1.1.1
  have f := ffo (o2.ff (i := Fi F) o3)
  have f0 : 0 ≤ po P (Fj F) (Fi F) := f.1
  have f1 : po P (Fj F) (Fi F) < 18 := f.2
  have hct := hC (po P (Fj F) (Fi F)).toNat (by omega)
  have a1 : Aq (fun q x => q = 18 ∧ 10 ≤ x) M (wrJ (wrI M 18 13 (nI (q.2.2.2.1 + 1))) 18 11 (q.2.1 + jJ (ct (po P (Fj F) (Fi F)).toNat))) := (Aq.rf.wI (by omega)).wJ (by omega)
  refine ⟨hT.1, in_n hl (by omega), cl_n (by omega), hT.2.2.2.1.1, hT.2.2.2.1.2.1, cl_n (by omega), in_n (by omega) (by omega), hm.1, hm.2, g.2.2.2.1.1, ?_, f0, f1, fun M1 a => ?_, ?_, (hT.q a1).n _, (a1.mo (fun r x z => by unfold S1824; omega)).wI (by unfold S1824; omega), ?_, ?_, ?_, ?_, ?_, ?_, hQ.2.1⟩
  · have e := v_has hS g.2.2.2.1 (nI (Fi F)).toInt64
    rw [l2, ci _ (by omega), if_pos (show (0 : Int) ≤ (Fi F : Nat) ∧ ((Fi F : Nat) : Int) < ((dn (DP P (Fj F)) : Nat) : Int) from ⟨by omega, Int.ofNat_lt.mpr o3⟩)] at e
    exact e
  · have e := v_costOf (a.st hS) (x := mI M (mr (Fj F) + 1) (Fi F)) (by rw [hm.1]; exact f0) (by rw [hm.1]; exact f1)
    rw [hm.1] at e
    have e2 : mI M1 6 (po P (Fj F) (Fi F)).toNat = nI (ct (po P (Fj F) (Fi F)).toNat) := (a.i (by omega)).trans hct.1
    have e3 : mI M1 6 (dO (DP P (Fj F)) (Fi F)).toNat = nI (ct (po P (Fj F) (Fi F)).toNat) := e2
    rw [e3] at e
    exact e
  · exact jJ_e (by rw [l2, ci _ (by omega)])
  · unfold Mst; simp (disch := omega) only [wrI_s, wrI_r, wrI_j, wrJ_s, wrJ_r, wrJ_j, wrI_J, wrJ_I, wrR_I, wrR_J]; exact hQ.2.2.1
  · unfold Mst; simp (disch := omega) only [wrI_s, wrI_r, wrI_j, wrJ_s, wrJ_r, wrJ_j, wrI_J, wrJ_I, wrR_I, wrR_J]
  · unfold Mst; simp (disch := omega) only [wrI_s, wrI_r, wrI_j, wrJ_s, wrJ_r, wrJ_j, wrI_J, wrJ_I, wrR_I, wrR_J]; exact hQ.2.2.2.2
  · unfold Mst; simp (disch := omega) only [wrI_s, wrI_r, wrI_j, wrJ_s, wrJ_r, wrJ_j, wrI_J, wrJ_I, wrR_I, wrR_J]; exact hQ.1
  · unfold Mst; simp (disch := omega) only [wrI_s, wrI_r, wrI_j, wrJ_s, wrJ_r, wrJ_j, wrI_J, wrJ_I, wrR_I, wrR_J]
  · rw [hQ.2.2.2.1, nI_1]
theorem c_hand {M : AM} {F : Fr} {r : List Fr} {q : QQ} (hP : PD P) (H : STP P mr ct M F r q) (h11 : po P (Fj F) (Fi F) ≤ 11) :
    ∃ M', Ev K_X3_doNext [aR (some 18)] M (some (aI 0)) M' ∧ CSt P mr M' (nf P F) r ∧ CQ M' (kq q (jJ (ct (po P (Fj F) (Fi F)).toNat)) (max q.2.2.1 (wd P (nf P F) r)) 0) ∧ Aq S1824 M M' := by
  have hH := H
  obtain ⟨hS, hA, hC, hT, hQ, hO, hl, hq⟩ := hH
  obtain ⟨p1, p2, p3, p4, p5, p6, p7, p8, p9, p10, p11, p12, p13, p14, p15, p16, p17, p18, p19, p20, p21, p22, p23, p24⟩ := H.pre
  have hr := hO.rm hP hl
  have eOP : mI M (mr (Fj F) + 1) (mI M 22 (mI M 18 7).toNatClampNeg).toNatClampNeg = mI M (mr (Fj F) + 1) (Fi F) := by rw [p1, p3, p5, p6]
  have eNX : mI M 22 (mI M 18 7).toNatClampNeg = nI (Fi F) := by rw [p1, p3, p5]
  have e13 : wrI M 18 13 (mI M 18 13 + 1) = wrI M 18 13 (nI (q.2.2.2.1 + 1)) := by rw [p23]
  have e7c : mI (wrI M 18 13 (nI (q.2.2.2.1 + 1))) 18 7 = nI r.length := by simp (disch := omega) only [wrI_s, wrI_r, wrI_j, wrJ_s, wrJ_r, wrJ_j, wrI_J, wrJ_I, wrR_I, wrR_J]; exact p1
  have eMst : wrI (wrJ (wrI M 18 13 (nI (q.2.2.2.1 + 1))) 18 11 (mJ M 18 11 + (nI (ct (po P (Fj F) (Fi F)).toNat)).toInt64)) 22 (mI (wrI M 18 13 (nI (q.2.2.2.1 + 1))) 18 7).toNatClampNeg (nI (Fi F) + 1) = Mst P ct M F r q := by
    rw [e7c, p3, p15, p24, nI_1]; rfl
  have hcost := p14 (wrI M 18 13 (nI (q.2.2.2.1 + 1))) (Aq.rf.wI (by omega))
  obtain ⟨Mh, hE, hCh, hAh⟩ := v_handle (p17.st hS) p16 (show Rm P (fN F (Fi F + 1)) r from hr) p8 (show (mJ (Mst P ct M F r q) (mr (Fj F) + 2) (Fi F)).toInt = pa P (Fj F) (Fi F) from (congrArg Int64.toInt (p17.j (by unfold S1824; have := p10.1; omega))).trans p9) p12 h11 (hO.1.ho hP h11)
  have eN : hf (pL P (Fj F)) (po P (Fj F) (Fi F)) (pa P (Fj F) (Fi F)) (fN F (Fi F + 1)) = nf P F := (if_pos h11).symm
  rw [eN] at hCh
  have h16 : po P (Fj F) (Fi F) ≠ 16 := by omega
  have h17 : po P (Fj F) (Fi F) ≠ 17 := by omega
  have hx := hO.1.nx hP h16 h17
  have hO' : OKL P 0 (nf P F :: r) := ⟨hx.1, by rw [hx.2]; exact hO.2⟩
  have hr' := hO'.rm hP hl
  obtain ⟨r1, r2, r3, r4, r5, r6⟩ := hr'
  have hz : sz P r + fz P (nf P F) ≤ 1000000 := by unfold fz; omega
  have hw := v_count (hAh.st (p17.st hS)) hCh.2.1 hCh.1 ((hAh.i (by unfold SH; omega)).trans p18) hz (by omega) hq.1
  refine ⟨wrI Mh 18 12 (nI (max q.2.2.1 (wd P (nf P F) r))), ?_, ?_, ?_, ?_⟩
  rotate_left
  · exact hCh.q (Aq.rf.wI (by omega))
  · refine ⟨?_, ?_, ?_, ?_, ?_⟩
    · simp (disch := omega) only [wrI_s, wrI_r, wrI_j, wrJ_s, wrJ_r, wrJ_j, wrI_J, wrJ_I, wrR_I, wrR_J]; exact (hAh.j (by unfold SH; omega)).trans p21
    · simp (disch := omega) only [wrI_s, wrI_r, wrI_j, wrJ_s, wrJ_r, wrJ_j, wrI_J, wrJ_I, wrR_I, wrR_J]; exact (hAh.j (by unfold SH; omega)).trans p22
    · simp (disch := omega) only [wrI_s, wrI_r, wrI_j, wrJ_s, wrJ_r, wrJ_j, wrI_J, wrJ_I, wrR_I, wrR_J]; rfl
    · simp (disch := omega) only [wrI_s, wrI_r, wrI_j, wrJ_s, wrJ_r, wrJ_j, wrI_J, wrJ_I, wrR_I, wrR_J]; exact (hAh.i (by unfold SH; omega)).trans p19
    · simp (disch := omega) only [wrI_s, wrI_r, wrI_j, wrJ_s, wrJ_r, wrJ_j, wrI_J, wrJ_I, wrR_I, wrR_J]; exact (hAh.i (by unfold SH; omega)).trans p20
  · exact (p17.tr (hAh.mo (fun r x z => by unfold SH at z; unfold S1824; omega))).wI (by unfold S1824; omega)
  clear hCh hO' hx eN
  apply s_X3_doNext_0 (o101 := some (mr (Fj F))) (M1 := M) (M2 := wrI M 18 13 (nI (q.2.2.2.1 + 1))) (M3 := Mh) (M4 := wrI Mh 18 12 (nI (max q.2.2.1 (wd P (nf P F) r)))) (M5 := M) (M6 := M) (M7 := M) (M8 := M) (M9 := M) (M10 := M) (M11 := M) (M12 := M) (M13 := M) (M14 := M) (M15 := M) (M16 := M) (M17 := M) (M18 := M) (M19 := M) (M20 := M) (M21 := M) (M22 := M) (M23 := M) (M24 := M) (M25 := M) (M26 := M) (M27 := M) (M28 := M) (M29 := M) (M30 := M) (M31 := M) (M32 := M) (x102 := 1) (x106 := nI (ct (po P (Fj F) (Fi F)).toNat)) (x109 := 0) (x110 := 0) (x112 := 0) (x115 := 0) (x118 := 0) (x121 := 0) (x122 := 0) (x124 := 0) (x127 := 0) (o116 := none) hS
  case b1 => rw [p1]; exact p2
  case q2 => rw [p1, p3]; exact p4
  case k3 => intro z; simp at z
  case h4 => intro r1 z; injection z with z; subst z; exact p10
  case c5 => intro r1 z; injection z with z; subst z; rw [p1, p3, p5]; exact p11
  case b6 => intros; rw [p1, p3, p5]; exact p7
  case k60 => intro r1 z g; exact absurd g (by decide)
  case c7 => intro r1 z; injection z with z; subst z; intros; rw [eOP, e13]; exact hcost
  case b8 => intro r1 z; injection z with z; subst z; intros; rw [e7c]; exact p2
  case c9 => intro r1 z; injection z with z; subst z; intros; rw [eOP, eNX, p6, eMst, p24, p15]; exact hE
  case c10 => intro r1 z; injection z with z; subst z; intros; exact hw
  case k11 => intro r1 z; injection z with z; subst z; intros; exact ⟨rfl, rfl⟩
  all_goals (clear H hS hA hC hT hQ hO hl hq p1 p2 p3 p4 p5 p6 p7 p10 p11 p14 p15 p16 p17 p18 p19 p20 p21 p22 p23 p24 hcost eMst e13 hE hAh hw; intro r1 z; injection z with z; subst z; intros; exfalso; simp only [eOP] at *; simp only [lt32, le32, eq32, lt64, le64, eq64, Int32.reduceToInt, Int64.reduceToInt, p8] at * <;> omega)
theorem c_flow {M : AM} {F : Fr} {r : List Fr} {q : QQ} (hP : PD P) (H : STP P mr ct M F r q) (h12 : 12 ≤ po P (Fj F) (Fi F)) (h15 : po P (Fj F) (Fi F) ≤ 15) :
    ∃ M', Ev K_X3_doNext [aR (some 18)] M (some (aI 0)) M' ∧ CSt P mr M' (nf P F) r ∧ CQ M' (kq q (jJ (ct (po P (Fj F) (Fi F)).toNat)) (max q.2.2.1 (wd P (nf P F) r)) 0) ∧ Aq S1824 M M' := by
  have hH := H
  obtain ⟨hS, hA, hC, hT, hQ, hO, hl, hq⟩ := hH
  obtain ⟨p1, p2, p3, p4, p5, p6, p7, p8, p9, p10, p11, p12, p13, p14, p15, p16, p17, p18, p19, p20, p21, p22, p23, p24⟩ := H.pre
  have hr := hO.rm hP hl
  have eOP : mI M (mr (Fj F) + 1) (mI M 22 (mI M 18 7).toNatClampNeg).toNatClampNeg = mI M (mr (Fj F) + 1) (Fi F) := by rw [p1, p3, p5, p6]
  have eNX : mI M 22 (mI M 18 7).toNatClampNeg = nI (Fi F) := by rw [p1, p3, p5]
  have e13 : wrI M 18 13 (mI M 18 13 + 1) = wrI M 18 13 (nI (q.2.2.2.1 + 1)) := by rw [p23]
  have e7c : mI (wrI M 18 13 (nI (q.2.2.2.1 + 1))) 18 7 = nI r.length := by simp (disch := omega) only [wrI_s, wrI_r, wrI_j, wrJ_s, wrJ_r, wrJ_j, wrI_J, wrJ_I, wrR_I, wrR_J]; exact p1
  have eMst : wrI (wrJ (wrI M 18 13 (nI (q.2.2.2.1 + 1))) 18 11 (mJ M 18 11 + (nI (ct (po P (Fj F) (Fi F)).toNat)).toInt64)) 22 (mI (wrI M 18 13 (nI (q.2.2.2.1 + 1))) 18 7).toNatClampNeg (nI (Fi F) + 1) = Mst P ct M F r q := by
    rw [e7c, p3, p15, p24, nI_1]; rfl
  have hcost := p14 (wrI M 18 13 (nI (q.2.2.2.1 + 1))) (Aq.rf.wI (by omega))
  have hA2 := hA.aq hS p17 (fun r j z => z)
  obtain ⟨Mh, hE, hCh, hAh⟩ := v_flow (m := mr (Fj F)) (p17.st hS) p16 hr (hA2.1.2 (Fj F) hO.1.1).2.2.2 (hA2.2 (Fj F) hO.1.1) hO.1.2.1 hO.1.2.2.1 h12 h15 (hO.1.k13 hP) hO.1.k14 hO.1.k15
  have eN : gf (DP P (Fj F)) F = nf P F := (if_neg (by omega)).symm
  rw [eN] at hCh
  have h16 : po P (Fj F) (Fi F) ≠ 16 := by omega
  have h17 : po P (Fj F) (Fi F) ≠ 17 := by omega
  have hx := hO.1.nx hP h16 h17
  have hO' : OKL P 0 (nf P F :: r) := ⟨hx.1, by rw [hx.2]; exact hO.2⟩
  have hr' := hO'.rm hP hl
  obtain ⟨r1, r2, r3, r4, r5, r6⟩ := hr'
  have hz : sz P r + fz P (nf P F) ≤ 1000000 := by unfold fz; omega
  have hw := v_count (hAh.st (p17.st hS)) hCh.2.1 hCh.1 ((hAh.i (by unfold SH; omega)).trans p18) hz (by omega) hq.1
  refine ⟨wrI Mh 18 12 (nI (max q.2.2.1 (wd P (nf P F) r))), ?_, ?_, ?_, ?_⟩
  rotate_left
  · exact hCh.q (Aq.rf.wI (by omega))
  · refine ⟨?_, ?_, ?_, ?_, ?_⟩
    · simp (disch := omega) only [wrI_s, wrI_r, wrI_j, wrJ_s, wrJ_r, wrJ_j, wrI_J, wrJ_I, wrR_I, wrR_J]; exact (hAh.j (by unfold SH; omega)).trans p21
    · simp (disch := omega) only [wrI_s, wrI_r, wrI_j, wrJ_s, wrJ_r, wrJ_j, wrI_J, wrJ_I, wrR_I, wrR_J]; exact (hAh.j (by unfold SH; omega)).trans p22
    · simp (disch := omega) only [wrI_s, wrI_r, wrI_j, wrJ_s, wrJ_r, wrJ_j, wrI_J, wrJ_I, wrR_I, wrR_J]; rfl
    · simp (disch := omega) only [wrI_s, wrI_r, wrI_j, wrJ_s, wrJ_r, wrJ_j, wrI_J, wrJ_I, wrR_I, wrR_J]; exact (hAh.i (by unfold SH; omega)).trans p19
    · simp (disch := omega) only [wrI_s, wrI_r, wrI_j, wrJ_s, wrJ_r, wrJ_j, wrI_J, wrJ_I, wrR_I, wrR_J]; exact (hAh.i (by unfold SH; omega)).trans p20
  · exact (p17.tr (hAh.mo (fun r x z => by unfold SH at z; unfold S1824; omega))).wI (by unfold S1824; omega)
  clear hCh hO' hx eN hA2
  apply s_X3_doNext_0 (o101 := some (mr (Fj F))) (M1 := M) (M2 := wrI M 18 13 (nI (q.2.2.2.1 + 1))) (M3 := M) (M4 := M) (M5 := Mh) (M6 := wrI Mh 18 12 (nI (max q.2.2.1 (wd P (nf P F) r)))) (M7 := M) (M8 := M) (M9 := M) (M10 := M) (M11 := M) (M12 := M) (M13 := M) (M14 := M) (M15 := M) (M16 := M) (M17 := M) (M18 := M) (M19 := M) (M20 := M) (M21 := M) (M22 := M) (M23 := M) (M24 := M) (M25 := M) (M26 := M) (M27 := M) (M28 := M) (M29 := M) (M30 := M) (M31 := M) (M32 := M) (x102 := 1) (x106 := nI (ct (po P (Fj F) (Fi F)).toNat)) (x109 := 0) (x110 := 0) (x112 := 0) (x115 := 0) (x118 := 0) (x121 := 0) (x122 := 0) (x124 := 0) (x127 := 0) (o116 := none) hS
  case b1 => rw [p1]; exact p2
  case q2 => rw [p1, p3]; exact p4
  case k3 => intro z; simp at z
  case h4 => intro r1 z; injection z with z; subst z; exact p10
  case c5 => intro r1 z; injection z with z; subst z; rw [p1, p3, p5]; exact p11
  case b6 => intros; rw [p1, p3, p5]; exact p7
  case k60 => intro r1 z g; exact absurd g (by decide)
  case c7 => intro r1 z; injection z with z; subst z; intros; rw [eOP, e13]; exact hcost
  case b8 => intro r1 z; injection z with z; subst z; intros; rw [e7c]; exact p2
  case c12 => intro r1 z; injection z with z; subst z; intros; rw [eNX, eMst]; exact hE
  case c13 => intro r1 z; injection z with z; subst z; intros; exact hw
  case k14 => intro r1 z; injection z with z; subst z; intros; exact ⟨rfl, rfl⟩
  all_goals (clear H hS hA hC hT hQ hO hl hq p1 p2 p3 p4 p5 p6 p7 p10 p11 p14 p15 p16 p17 p18 p19 p20 p21 p22 p23 p24 hcost eMst e13 hE hAh hw; intro r1 z; injection z with z; subst z; intros; exfalso; simp only [eOP] at *; simp only [lt32, le32, eq32, lt64, le64, eq64, Int32.reduceToInt, Int64.reduceToInt, p8] at * <;> omega)
theorem c_ret1 {M : AM} {F : Fr} {G : Fr} {s : List Fr} {q : QQ} (hP : PD P) (H : STP P mr ct M F (G :: s) q) (h17 : po P (Fj F) (Fi F) = 17) :
    ∃ M', Ev K_X3_doNext [aR (some 18)] M (some (aI 0)) M' ∧ CSt P mr M' (bf P F G) s ∧ CQ M' (kq q (jJ (ct (po P (Fj F) (Fi F)).toNat)) q.2.2.1 0) ∧ Aq S1824 M M' := by
  have hH := H
  obtain ⟨hS, hA, hC, hT, hQ, hO, hl, hq⟩ := hH
  obtain ⟨p1, p2, p3, p4, p5, p6, p7, p8, p9, p10, p11, p12, p13, p14, p15, p16, p17, p18, p19, p20, p21, p22, p23, p24⟩ := H.pre
  have hr := hO.rm hP hl
  have hr2 : Rm P G s := OKL.rm hP hO.2 (by have : (G :: s).length = s.length + 1 := rfl; omega)
  have eOP : mI M (mr (Fj F) + 1) (mI M 22 (mI M 18 7).toNatClampNeg).toNatClampNeg = mI M (mr (Fj F) + 1) (Fi F) := by rw [p1, p3, p5, p6]
  have eNX : mI M 22 (mI M 18 7).toNatClampNeg = nI (Fi F) := by rw [p1, p3, p5]
  have e13 : wrI M 18 13 (mI M 18 13 + 1) = wrI M 18 13 (nI (q.2.2.2.1 + 1)) := by rw [p23]
  have e7c : mI (wrI M 18 13 (nI (q.2.2.2.1 + 1))) 18 7 = nI (G :: s).length := by simp (disch := omega) only [wrI_s, wrI_r, wrI_j, wrJ_s, wrJ_r, wrJ_j, wrI_J, wrJ_I, wrR_I, wrR_J]; exact p1
  have eMst : wrI (wrJ (wrI M 18 13 (nI (q.2.2.2.1 + 1))) 18 11 (mJ M 18 11 + (nI (ct (po P (Fj F) (Fi F)).toNat)).toInt64)) 22 (mI (wrI M 18 13 (nI (q.2.2.2.1 + 1))) 18 7).toNatClampNeg (nI (Fi F) + 1) = Mst P ct M F (G :: s) q := by
    rw [e7c, p3, p15, p24, nI_1]; rfl
  have hcost := p14 (wrI M 18 13 (nI (q.2.2.2.1 + 1))) (Aq.rf.wI (by omega))
  obtain ⟨Mh, hE, hCh, hAh⟩ := v_leave1 (F := fN F (Fi F + 1)) (p17.st hS) (hA.aq hS p17 (fun r j z => z)).1 hO.1.1 p16 hr hr2 (by have := hO.1.ret hP h17; show pR P (Fj F) ≤ Fh F; omega) (hO.2.1.rng hP).1
  refine ⟨Mh, ?_, ?_, ?_, ?_⟩
  rotate_left
  · exact hCh
  · exact ⟨(hAh.j (by unfold Sl; omega)).trans p21, (hAh.j (by unfold Sl; omega)).trans p22, (hAh.i (by unfold Sl; omega)).trans p18, (hAh.i (by unfold Sl; omega)).trans p19, (hAh.i (by unfold Sl; omega)).trans p20⟩
  · exact p17.tr (hAh.mo (fun r x z => by unfold Sl at z; unfold S1824; omega))
  clear hCh
  apply s_X3_doNext_0 (o101 := some (mr (Fj F))) (M1 := M) (M2 := wrI M 18 13 (nI (q.2.2.2.1 + 1))) (M3 := M) (M4 := M) (M5 := M) (M6 := M) (M7 := Mh) (M8 := M) (M9 := M) (M10 := M) (M11 := M) (M12 := M) (M13 := M) (M14 := M) (M15 := M) (M16 := M) (M17 := M) (M18 := M) (M19 := M) (M20 := M) (M21 := M) (M22 := M) (M23 := M) (M24 := M) (M25 := M) (M26 := M) (M27 := M) (M28 := M) (M29 := M) (M30 := M) (M31 := M) (M32 := M) (x102 := 1) (x106 := nI (ct (po P (Fj F) (Fi F)).toNat)) (x109 := 0) (x110 := 0) (x112 := 0) (x115 := 0) (x118 := 0) (x121 := 0) (x122 := 0) (x124 := 0) (x127 := 0) (o116 := none) hS
  case b1 => rw [p1]; exact p2
  case q2 => rw [p1, p3]; exact p4
  case k3 => intro z; simp at z
  case h4 => intro r1 z; injection z with z; subst z; exact p10
  case c5 => intro r1 z; injection z with z; subst z; rw [p1, p3, p5]; exact p11
  case b6 => intros; rw [p1, p3, p5]; exact p7
  case k60 => intro r1 z g; exact absurd g (by decide)
  case c7 => intro r1 z; injection z with z; subst z; intros; rw [eOP, e13]; exact hcost
  case b8 => intro r1 z; injection z with z; subst z; intros; rw [e7c]; exact p2
  case c15 => intro r1 z; injection z with z; subst z; intros; rw [eNX, eMst]; exact hE
  case k16 => intro r1 z; injection z with z; subst z; intros; exact ⟨rfl, rfl⟩
  all_goals (clear H hS hA hC hT hQ hO hl hq p1 p2 p3 p4 p5 p6 p7 p10 p11 p14 p15 p16 p17 p18 p19 p20 p21 p22 p23 p24 hcost eMst e13 hE hAh hr hr2; intro r1 z; injection z with z; subst z; intros; exfalso; simp only [eOP] at *; simp only [lt32, le32, eq32, lt64, le64, eq64, Int32.reduceToInt, Int64.reduceToInt, p8] at * <;> omega)
theorem c_ret0 {M : AM} {F : Fr} {q : QQ} (hP : PD P) (H : STP P mr ct M F [] q) (h17 : po P (Fj F) (Fi F) = 17) :
    ∃ M', Ev K_X3_doNext [aR (some 18)] M (some (aI 1)) M' ∧ CQ M' (ans P F, q.2.1 + jJ (ct (po P (Fj F) (Fi F)).toNat), q.2.2.1, q.2.2.2.1 + 1, q.2.2.2.2) ∧ Aq S1824 M M' := by
  have hH := H
  obtain ⟨hS, hA, hC, hT, hQ, hO, hl, hq⟩ := hH
  obtain ⟨p1, p2, p3, p4, p5, p6, p7, p8, p9, p10, p11, p12, p13, p14, p15, p16, p17, p18, p19, p20, p21, p22, p23, p24⟩ := H.pre
  have hr := hO.rm hP hl
  have eOP : mI M (mr (Fj F) + 1) (mI M 22 (mI M 18 7).toNatClampNeg).toNatClampNeg = mI M (mr (Fj F) + 1) (Fi F) := by rw [p1, p3, p5, p6]
  have eNX : mI M 22 (mI M 18 7).toNatClampNeg = nI (Fi F) := by rw [p1, p3, p5]
  have e13 : wrI M 18 13 (mI M 18 13 + 1) = wrI M 18 13 (nI (q.2.2.2.1 + 1)) := by rw [p23]
  have e7c : mI (wrI M 18 13 (nI (q.2.2.2.1 + 1))) 18 7 = nI ([] : List Fr).length := by simp (disch := omega) only [wrI_s, wrI_r, wrI_j, wrJ_s, wrJ_r, wrJ_j, wrI_J, wrJ_I, wrR_I, wrR_J]; exact p1
  have eMst : wrI (wrJ (wrI M 18 13 (nI (q.2.2.2.1 + 1))) 18 11 (mJ M 18 11 + (nI (ct (po P (Fj F) (Fi F)).toNat)).toInt64)) 22 (mI (wrI M 18 13 (nI (q.2.2.2.1 + 1))) 18 7).toNatClampNeg (nI (Fi F) + 1) = Mst P ct M F [] q := by
    rw [e7c, p3, p15, p24, nI_1]; rfl
  have hcost := p14 (wrI M 18 13 (nI (q.2.2.2.1 + 1))) (Aq.rf.wI (by omega))
  obtain ⟨Mh, hE, hCh, hAh⟩ := v_leave0 (F := fN F (Fi F + 1)) (p17.st hS) (hA.aq hS p17 (fun r j z => z)).1 hO.1.1 p16 hr (by have := hO.1.ret hP h17; show pR P (Fj F) ≤ Fh F; omega)
  refine ⟨Mh, ?_, ?_, ?_⟩
  rotate_left
  · exact ⟨hCh, (hAh.j (by unfold Sl; omega)).trans p22, (hAh.i (by unfold Sl; omega)).trans p18, (hAh.i (by unfold Sl; omega)).trans p19, (hAh.i (by unfold Sl; omega)).trans p20⟩
  · exact p17.tr (hAh.mo (fun r x z => by unfold Sl at z; unfold S1824; omega))
  clear hCh
  apply s_X3_doNext_0 (o101 := some (mr (Fj F))) (M1 := M) (M2 := wrI M 18 13 (nI (q.2.2.2.1 + 1))) (M3 := M) (M4 := M) (M5 := M) (M6 := M) (M7 := Mh) (M8 := M) (M9 := M) (M10 := M) (M11 := M) (M12 := M) (M13 := M) (M14 := M) (M15 := M) (M16 := M) (M17 := M) (M18 := M) (M19 := M) (M20 := M) (M21 := M) (M22 := M) (M23 := M) (M24 := M) (M25 := M) (M26 := M) (M27 := M) (M28 := M) (M29 := M) (M30 := M) (M31 := M) (M32 := M) (x102 := 1) (x106 := nI (ct (po P (Fj F) (Fi F)).toNat)) (x109 := 1) (x110 := 0) (x112 := 0) (x115 := 0) (x118 := 0) (x121 := 0) (x122 := 0) (x124 := 0) (x127 := 0) (o116 := none) hS
  case b1 => rw [p1]; exact p2
  case q2 => rw [p1, p3]; exact p4
  case k3 => intro z; simp at z
  case h4 => intro r1 z; injection z with z; subst z; exact p10
  case c5 => intro r1 z; injection z with z; subst z; rw [p1, p3, p5]; exact p11
  case b6 => intros; rw [p1, p3, p5]; exact p7
  case k60 => intro r1 z g; exact absurd g (by decide)
  case c7 => intro r1 z; injection z with z; subst z; intros; rw [eOP, e13]; exact hcost
  case b8 => intro r1 z; injection z with z; subst z; intros; rw [e7c]; exact p2
  case c15 => intro r1 z; injection z with z; subst z; intros; rw [eNX, eMst]; exact hE
  case k16 => intro r1 z; injection z with z; subst z; intros; exact ⟨rfl, rfl⟩
  all_goals (clear H hS hA hC hT hQ hO hl hq p1 p2 p3 p4 p5 p6 p7 p10 p11 p14 p15 p16 p17 p18 p19 p20 p21 p22 p23 p24 hcost eMst e13 hE hAh hr; intro r1 z; injection z with z; subst z; intros; exfalso; simp only [eOP] at *; simp only [lt32, le32, eq32, lt64, le64, eq64, Int32.reduceToInt, Int64.reduceToInt, p8] at * <;> omega)
theorem c_call4 {M : AM} {F : Fr} {r : List Fr} {q : QQ} (hP : PD P) (H : STP P mr ct M F r q) (h16 : po P (Fj F) (Fi F) = 16) (hn : ¬ Sd (DP P (pa P (Fj F) (Fi F)).toNat)) :
    ∃ M', Ev K_X3_doNext [aR (some 18)] M (some (aI 4)) M' ∧ M' = M := by
  have hH := H
  obtain ⟨hS, hA, hC, hT, hQ, hO, hl, hq⟩ := hH
  obtain ⟨p1, p2, p3, p4, p5, p6, p7, p8, p9, p10, p11, p12, p13, p14, p15, p16, p17, p18, p19, p20, p21, p22, p23, p24⟩ := H.pre
  have hr := hO.rm hP hl
  have eOP : mI M (mr (Fj F) + 1) (mI M 22 (mI M 18 7).toNatClampNeg).toNatClampNeg = mI M (mr (Fj F) + 1) (Fi F) := by rw [p1, p3, p5, p6]
  have eNX : mI M 22 (mI M 18 7).toNatClampNeg = nI (Fi F) := by rw [p1, p3, p5]
  have e13 : wrI M 18 13 (mI M 18 13 + 1) = wrI M 18 13 (nI (q.2.2.2.1 + 1)) := by rw [p23]
  have e7c : mI (wrI M 18 13 (nI (q.2.2.2.1 + 1))) 18 7 = nI r.length := by simp (disch := omega) only [wrI_s, wrI_r, wrI_j, wrJ_s, wrJ_r, wrJ_j, wrI_J, wrJ_I, wrR_I, wrR_J]; exact p1
  have eMst : wrI (wrJ (wrI M 18 13 (nI (q.2.2.2.1 + 1))) 18 11 (mJ M 18 11 + (nI (ct (po P (Fj F) (Fi F)).toNat)).toInt64)) 22 (mI (wrI M 18 13 (nI (q.2.2.2.1 + 1))) 18 7).toNatClampNeg (nI (Fi F) + 1) = Mst P ct M F r q := by
    rw [e7c, p3, p15, p24, nI_1]; rfl
  have hcost := p14 (wrI M 18 13 (nI (q.2.2.2.1 + 1))) (Aq.rf.wI (by omega))
  have hca := hO.1.call hP h16
  have hc : (pa P (Fj F) (Fi F)).toNat < pc P := by omega
  have hpw := hA.1.1
  have hMc := (hpw.2.2.1 _ hc).2
  have hfind : Ev K_X5_find [aR (some 4), aJ (mJ M (mr (Fj F) + 2) (Fi F))] M (some (aR (some (mr (pa P (Fj F) (Fi F)).toNat)))) M := by
    have e := v_find hS hpw (mJ M (mr (Fj F) + 2) (Fi F))
    rw [p9, if_pos ⟨hca.1, hca.2.1⟩] at e
    exact e
  have hsnd := v_isSound hS hMc
  have h8 := (hA.2 _ hc).1
  have t7 := ci r.length (by omega)
  have e71 : (nI r.length + 1).toInt = (r.length + 1 : Nat) := by rw [nI_1, ci _ (by omega)]
  have hns : ¬ mI M (mr (pa P (Fj F) (Fi F)).toNat) 8 = 0 := by
    rw [h8]
    intro y
    have hr8 := chk_r (DP P (pa P (Fj F) (Fi F)).toNat)
    rw [eq32, iI_t (by omega) (by omega)] at y
    exact hn y
  rw [if_neg hns] at hsnd
  refine ⟨M, ?_, rfl⟩
  have href : Ev K_X3_refuse [aR (some 18), aR (some (mr (pa P (Fj F) (Fi F)).toNat))] M (some (aI 4)) M := by
    apply s_X3_refuse_0 (M1 := M) (x101 := 0) hS hMc hsnd
    case k4 => intros; exact ⟨rfl, rfl⟩
    all_goals (intro g; exact absurd rfl g)
  clear hca hsnd h8 hns
  apply s_X3_doNext_0 (o101 := some (mr (Fj F))) (M1 := M) (M2 := M) (M3 := M) (M4 := M) (M5 := M) (M6 := M) (M7 := M) (M8 := M) (M9 := M) (M10 := M) (M11 := M) (M12 := M) (M13 := M) (M14 := M) (M15 := M) (M16 := M) (M17 := M) (M18 := M) (M19 := M) (M20 := M) (M21 := M) (M22 := M) (M23 := M) (M24 := M) (M25 := M) (M26 := M) (M27 := M) (M28 := M) (M29 := M) (M30 := M) (M31 := M) (M32 := M) (x102 := 1) (x106 := 0) (x109 := 0) (x110 := 0) (x112 := 0) (x115 := 0) (x118 := 0) (x121 := 0) (x122 := 4) (x124 := 0) (x127 := 0) (o116 := some (mr (pa P (Fj F) (Fi F)).toNat)) hS
  case b1 => rw [p1]; exact p2
  case q2 => rw [p1, p3]; exact p4
  case k3 => intro z; simp at z
  case h4 => intro r1 z; injection z with z; subst z; exact p10
  case c5 => intro r1 z; injection z with z; subst z; rw [p1, p3, p5]; exact p11
  case b6 => intros; rw [p1, p3, p5]; exact p7
  case k60 => intro r1 z g; exact absurd g (by decide)
  case c29 => intro r1 z; injection z with z; subst z; intros; rw [eNX, p6]; exact hfind
  case c44 => intro r1 z; injection z with z; subst z; intros; exact href
  case k59 => intro r1 z; injection z with z; subst z; intros; exact ⟨rfl, rfl⟩
  case c45 => intro r1 z _ _ _ g; exact absurd g (by decide)
  case b46 => intro r1 z _ _ _ g; exact absurd g (by decide)
  case c47 => intro r1 z _ _ _ g; exact absurd g (by decide)
  case c48 => intro r1 z _ _ _ g; exact absurd g (by decide)
  case k49 => intro r1 z _ _ _ g; exact absurd g (by decide)
  case c50 => intro r1 z _ _ _ g; exact absurd g (by decide)
  case c51 => intro r1 z _ _ _ g; exact absurd g (by decide)
  case k52 => intro r1 z _ _ _ g; exact absurd g (by decide)
  case h53 => intro r1 z _ _ _ g; exact absurd g (by decide)
  case c54 => intro r1 z _ _ _ g; exact absurd g (by decide)
  case c55 => intro r1 z _ _ _ g; exact absurd g (by decide)
  case k56 => intro r1 z _ _ _ g; exact absurd g (by decide)
  case c57 => intro r1 z _ _ _ g; exact absurd g (by decide)
  case k58 => intro r1 z _ _ _ g; exact absurd g (by decide)
  all_goals (clear H hS hA hC hT hQ hO hl hq p1 p2 p3 p4 p5 p6 p7 p10 p11 p14 p15 p16 p17 p18 p19 p20 p21 p22 p23 p24 hcost eMst e13 hfind hpw hMc hc href hr hn e71 t7; intro r1 z; injection z with z; subst z; intros; exfalso; simp only [eOP] at *; simp only [lt32, le32, eq32, lt64, le64, eq64, Int32.reduceToInt, Int64.reduceToInt, p8] at * <;> omega)
theorem c_call3 {M : AM} {F : Fr} {r : List Fr} {q : QQ} (hP : PD P) (H : STP P mr ct M F r q) (h16 : po P (Fj F) (Fi F) = 16) (hn : Sd (DP P (pa P (Fj F) (Fi F)).toNat)) (h99 : r.length = 99) :
    ∃ M', Ev K_X3_doNext [aR (some 18)] M (some (aI 3)) M' ∧ M' = M := by
  have hH := H
  obtain ⟨hS, hA, hC, hT, hQ, hO, hl, hq⟩ := hH
  obtain ⟨p1, p2, p3, p4, p5, p6, p7, p8, p9, p10, p11, p12, p13, p14, p15, p16, p17, p18, p19, p20, p21, p22, p23, p24⟩ := H.pre
  have hr := hO.rm hP hl
  have eOP : mI M (mr (Fj F) + 1) (mI M 22 (mI M 18 7).toNatClampNeg).toNatClampNeg = mI M (mr (Fj F) + 1) (Fi F) := by rw [p1, p3, p5, p6]
  have eNX : mI M 22 (mI M 18 7).toNatClampNeg = nI (Fi F) := by rw [p1, p3, p5]
  have e13 : wrI M 18 13 (mI M 18 13 + 1) = wrI M 18 13 (nI (q.2.2.2.1 + 1)) := by rw [p23]
  have e7c : mI (wrI M 18 13 (nI (q.2.2.2.1 + 1))) 18 7 = nI r.length := by simp (disch := omega) only [wrI_s, wrI_r, wrI_j, wrJ_s, wrJ_r, wrJ_j, wrI_J, wrJ_I, wrR_I, wrR_J]; exact p1
  have eMst : wrI (wrJ (wrI M 18 13 (nI (q.2.2.2.1 + 1))) 18 11 (mJ M 18 11 + (nI (ct (po P (Fj F) (Fi F)).toNat)).toInt64)) 22 (mI (wrI M 18 13 (nI (q.2.2.2.1 + 1))) 18 7).toNatClampNeg (nI (Fi F) + 1) = Mst P ct M F r q := by
    rw [e7c, p3, p15, p24, nI_1]; rfl
  have hcost := p14 (wrI M 18 13 (nI (q.2.2.2.1 + 1))) (Aq.rf.wI (by omega))
  have hca := hO.1.call hP h16
  have hc : (pa P (Fj F) (Fi F)).toNat < pc P := by omega
  have hpw := hA.1.1
  have hMc := (hpw.2.2.1 _ hc).2
  have hfind : Ev K_X5_find [aR (some 4), aJ (mJ M (mr (Fj F) + 2) (Fi F))] M (some (aR (some (mr (pa P (Fj F) (Fi F)).toNat)))) M := by
    have e := v_find hS hpw (mJ M (mr (Fj F) + 2) (Fi F))
    rw [p9, if_pos ⟨hca.1, hca.2.1⟩] at e
    exact e
  have hsnd := v_isSound hS hMc
  have h8 := (hA.2 _ hc).1
  have t7 := ci r.length (by omega)
  have e71 : (nI r.length + 1).toInt = (r.length + 1 : Nat) := by rw [nI_1, ci _ (by omega)]
  have hsz : mI M (mr (pa P (Fj F) (Fi F)).toNat) 8 = 0 := by rw [h8, show (chk (DP P (pa P (Fj F) (Fi F)).toNat)).1 = 0 from hn]; rfl
  rw [if_pos hsz] at hsnd
  refine ⟨M, ?_, rfl⟩
  have href : Ev K_X3_refuse [aR (some 18), aR (some (mr (pa P (Fj F) (Fi F)).toNat))] M (some (aI 3)) M := by
    apply s_X3_refuse_0 (M1 := M) (x101 := 1) hS hMc hsnd
    case k3 => intros; exact ⟨rfl, rfl⟩
    case k4 => intro g; exact absurd g (by decide)
    case k2 => intro _ g; exfalso; rw [p1, lt32, e71] at g; have : (100 : Int32).toInt = 100 := rfl; omega
  clear hca hsnd h8 hsz
  apply s_X3_doNext_0 (o101 := some (mr (Fj F))) (M1 := M) (M2 := M) (M3 := M) (M4 := M) (M5 := M) (M6 := M) (M7 := M) (M8 := M) (M9 := M) (M10 := M) (M11 := M) (M12 := M) (M13 := M) (M14 := M) (M15 := M) (M16 := M) (M17 := M) (M18 := M) (M19 := M) (M20 := M) (M21 := M) (M22 := M) (M23 := M) (M24 := M) (M25 := M) (M26 := M) (M27 := M) (M28 := M) (M29 := M) (M30 := M) (M31 := M) (M32 := M) (x102 := 1) (x106 := 0) (x109 := 0) (x110 := 0) (x112 := 0) (x115 := 0) (x118 := 0) (x121 := 0) (x122 := 3) (x124 := 0) (x127 := 0) (o116 := some (mr (pa P (Fj F) (Fi F)).toNat)) hS
  case b1 => rw [p1]; exact p2
  case q2 => rw [p1, p3]; exact p4
  case k3 => intro z; simp at z
  case h4 => intro r1 z; injection z with z; subst z; exact p10
  case c5 => intro r1 z; injection z with z; subst z; rw [p1, p3, p5]; exact p11
  case b6 => intros; rw [p1, p3, p5]; exact p7
  case k60 => intro r1 z g; exact absurd g (by decide)
  case c29 => intro r1 z; injection z with z; subst z; intros; rw [eNX, p6]; exact hfind
  case c44 => intro r1 z; injection z with z; subst z; intros; exact href
  case k59 => intro r1 z; injection z with z; subst z; intros; exact ⟨rfl, rfl⟩
  case c45 => intro r1 z _ _ _ g; exact absurd g (by decide)
  case b46 => intro r1 z _ _ _ g; exact absurd g (by decide)
  case c47 => intro r1 z _ _ _ g; exact absurd g (by decide)
  case c48 => intro r1 z _ _ _ g; exact absurd g (by decide)
  case k49 => intro r1 z _ _ _ g; exact absurd g (by decide)
  case c50 => intro r1 z _ _ _ g; exact absurd g (by decide)
  case c51 => intro r1 z _ _ _ g; exact absurd g (by decide)
  case k52 => intro r1 z _ _ _ g; exact absurd g (by decide)
  case h53 => intro r1 z _ _ _ g; exact absurd g (by decide)
  case c54 => intro r1 z _ _ _ g; exact absurd g (by decide)
  case c55 => intro r1 z _ _ _ g; exact absurd g (by decide)
  case k56 => intro r1 z _ _ _ g; exact absurd g (by decide)
  case c57 => intro r1 z _ _ _ g; exact absurd g (by decide)
  case k58 => intro r1 z _ _ _ g; exact absurd g (by decide)
  all_goals (clear H hS hA hC hT hQ hO hl hq p1 p2 p3 p4 p5 p6 p7 p10 p11 p14 p15 p16 p17 p18 p19 p20 p21 p22 p23 p24 hcost eMst e13 hfind hpw hMc hc href hr hn e71 t7; intro r1 z; injection z with z; subst z; intros; exfalso; simp only [eOP] at *; simp only [lt32, le32, eq32, lt64, le64, eq64, Int32.reduceToInt, Int64.reduceToInt, p8] at * <;> omega)
theorem c_call {M : AM} {F : Fr} {r : List Fr} {q : QQ} (hP : PD P) (H : STP P mr ct M F r q) (h16 : po P (Fj F) (Fi F) = 16) (hn : Sd (DP P (pa P (Fj F) (Fi F)).toNat)) (h99 : r.length < 99) :
    ∃ M', Ev K_X3_doNext [aR (some 18)] M (some (aI 0)) M' ∧ CSt P mr M' (ef P F) (cf P F :: r) ∧ CQ M' (kq q (jJ (ct (po P (Fj F) (Fi F)).toNat)) (max q.2.2.1 (wd P (ef P F) (cf P F :: r))) 1) ∧ Aq S1824 M M' := by
  have hH := H
  obtain ⟨hS, hA, hC, hT, hQ, hO, hl, hq⟩ := hH
  obtain ⟨p1, p2, p3, p4, p5, p6, p7, p8, p9, p10, p11, p12, p13, p14, p15, p16, p17, p18, p19, p20, p21, p22, p23, p24⟩ := H.pre
  have hr := hO.rm hP hl
  have eOP : mI M (mr (Fj F) + 1) (mI M 22 (mI M 18 7).toNatClampNeg).toNatClampNeg = mI M (mr (Fj F) + 1) (Fi F) := by rw [p1, p3, p5, p6]
  have eNX : mI M 22 (mI M 18 7).toNatClampNeg = nI (Fi F) := by rw [p1, p3, p5]
  have e13 : wrI M 18 13 (mI M 18 13 + 1) = wrI M 18 13 (nI (q.2.2.2.1 + 1)) := by rw [p23]
  have e7c : mI (wrI M 18 13 (nI (q.2.2.2.1 + 1))) 18 7 = nI r.length := by simp (disch := omega) only [wrI_s, wrI_r, wrI_j, wrJ_s, wrJ_r, wrJ_j, wrI_J, wrJ_I, wrR_I, wrR_J]; exact p1
  have eMst : wrI (wrJ (wrI M 18 13 (nI (q.2.2.2.1 + 1))) 18 11 (mJ M 18 11 + (nI (ct (po P (Fj F) (Fi F)).toNat)).toInt64)) 22 (mI (wrI M 18 13 (nI (q.2.2.2.1 + 1))) 18 7).toNatClampNeg (nI (Fi F) + 1) = Mst P ct M F r q := by
    rw [e7c, p3, p15, p24, nI_1]; rfl
  have hcost := p14 (wrI M 18 13 (nI (q.2.2.2.1 + 1))) (Aq.rf.wI (by omega))
  have hca := hO.1.call hP h16
  have hc : (pa P (Fj F) (Fi F)).toNat < pc P := by omega
  have hpw := hA.1.1
  have hMc := (hpw.2.2.1 _ hc).2
  have hfind : Ev K_X5_find [aR (some 4), aJ (mJ M (mr (Fj F) + 2) (Fi F))] M (some (aR (some (mr (pa P (Fj F) (Fi F)).toNat)))) M := by
    have e := v_find hS hpw (mJ M (mr (Fj F) + 2) (Fi F))
    rw [p9, if_pos ⟨hca.1, hca.2.1⟩] at e
    exact e
  have hsnd := v_isSound hS hMc
  have h8 := (hA.2 _ hc).1
  have t7 := ci r.length (by omega)
  have e71 : (nI r.length + 1).toInt = (r.length + 1 : Nat) := by rw [nI_1, ci _ (by omega)]
  have hsz : mI M (mr (pa P (Fj F) (Fi F)).toNat) 8 = 0 := by rw [h8, show (chk (DP P (pa P (Fj F) (Fi F)).toNat)).1 = 0 from hn]; rfl
  rw [if_pos hsz] at hsnd
  have href : Ev K_X3_refuse [aR (some 18), aR (some (mr (pa P (Fj F) (Fi F)).toNat))] M (some (aI 0)) M := by
    apply s_X3_refuse_0 (M1 := M) (x101 := 1) hS hMc hsnd
    case k2 => intros; exact ⟨rfl, rfl⟩
    case k4 => intro g; exact absurd g (by decide)
    case k3 => intro _ g; exfalso; rw [p1, lt32, e71] at g; have : (100 : Int32).toInt = 100 := rfl; omega
  have hL := (hP.ds hc).2.1
  have hL' : pL P (pa P (Fj F) (Fi F)).toNat ≤ 16 := hL
  have hAL : pA P (pa P (Fj F) (Fi F)).toNat ≤ pL P (pa P (Fj F) (Fi F)).toNat := (hP _ hc).2
  obtain ⟨r1, r2, r3, r4, r5, r6⟩ := hr
  have a14 : Aq S1824 M (wrI (Mst P ct M F r q) 18 14 (mI M 18 14 + 1)) := p17.wI (by unfold S1824; omega)
  have hT14 := p16.q (M' := wrI (Mst P ct M F r q) 18 14 (mI M 18 14 + 1)) (Aq.rf.wI (by omega))
  have esz : sz P (cf P F :: r) = sz P r + (pL P (Fj F) + (Fh F - pA P (pa P (Fj F) (Fi F)).toNat)) := rfl
  have elz : lz (cf P F :: r) = lz r + Fl F := rfl
  obtain ⟨Mh, hE, hAh, z1, z2, z3, z4, z5⟩ := v_enter (P := P) (mr := mr) (c := (pa P (Fj F) (Fi F)).toNat) (d := r.length + 1) (b := sz P (cf P F :: r)) (lb := lz (cf P F :: r)) (mo := q.2.2.1) (w := fun x => Fw F (pL P (Fj F) + (Fh F - pA P (pa P (Fj F) (Fi F)).toNat) + x)) (a14.st hS) (hA.aq hS a14 (fun r j z => z)).1 hc (by omega) (by omega) hq.1
    (hT14.2.1.trans (congrArg nI (by rw [esz]; unfold fz; show sz P r + (pL P (Fj F) + Fh F) = _; omega))) (hT14.2.2.1.trans (congrArg nI elz.symm)) (by simp (disch := omega) only [wrI_s, wrI_r, wrI_j, wrJ_s, wrJ_r, wrJ_j, wrI_J, wrJ_I, wrR_I, wrR_J]; exact p18)
    (fun x hx => by rw [esz, Nat.add_assoc]; exact hT14.2.2.2.1.2.2.2.2.1 _ (by unfold fz; show pL P (Fj F) + (Fh F - pA P (pa P (Fj F) (Fi F)).toNat) + x < pL P (Fj F) + Fh F; omega))
  have hw := v_count (hAh.st (a14.st hS)) z2 z1 z5 (by omega) (by omega) (by have := hq.1; omega)
  have emx : max (max q.2.2.1 (sz P (cf P F :: r) + pL P (pa P (Fj F) (Fi F)).toNat + 2 * (r.length + 1))) (sz P (cf P F :: r) + pL P (pa P (Fj F) (Fi F)).toNat + 2 * (r.length + 1)) = max q.2.2.1 (wd P (ef P F) (cf P F :: r)) := by
    have : wd P (ef P F) (cf P F :: r) = sz P (cf P F :: r) + pL P (pa P (Fj F) (Fi F)).toNat + 2 * (r.length + 1) := rfl
    rw [this]; omega
  rw [emx] at hw
  have hCF : CFs P mr Mh (cf P F :: r) := by
    obtain ⟨g1, g2, g3, g4, g5, g6⟩ := hT14.2.2.2.1
    refine CFs.aq hAh (cf P F :: r) ⟨⟨g1, g2, g3, g4, fun x hx => ?_, g6⟩, hT14.2.2.2.2⟩ (fun k hk => by unfold SE; omega) (fun k hk => by unfold SE; omega) (fun k hk => by have : k < r.length + 1 := hk; unfold SE; omega)
    have hx' : x < pL P (Fj F) + (Fh F - pA P (pa P (Fj F) (Fi F)).toNat) := hx
    exact g5 x (by unfold fz; show x < pL P (Fj F) + Fh F; omega)
  have a7 : mI M 18 7 + 1 = nI (r.length + 1) := by rw [p1, nI_1]
  refine ⟨wrI Mh 18 12 (nI (max q.2.2.1 (wd P (ef P F) (cf P F :: r)))), ?_, ?_, ?_, ?_⟩
  rotate_left
  · exact CSt.q (M := Mh) ⟨z1, z2, z3, z4, hCF⟩ (Aq.rf.wI (by omega))
  · refine ⟨?_, ?_, ?_, ?_, ?_⟩
    · simp (disch := omega) only [wrI_s, wrI_r, wrI_j, wrJ_s, wrJ_r, wrJ_j, wrI_J, wrJ_I, wrR_I, wrR_J]; exact (hAh.j (by unfold SE; omega)).trans p21
    · simp (disch := omega) only [wrI_s, wrI_r, wrI_j, wrJ_s, wrJ_r, wrJ_j, wrI_J, wrJ_I, wrR_I, wrR_J]; exact (hAh.j (by unfold SE; omega)).trans p22
    · simp (disch := omega) only [wrI_s, wrI_r, wrI_j, wrJ_s, wrJ_r, wrJ_j, wrI_J, wrJ_I, wrR_I, wrR_J]; rfl
    · simp (disch := omega) only [wrI_s, wrI_r, wrI_j, wrJ_s, wrJ_r, wrJ_j, wrI_J, wrJ_I, wrR_I, wrR_J]; rw [hAh.i (by unfold SE; omega)]; simp (disch := omega) only [wrI_s, wrI_r, wrI_j, wrJ_s, wrJ_r, wrJ_j, wrI_J, wrJ_I, wrR_I, wrR_J]; exact p19
    · simp (disch := omega) only [wrI_s, wrI_r, wrI_j, wrJ_s, wrJ_r, wrJ_j, wrI_J, wrJ_I, wrR_I, wrR_J]; rw [hAh.i (by unfold SE; omega)]; simp (disch := omega) only [wrI_s, wrI_r, wrI_j, wrJ_s, wrJ_r, wrJ_j, wrI_J, wrJ_I, wrR_I, wrR_J]; rw [hQ.2.2.2.2, nI_1]; rfl
  · exact (a14.tr (hAh.mo (fun r x z => by unfold SE at z; unfold S1824; omega))).wI (by unfold S1824; omega)
  have e14c : mI (wrI M 18 13 (nI (q.2.2.2.1 + 1))) 18 14 = mI M 18 14 := by simp (disch := omega) only [wrI_s, wrI_r, wrI_j, wrJ_s, wrJ_r, wrJ_j, wrI_J, wrJ_I, wrR_I, wrR_J]
  have hMM := p17.mt hS hMc
  clear hCF z1 z2 z3 z4 z5 hT14 hca hsnd h8 hsz emx esz elz
  apply s_X3_doNext_0 (o101 := some (mr (Fj F))) (M1 := M) (M2 := M) (M3 := M) (M4 := M) (M5 := M) (M6 := M) (M7 := M) (M8 := M) (M9 := M) (M10 := M) (M11 := M) (M12 := M) (M13 := M) (M14 := M) (M15 := M) (M16 := M) (M17 := M) (M18 := M) (M19 := M) (M20 := M) (M21 := M) (M22 := M) (M23 := M) (M24 := M) (M25 := wrI M 18 13 (nI (q.2.2.2.1 + 1))) (M26 := M) (M27 := M) (M28 := M) (M29 := M) (M30 := Mh) (M31 := wrI Mh 18 12 (nI (max q.2.2.1 (wd P (ef P F) (cf P F :: r))))) (M32 := M) (x102 := 1) (x106 := 0) (x109 := 0) (x110 := 0) (x112 := 0) (x115 := 0) (x118 := 0) (x121 := 0) (x122 := 0) (x124 := nI (ct (po P (Fj F) (Fi F)).toNat)) (x127 := 0) (o116 := some (mr (pa P (Fj F) (Fi F)).toNat)) hS
  case b1 => rw [p1]; exact p2
  case q2 => rw [p1, p3]; exact p4
  case k3 => intro z; simp at z
  case h4 => intro r1 z; injection z with z; subst z; exact p10
  case c5 => intro r1 z; injection z with z; subst z; rw [p1, p3, p5]; exact p11
  case b6 => intros; rw [p1, p3, p5]; exact p7
  case k60 => intro r1 z g; exact absurd g (by decide)
  case c29 => intro r1 z; injection z with z; subst z; intros; rw [eNX, p6]; exact hfind
  case c44 => intro r1 z; injection z with z; subst z; intros; exact href
  case c45 => intro r1 z; injection z with z; subst z; intros; rw [eOP, e13]; exact hcost
  case b46 => intro r1 z; injection z with z; subst z; intros; rw [e7c]; exact p2
  case h53 => intro r1 z; injection z with z; subst z; intro _ _ _ _ _ r2 z; injection z with z; subst z; rw [eNX, eMst]; exact hMM
  case c54 => intro r1 z; injection z with z; subst z; intro _ _ _ _ _ r2 z; injection z with z; subst z; rw [eNX, eMst, e7c, e14c, nI_1]; exact hE
  case c55 => intros; exact hw
  case k56 => intros; exact ⟨rfl, rfl⟩
  case k59 => intro r1 z _ _ _ g; exact absurd rfl g
  case c47 => intro r1 z _ _ _ _ _ g; simp at g
  case c48 => intro r1 z _ _ _ _ _ g; simp at g
  case k49 => intro r1 z _ _ _ _ _ g; simp at g
  case c50 => intro r1 z _ _ _ _ _ g; simp at g
  case c51 => intro r1 z _ _ _ _ _ g; simp at g
  case k52 => intro r1 z _ _ _ _ _ g; simp at g
  all_goals (clear H hS hA hC hT hQ hO hl hq p1 p2 p3 p4 p5 p6 p7 p10 p11 p14 p15 p16 p17 p18 p19 p20 p21 p22 p23 p24 hcost eMst e13 hfind hpw hMc hc href hn e71 t7 hE hAh hw a14 a7 e14c hMM hL; intro r1 z; injection z with z; subst z; intros; exfalso; simp only [eOP] at *; simp only [lt32, le32, eq32, lt64, le64, eq64, Int32.reduceToInt, Int64.reduceToInt, p8] at * <;> omega)
end CLS
