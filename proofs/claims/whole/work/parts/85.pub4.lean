/-! ===== PURE: height, analyse, run ===== -/
section PUB
variable {P : PG} {mr : Nat → Nat} {ct : Nat → Nat}
theorem v_knownWith {M : AM} (h : SR M P mr ct) (x y : Int32) : (0 ≤ x.toInt ∧ x.toInt < pc P ∧ 0 ≤ y.toInt ∧ y.toInt < pn P x.toInt.toNat → Tv K_X6_knownWith [aR (some 3), aI x, aI y] M (.inl (some (aR (some (mr x.toInt.toNat))), M)) ∧ Mt M (mr x.toInt.toNat)) ∧ (¬ (0 ≤ x.toInt ∧ x.toInt < pc P ∧ 0 ≤ y.toInt ∧ y.toInt < pn P x.toInt.toNat) → Tv K_X6_knownWith [aR (some 3), aI x, aI y] M (.inr (10, mk M 10 6))) := by
  obtain ⟨kn, un⟩ := v_known h x
  have hS := h.1
  refine ⟨fun g => ?_, fun g => ?_⟩
  · obtain ⟨k1, k2⟩ := kn ⟨g.1, g.2.1⟩
    have hw : Mw M (mr x.toInt.toNat) (pn P x.toInt.toNat) := (h.2.1.2 x.toInt.toNat (by omega)).2.2.2.1
    have hh := v_has hS hw y.toInt64
    rw [l2, if_pos ⟨g.2.2.1, g.2.2.2⟩] at hh
    refine ⟨?_, k2⟩
    apply s_X6_knownWith_0ok (r1 := mr x.toInt.toNat) (M2 := M) (x101 := 1) hS k1 k2 hh
    case k4 => intro _; rfl
    case k5 => intro q; exact absurd q (by decide)
  · by_cases e : 0 ≤ x.toInt ∧ x.toInt < pc P
    · obtain ⟨k1, k2⟩ := kn e
      have hw : Mw M (mr x.toInt.toNat) (pn P x.toInt.toNat) := (h.2.1.2 x.toInt.toNat (by omega)).2.2.2.1
      have hh := v_has hS hw y.toInt64
      rw [l2, if_neg (by omega)] at hh
      apply s_X6_knownWith_0ok (r1 := mr x.toInt.toNat) (M2 := M) (x101 := 0) hS k1 k2 hh
      case k5 => intro _; rfl
      case k4 => intro q; exact absurd rfl q
    · exact s_X6_knownWith_0thr hS (un e) rfl
theorem L_height {M : AM} (h : GRel M) (x1 x2 : Int32) : ∃ M1 k M2 b, Tv K_L_height [aR (some 3), aI x1, aI x2, aR (some 57)] M (.inl (some (aI k), M1)) ∧ St M1 ∧ Ev K_X7_height [aR (some 26), aI x1, aI x2] M1 (some (aI b)) M2 ∧ mI M2 26 9 = k ∧ (k = 0 → mJ M2 57 0 = b.toInt64) ∧ GRel M2 ∧ Rmm M M2 := by
  have hG := h
  obtain ⟨⟨P, mr, ct, hs⟩, hv⟩ := hG
  have hS := hs.1
  have h58 := hS.1
  obtain ⟨kn, un⟩ := v_knownWith hs x1 x2
  have z0 : (0 : Int32).toInt = 0 := rfl
  by_cases g : 0 ≤ x1.toInt ∧ x1.toInt < pc P ∧ 0 ≤ x2.toInt ∧ x2.toInt < pn P x1.toInt.toNat
  · have kn' := kn g
    have h32 := hs.2.2.2.1.2.1
    have ex : x1 = nI x1.toInt.toNat := x_n g.1
    have ey : x2 = nI x2.toInt.toNat := x_n g.2.2.1
    have hn := (hs.2.2.2.1.2.2 x1.toInt.toNat (by omega)).2.2.2.2.2.2.1.1
    have hn : pn P x1.toInt.toNat ≤ 120 := hn
    generalize hj : x1.toInt.toNat = j at *
    generalize hi : x2.toInt.toNat = i at *
    subst ex ey
    have hjp : j < pc P := by omega
    have hip : i < pn P j := by omega
    have cj := cl_n (n := j) (by omega)
    have ti := ci i (by omega)
    obtain ⟨Mr, er, ar, hsr, hac⟩ := hs.rf
    have hvr := hv.rf hS ar
    have hcg := hac.2 j hjp
    have hm58 := kn'.2.1
    have hMtr := ar.mt kn'.2
    have hsd := v_isSound hsr.1 hMtr
    have hr8 := chk_r (DP P j)
    have t8 := iI_t (k := (chk (DP P j)).1) (by omega) (by omega)
    have hw : Mw Mr (mr j) (pn P j) := (hac.1.2 j hjp).2.2.2.1
    -- both answers are b
    have hb : ∃ b, Tv K_X6_height [aR (some 3), aI (nI j), aI (nI i)] M (.inl (some (aI b), Mr)) ∧ ((chk (DP P j)).1 = 0 → b.toInt = HH (DP P j) i) ∧ (¬ (chk (DP P j)).1 = 0 → b = -1) := by
      by_cases e : (chk (DP P j)).1 = 0
      · rw [if_pos (by rw [hcg.1, e]; rfl)] at hsd
        have hh := v_heightAt hsr.1 hw (nI i)
        rw [ti, if_pos (by omega)] at hh
        have hih := (hcg.2.2 e i hip).1
        refine ⟨mI Mr (mr j + 4) i, ?_, fun _ => hih, fun q => absurd e q⟩
        apply s_X6_height_0ok (r1 := mr j) (M2 := Mr) (M3 := Mr) (M4 := Mr) (x101 := 1) (x103 := mI Mr (mr j + 4) i) hS kn'.1 kn'.2 er hsd
        case c6 => intro _; exact hh
        case k7 => intro _; rfl
        case k5 => intro q; exact absurd q (by decide)
      · rw [if_neg (by rw [hcg.1, eq32, t8]; exact e)] at hsd
        refine ⟨-1, ?_, fun q => absurd q e, fun _ => rfl⟩
        apply s_X6_height_0ok (r1 := mr j) (M2 := Mr) (M3 := Mr) (M4 := Mr) (x101 := 0) (x103 := 0) hS kn'.1 kn'.2 er hsd
        case k5 => intro _; rfl
        all_goals (intro q; exact absurd rfl q)
    obtain ⟨b, hb1, hb2, hb3⟩ := hb
    have a1 : Ag (fun r i => r = 57 ∨ (r = 26 ∧ i = 9) ∨ SX j r i) Mr (wrJ Mr 57 0 b.toInt64) := Ag.rf.wJ (by omega)
    have a2 : Ag (fun r i => r = 57 ∨ (r = 26 ∧ i = 9) ∨ SX j r i) Mr (wrI (wrJ Mr 57 0 b.toInt64) 26 9 0) := a1.wI (by omega)
    have hS1 := a1.st hsr.1
    have hs1 : SR (wrJ Mr 57 0 b.toInt64) P mr ct := hsr.kq (S := fun r i => r = 57) (Ag.kq (Ag.rf.wJ rfl)) (fun r i z => by unfold Ns; omega)
    have hno1 := v_noM hS1 hs1.2.2.2.1.1 h32 (nI j)
    rw [if_pos ⟨g.1, g.2.1⟩] at hno1
    have hmm := hsr.2.2.2.1.ag a2 (fun i => by unfold SX; omega)
    obtain ⟨M3, e3, a3, g3⟩ := v_examine (a2.st hsr.1) (hmm.2.2 j hjp)
    have a4 : Ag (fun r i => r = 57 ∨ (r = 26 ∧ i = 9) ∨ SX j r i) Mr M3 := a2.tr (a3.mo (fun r i z => Or.inr (Or.inr z)))
    have e38 : mI M3 38 j = iI (chk (DP P j)).1 := g3.1
    have e30 : mI (wrJ Mr 57 0 b.toInt64) 30 j = nI (pn P j) := (hs1.2.2.2.1.2.2 j hjp).1
    have tn := ci (pn P j) (by omega)
    have ck := cx (j := j) (i := i) (by omega) (by omega)
    refine ⟨_, 0, M3, b, ?_, hS1, ?_, ?_, fun _ => ?_, ⟨⟨P, mr, ct, hsr.kq a4.kq (fun r i z => by unfold SX at z; unfold Ns; omega)⟩, hvr.kq hsr.1 a4.kq (fun r i z => by unfold SX at z; unfold Nv; omega)⟩, Rmm.same (a4.1.trans ar.1)⟩
    · exact s_L_height_0ok (M1 := Mr) (x101 := b) hS hb1 hsr.1 v01 (by rw [z0c])
    · apply s_X7_height_0 (M1 := wrJ Mr 57 0 b.toInt64) (M2 := M3) (x101 := 0) hS1 hno1
      case k2 => intro q; exact absurd rfl q
      case k3 => intro _ q; exfalso; simp only [lt32, le32, eq32, lt64, le64, eq64, Int32.reduceToInt, Int64.reduceToInt, ti] at q; omega
      case b4 => intros; exact in_n (by omega) (by omega)
      case c5 => intros; exact e3
      case b6 => intros; exact bx (by omega) (by omega)
      case k7 =>
        intro _ _ _ q
        rw [cj, e38, le32, t8, z0] at q
        have e : (chk (DP P j)).1 = 0 := by omega
        have := (g3.2.2 e).1 i hip
        rw [ck]
        exact ⟨by rw [eq32.mpr (this.trans (hb2 e).symm)], rfl⟩
      case k8 =>
        intro _ _ _ q
        rw [cj, e38, le32, t8, z0] at q
        rw [hb3 (by omega)]
        exact ⟨rfl, rfl⟩
      case k9 => intro _ _ q; exfalso; rw [cj, e30, nlt (by omega) (by omega)] at q; omega
    · rw [a3.i (by unfold SX; omega)]; simp (disch := omega) only [wrI_s, wrI_r, wrI_j, wrJ_s, wrJ_r, wrJ_j, wrI_J, wrJ_I, wrR_I, wrR_J]
    · rw [a3.j (by unfold SX; omega)]; simp (disch := omega) only [wrI_s, wrI_r, wrI_j, wrJ_s, wrJ_r, wrJ_j, wrI_J, wrJ_I, wrR_I, wrR_J]
  · obtain ⟨t1, t2, t3, t4⟩ := h.thr 10 1
    have hno := v_noM' hs (mk_kq (S := fun _ _ => False) (k := 10) (n := 6)) (fun z => z) t1 x1
    have h32 := hs.2.2.2.1.2.1
    refine ⟨mk M 10 6, 1, wrI (mk M 10 6) 26 9 1, 0, ?_, t1, ?_, t3, fun q => absurd q (by decide), t2, t4⟩
    · exact s_L_height_0t10 (M1 := mk M 10 6) hS (s_X6_height_0thr hS (un g) rfl) rfl
    · by_cases e : 0 ≤ x1.toInt ∧ x1.toInt < pc P
      · rw [if_pos e] at hno
        have cx1 : x1.toNatClampNeg = x1.toInt.toNat := by rw [x_n e.1, cl_n (by omega), ci _ (by omega)]; omega
        have hmm := hs.2.2.2.1.2.2 x1.toInt.toNat (by omega)
        have hn : pn P x1.toInt.toNat ≤ 120 := hmm.2.2.2.2.2.2.1.1
        have e30 : mI (mk M 10 6) 30 x1.toInt.toNat = nI (pn P x1.toInt.toNat) := ((mk_kq (S := fun _ _ => False)).i (by omega) (fun z => z)).trans hmm.1
        have tn := ci (pn P x1.toInt.toNat) (by omega)
        apply s_X7_height_0 (M1 := mk M 10 6) (M2 := M) (x101 := 0) t1 hno
        case k2 => intro q; exact absurd rfl q
        case k3 => intros; exact ⟨rfl, rfl⟩
        case k9 => intros; exact ⟨rfl, rfl⟩
        case b4 => intros; exact in_x e.1 (by omega)
        all_goals (intro _ q1 q; exfalso; rw [cx1, e30] at q; simp only [lt32, le32, eq32, lt64, le64, eq64, Int32.reduceToInt, Int64.reduceToInt, tn] at q q1; omega)
      · rw [if_neg e] at hno
        apply s_X7_height_0 (M1 := mk M 10 6) (M2 := M) (x101 := 1) t1 hno
        case k2 => intros; exact ⟨rfl, rfl⟩
        all_goals (intro q; exact absurd q (by decide))
theorem an_same {M M2 : AM} {s : Nat} {r1 r2 : Int32} (h1 : AnC M P ct s r1) (h2 : AnM M2 P ct s r2) (e : ∀ b, mJ M2 13 b = mJ M 13 b ∧ mJ M2 14 b = mJ M 14 b) : r1 = r2 ∧ (Bdd P s → ∀ j, Rch P s j → mJ M2 13 j = mJ M2 44 j ∧ mJ M2 14 j = mJ M2 45 j) := by
  obtain ⟨-, -, -, -, -, c1, c2, c3⟩ := h1
  obtain ⟨-, -, -, -, m1, m2, m3⟩ := h2
  have hB : Bdd P s → (∀ j, Rch P s j → mJ M2 13 j = mJ M2 44 j ∧ mJ M2 14 j = mJ M2 45 j) ∧ r1 = r2 := by
    intro hb
    obtain ⟨f1, -, q1, q2, q3⟩ := c3 hb
    obtain ⟨f2, -, w1, w2, w3⟩ := m3 hb
    have key : ∀ j, Rch P s j → mJ M2 13 j = mJ M2 44 j ∧ mJ M2 14 j = mJ M2 45 j := by
      intro j hj
      obtain ⟨s1, v1, v2⟩ := q1 j hj
      obtain ⟨s2, u1, u2⟩ := w1 j hj
      have g1 := s1.2.2 (max f1 f2) (by omega)
      have g2 := s2.2.2 (max f1 f2) (by omega)
      rw [(e j).1, (e j).2, v1, v2, u1, u2, ← g1.1, ← g1.2, ← g2.1, ← g2.2]
      exact ⟨rfl, rfl⟩
    refine ⟨key, ?_⟩
    have hq : r1 = 0 ↔ r2 = 0 := by
      rw [q3, w3]
      constructor
      · intro z j hj; rw [← (key j hj).2, (e j).2]; exact z j hj
      · intro z j hj; rw [← (e j).2, (key j hj).2]; exact z j hj
    rcases q2 with a | a
    · rw [a, hq.mp a]
    · rcases w2 with b | b
      · have := hq.mpr b; rw [a] at this; exact absurd this (by decide)
      · rw [a, b]
  refine ⟨?_, fun hb => (hB hb).1⟩
  by_cases hf : Fau P s
  · rw [c1 hf, m1 hf]
  · by_cases hc : Cir P s
    · rw [c2 hf hc, m2 hf hc]
    · exact (hB (Bdd_iff.mpr ⟨hf, hc⟩)).2
theorem L_analyse {M : AM} (h : GRel M) (x1 : Int32) : ∃ M1 k M2 b, Tv K_L_analyse [aR (some 3), aI x1, aR (some 57)] M (.inl (some (aI k), M1)) ∧ St M1 ∧ Ev K_X7_analyse [aR (some 26), aI x1] M1 (some (aI b)) M2 ∧ mI M2 26 9 = k ∧ (k = 0 → mJ M2 57 0 = b.toInt64) ∧ GRel M2 ∧ Rmm M M2 := by
  have hG := h
  obtain ⟨⟨P, mr, ct, hs⟩, hv⟩ := hG
  have hS := hs.1
  obtain ⟨kn, un⟩ := v_known hs x1
  obtain ⟨t1, t2, t3, t4⟩ := h.thr 10 1
  have hno := v_noM' hs (mk_kq (S := fun _ _ => False) (k := 10) (n := 6)) (fun z => z) t1 x1
  by_cases g : 0 ≤ x1.toInt ∧ x1.toInt < pc P
  · have kn' := kn g
    have h32 := hs.2.2.2.1.2.1
    have ex : x1 = nI x1.toInt.toNat := x_n g.1
    generalize hj : x1.toInt.toNat = j at *
    subst ex
    have hjp : j < pc P := by omega
    obtain ⟨Mr, er, ar, hsr, hac⟩ := hs.rf
    have hvr := hv.rf hS ar
    obtain ⟨Mc, b, ec, ac, anc⟩ := v_analyseFrom6 hjp hsr.1 hac hsr.2.2.2.2.1
    have hsc : SR Mc P mr ct := hsr.kq ac.kq (fun r i z => by unfold SAn at z; unfold Ns; omega)
    have a1 : Ag (fun r i => r = 57 ∨ (r = 26 ∧ i = 9) ∨ S3449 r i) Mc (wrJ Mc 57 0 b.toInt64) := Ag.rf.wJ (by omega)
    have a2 : Ag (fun r i => r = 57 ∨ (r = 26 ∧ i = 9) ∨ S3449 r i) Mc (wrI (wrJ Mc 57 0 b.toInt64) 26 9 0) := a1.wI (by omega)
    have hS1 := a1.st hsc.1
    have hno1 := v_noM hS1 ((a1.i (by unfold S3449; omega)).trans hsc.2.2.2.1.1) h32 (nI j)
    rw [if_pos g] at hno1
    obtain ⟨M2, b2, e2, a3, anm⟩ := v_analyseFrom7 (ct := ct) hjp (a2.st hsc.1) (hsc.2.2.2.1.ag a2 (fun i => by unfold S3449; omega)) (fun k hk => (a2.j (by unfold S3449; omega)).trans (hsc.2.2.2.2.2 k hk))
    have a4 : Ag (fun r i => r = 57 ∨ (r = 26 ∧ i = 9) ∨ S3449 r i) Mc M2 := a2.tr (a3.mo (fun r i z => Or.inr (Or.inr z)))
    obtain ⟨w1, w2⟩ := an_same anc anm (fun b => ⟨a4.j (by unfold S3449; omega), a4.j (by unfold S3449; omega)⟩)
    subst w1
    have hv2 : GP M2 ∧ GG M2 ∧ GN M2 := by
      have p1 := hvr.1.kq hsr.1 ac.kq (by unfold SAn; omega)
      have p2 := hvr.2.1.kq hsr.1 ac.kq (fun x => by unfold SAn; omega)
      have p3 := hvr.2.2.2.kq hsr.1 ac.kq (fun r i z => by unfold SAn at z; omega)
      exact ⟨p1.kq hsc.1 a4.kq (by unfold S3449; omega), p2.kq hsc.1 a4.kq (fun x => ⟨by unfold S3449; omega, by unfold S3449; omega, by unfold S3449; omega, by unfold S3449; omega⟩), p3.kq hsc.1 a4.kq (fun r i z => by unfold S3449 at z; omega)⟩
    have i11 : ∀ k, mI M2 11 k = mI Mc 11 k := fun k => a4.i (by unfold S3449; omega)
    refine ⟨_, 0, M2, b, ?_, hS1, ?_, ?_, fun _ => ?_, ⟨⟨P, mr, ct, hsc.kq a4.kq (fun r i z => by unfold S3449 at z; unfold Ns; omega)⟩, hv2.1, hv2.2.1, fun q hq => ?_, hv2.2.2⟩, Rmm.same ((a4.1.trans ac.1).trans ar.1)⟩
    · refine s_L_analyse_0ok (M1 := Mc) (x101 := b) hS ?_ hsc.1 v01 (by rw [z0c])
      exact s_X6_analyse_0ok (r1 := mr j) (M2 := Mr) (M3 := Mc) (x101 := b) hS kn'.1 kn'.2 er ec rfl
    · apply s_X7_analyse_0 (M1 := wrJ Mc 57 0 b.toInt64) (M2 := M2) (x101 := 0) (x103 := b) hS1 hno1
      case c2 => intro _; exact e2
      case k3 => intro _; exact ⟨rfl, rfl⟩
      case k4 => intro q; exact absurd rfl q
    · rw [a3.i (by unfold S3449; omega)]; simp (disch := omega) only [wrI_s, wrI_r, wrI_j, wrJ_s, wrJ_r, wrJ_j, wrI_J, wrJ_I, wrR_I, wrR_J]
    · rw [a3.j (by unfold S3449; omega)]; simp (disch := omega) only [wrI_s, wrI_r, wrI_j, wrJ_s, wrJ_r, wrJ_j, wrI_J, wrJ_I, wrR_I, wrR_J]
    · obtain ⟨c3, c4, c5, c6, c7, -⟩ := anc
      obtain ⟨m0, m1, m2, m3, -⟩ := anm
      unfold GB
      rw [i11, i11, i11, i11]
      refine ⟨(m0 q hq).1, (c3 q).trans (m0 q hq).2.symm, (m1 q hq).1, (c4 q).trans (m1 q hq).2.symm, (m2 q hq).1, (c5 q).trans (m2 q hq).2.symm, (m3 q hq).1, ?_, fun z => ?_⟩
      · rw [(m3 q hq).2, c3 q, ← c7]
        constructor
        · intro y; exact ⟨c6.elim (fun w => absurd w y.1) id, y.2⟩
        · intro y; exact ⟨by rw [y.1]; decide, y.2⟩
      · have := (m3 q hq).2.mp z
        exact w2 this.1 q this.2
  · rw [if_neg g] at hno
    refine ⟨mk M 10 6, 1, wrI (mk M 10 6) 26 9 1, 0, ?_, t1, ?_, t3, fun q => absurd q (by decide), t2, t4⟩
    · exact s_L_analyse_0t10 (M1 := mk M 10 6) hS (s_X6_analyse_0thr hS (un g) rfl) rfl
    · apply s_X7_analyse_0 (M1 := mk M 10 6) (M2 := M) (x101 := 1) (x103 := 0) t1 hno
      case k4 => intros; exact ⟨rfl, rfl⟩
      all_goals (intro q; exact absurd q (by decide))
end PUB
