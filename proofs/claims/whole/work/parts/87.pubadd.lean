/-! ===== PURE: add, change ===== -/
section PUB
variable {P : PG} {mr : Nat → Nat} {ct : Nat → Nat}
def upP (P : PG) (j n : Nat) (o a : Nat → Int) : PG := (pc P, pA P, pR P, pL P, upn (pn P) j n, fun i => if i = j then o else po P i, fun i => if i = j then a else pa P i)
theorem upP_n {j n i : Nat} {o a : Nat → Int} (h : i ≠ j) : DP (upP P j n o a) i = DP P i := by
  show ((if i = j then o else po P i), (if i = j then a else pa P i), (upn (pn P) j n i, pL P i, pR P i, pc P), pA P, pR P) = _
  rw [if_neg h, if_neg h, upn_n h]; rfl
theorem upP_s {j n : Nat} {o a : Nat → Int} : DP (upP P j n o a) j = (o, a, (n, pL P j, pR P j, pc P), pA P, pR P) := by
  show ((if j = j then o else po P j), (if j = j then a else pa P j), (upn (pn P) j n j, pL P j, pR P j, pc P), pA P, pR P) = _
  rw [if_pos rfl, if_pos rfl, upn_s]
def SEd (m j : Nat) : Nat → Nat → Prop := fun r k => (r = m ∧ (k = 7 ∨ k = 10)) ∨ r = m + 1 ∨ r = m + 2 ∨ r = 57 ∨ (r = 26 ∧ k = 9) ∨ (r = 30 ∧ k = j) ∨ ((r = 31 ∨ r = 32) ∧ 120 * j ≤ k ∧ k < 120 * j + 120)
theorem SR.edit {M M2 : AM} {j n : Nat} {o a : Nat → Int} (h : SR M P mr ct) (hj : j < pc P) (hn : n ≤ 120) (g : Ag (SEd (mr j) j) M M2) (c7 : mI M2 (mr j) 7 = nI n) (c10 : mI M2 (mr j) 10 = 0) (cr : ∀ i, i < n → (mI M2 (mr j + 1) i).toInt = o i ∧ (mJ M2 (mr j + 2) i).toInt = a i) (m30 : mI M2 30 j = nI n) (mrr : ∀ i, i < n → (mI M2 31 (120 * j + i)).toInt = o i ∧ (mJ M2 32 (120 * j + i)).toInt = a i) : SR M2 (upP P j n o a) mr ct := by
  obtain ⟨hS, hR, hH, hM, hC, h2⟩ := h
  have hmj := hR.m hj
  have hpc := hM.2.1
  have gp : ∀ i, i < pc P → i ≠ j → mr i + 5 ≤ mr j ∨ mr j + 5 ≤ mr i := fun i hi e => hR.gap hi hj e
  refine ⟨g.st hS, ⟨⟨(g.i (by unfold SEd; omega)).trans hR.1.1, hR.1.2.1, fun i hi => ⟨by rw [g.r]; exact (hR.1.2.2.1 i hi).1, g.mt (hR.1.2.2.1 i hi).2⟩, hR.1.2.2.2⟩, fun i hi => ?_⟩, fun i hi => ?_, ⟨(g.i (by unfold SEd; omega)).trans hM.1, hpc, fun i hi => ?_⟩, fun k hk => ?_, fun k hk => ?_⟩
  · have q := hR.2 i hi
    have hmi := hR.m hi
    by_cases e : i = j
    · subst e
      rw [upP_s]
      refine ⟨(g.i (by unfold SEd; omega)).trans q.1, q.2.1, q.2.2.1, ⟨⟨g.mt q.2.2.2.1.1, c7, hn⟩, cr, (g.i (by unfold SEd; omega)).trans q.2.2.2.2.2.1, (g.i (by unfold SEd; omega)).trans q.2.2.2.2.2.2.1, q.2.2.2.2.2.2.2⟩⟩
    · rw [upP_n e]
      have := gp i hi e
      exact ⟨(g.i (by unfold SEd; omega)).trans q.1, q.2.1, q.2.2.1, q.2.2.2.kq g.kq (fun k => ⟨fun _ => by unfold SEd; omega, by unfold SEd; omega, by unfold SEd; omega⟩)⟩
  · have hi' : i < pc P := hi
    have hmi := hR.m hi'
    by_cases e : i = j
    · subst e
      exact ⟨0, Nat.zero_le _, c10, fun z => by have : (0 : Nat) = pc P := z; omega⟩
    · obtain ⟨c, c1, c2, c3⟩ := hH i hi'
      have := gp i hi' e
      refine ⟨c, c1, (g.i (by unfold SEd; omega)).trans c2, fun z => ?_⟩
      rw [upP_n e]
      exact (c3 z).kq (hR.1.2.2.1 i hi').2 g.kq (fun k => ⟨fun _ => by unfold SEd; omega, by unfold SEd; omega, by unfold SEd; omega⟩)
  · have hi' : i < pc P := hi
    obtain ⟨m1, m2, m3, m4, m5, m6, m7, m8⟩ := hM.2.2 i hi'
    have m5' : ∀ k, k < pc P → mI M2 27 k = nI (pA P k) ∧ mI M2 28 k = nI (pR P k) := fun k hk => by
      rw [g.i (by unfold SEd; omega), g.i (by unfold SEd; omega)]; exact m5 k hk
    by_cases e : i = j
    · subst e
      rw [upP_s]
      exact ⟨m30, mrr, (g.i (by unfold SEd; omega)).trans m3, (g.i (by unfold SEd; omega)).trans m4, m5', (g.i (by unfold SEd; omega)).trans m6, ⟨hn, m7.2⟩, hi'⟩
    · rw [upP_n e]
      have hni : pn P i ≤ 120 := m7.1
      refine ⟨(g.i (by unfold SEd; omega)).trans m1, fun k hk => ?_, (g.i (by unfold SEd; omega)).trans m3, (g.i (by unfold SEd; omega)).trans m4, m5', (g.i (by unfold SEd; omega)).trans m6, m7, m8⟩
      have hk' : k < pn P i := hk
      rw [g.i (by unfold SEd; omega), g.j (by unfold SEd; omega)]
      exact m2 k hk
  · rw [g.i (by unfold SEd; omega)]; exact hC k hk
  · rw [g.j (by unfold SEd; omega)]; exact h2 k hk
theorem L_add {M : AM} (h : GRel M) (x1 x2 : Int32) (x3 : Int64) : ∃ M1 k M2 b, Tv K_L_add [aR (some 3), aI x1, aI x2, aJ x3, aR (some 57)] M (.inl (some (aI k), M1)) ∧ St M1 ∧ Ev K_X7_add [aR (some 26), aI x1, aI x2, aJ x3] M1 (some (aI b)) M2 ∧ mI M2 26 9 = k ∧ (k = 0 → mJ M2 57 0 = b.toInt64) ∧ GRel M2 ∧ Rmm M M2 := by
  have hG := h
  obtain ⟨⟨P, mr, ct, hs⟩, hv⟩ := hG
  have hS := hs.1
  obtain ⟨kn, un⟩ := v_known hs x1
  by_cases g : 0 ≤ x1.toInt ∧ x1.toInt < pc P
  · have kn' := kn g
    have h32 := hs.2.2.2.1.2.1
    have ex : x1 = nI x1.toInt.toNat := x_n g.1
    generalize hj : x1.toInt.toNat = j at *
    subst ex
    have hjp : j < pc P := by omega
    have cj := cl_n (n := j) (by omega)
    have hm58 := kn'.2.1
    have hrc := hs.2.1.2 j hjp
    have hmm := hs.2.2.2.1.2.2 j hjp
    have hw : Mw M (mr j) (pn P j) := hrc.2.2.2.1
    have hn : pn P j ≤ 120 := hw.2.2
    have e30 : mI M 30 j = nI (pn P j) := hmm.1
    by_cases e : pn P j = 120
    · obtain ⟨o1, o2, o3, o4, o5⟩ := h.ok (-1 : Int32).toInt64 0
      have hno := v_noM o1 (show mI (wrJ M 57 0 (-1 : Int32).toInt64) 26 4 = nI (pc P) from hs.2.2.2.1.1) h32 (nI j)
      rw [if_pos g] at hno
      have hap := v_appendF hS (e ▸ hw) x2 x3
      have f30 : mI (wrJ M 57 0 (-1 : Int32).toInt64) 30 (nI j).toNatClampNeg = 120 := by rw [cj, wrJ_I, e30, e]; rfl
      refine ⟨_, 0, _, -1, ?_, o1, ?_, o3, fun _ => o4, o2, o5⟩
      · refine s_L_add_0ok (M1 := M) (x101 := -1) hS ?_ hS v01 (by rw [z0c])
        exact s_X6_add_0ok (r1 := mr j) (M2 := M) (x101 := -1) hS kn'.1 kn'.2 hap rfl
      · apply s_X7_add_0 (M1 := wrJ M 57 0 (-1 : Int32).toInt64) (x101 := 0) o1 hno
        case b2 => intros; exact in_n (by omega) (by omega)
        case k5 => intros; exact ⟨rfl, rfl⟩
        case k6 => intro q; exact absurd rfl q
        all_goals (intro _ q; exact absurd f30 q)
    · have hlt : pn P j < 120 := by omega
      have hap := v_append hS hw hlt x2 x3
      have b0 : Ag (SEd (mr j) j) M (wrI (wrJ (wrI (wrI M (mr j) 7 (nI (pn P j + 1))) (mr j + 1) (pn P j) x2) (mr j + 2) (pn P j) x3) (mr j) 10 0) := (((Ag.rf.wI (by unfold SEd; omega)).wI (by unfold SEd; omega)).wJ (by unfold SEd; omega)).wI (by unfold SEd; omega)
      generalize hMa : wrI (wrJ (wrI (wrI M (mr j) 7 (nI (pn P j + 1))) (mr j + 1) (pn P j) x2) (mr j + 2) (pn P j) x3) (mr j) 10 0 = Ma at *
      have b1 : Ag (SEd (mr j) j) M (wrJ Ma 57 0 (nI (pn P j)).toInt64) := b0.wJ (by unfold SEd; omega)
      have b2 : Ag (SEd (mr j) j) M (wrI (wrJ (wrI (wrI (wrJ Ma 57 0 (nI (pn P j)).toInt64) 26 9 0) 31 (120 * j + pn P j) x2) 32 (120 * j + pn P j) x3) 30 j (nI (pn P j + 1))) := (((b1.wI (by unfold SEd; omega)).wI (by unfold SEd; omega)).wJ (by unfold SEd; omega)).wI (by unfold SEd; omega)
      have hS1 := b1.st hS
      have hno := v_noM hS1 ((b1.i (by unfold SEd; omega)).trans hs.2.2.2.1.1) h32 (nI j)
      rw [if_pos g] at hno
      have f30 : mI (wrJ Ma 57 0 (nI (pn P j)).toInt64) 30 j = nI (pn P j) := by rw [wrJ_I, ← hMa]; simp (disch := omega) only [wrI_s, wrI_r, wrI_j, wrJ_s, wrJ_r, wrJ_j, wrI_J, wrJ_I, wrR_I, wrR_J]; exact e30
      have n120 : ¬ nI (pn P j) = 120 := by rw [eq32, ci _ (by omega)]; have : (120 : Int32).toInt = 120 := rfl; omega
      have ck := cx (j := j) (i := pn P j) (by omega) (by omega)
      have val : nI (pn P j + 1) - 1 = nI (pn P j) := by rw [nI_s1 (by omega)]; rfl
      refine ⟨_, 0, _, nI (pn P j), ?_, hS1, ?_, ?_, fun _ => ?_, ⟨⟨_, mr, ct, hs.edit (n := pn P j + 1) (o := up1 (po P j) (pn P j) x2.toInt) (a := up1 (pa P j) (pn P j) x3.toInt) hjp (by omega) b2 ?_ ?_ (fun i hi => ?_) ?_ (fun i hi => ?_)⟩, hv.kq hS b2.kq (fun r k z => by unfold SEd at z; unfold Nv; omega)⟩, Rmm.same b2.1⟩
      · refine s_L_add_0ok (M1 := Ma) (x101 := nI (pn P j)) hS ?_ (b0.st hS) v01 (by rw [z0c])
        exact s_X6_add_0ok (r1 := mr j) (M2 := Ma) (x101 := nI (pn P j)) hS kn'.1 kn'.2 hap rfl
      · apply s_X7_add_0 (M1 := wrJ Ma 57 0 (nI (pn P j)).toInt64) (x101 := 0) hS1 hno
        case b2 => intros; exact in_n (by omega) (by omega)
        case b3 => intros; rw [cj, f30]; exact bx (by omega) (by omega)
        case k4 => intros; rw [cj, f30, ck, nI_1, wrI_s, val]; exact ⟨rfl, rfl⟩
        case k5 => intro _ q; rw [cj, f30] at q; exact absurd q n120
        case k6 => intro q; exact absurd rfl q
      · simp (disch := omega) only [wrI_s, wrI_r, wrI_j, wrJ_s, wrJ_r, wrJ_j, wrI_J, wrJ_I, wrR_I, wrR_J]
      · simp (disch := omega) only [wrI_s, wrI_r, wrI_j, wrJ_s, wrJ_r, wrJ_j, wrI_J, wrJ_I, wrR_I, wrR_J]
      · simp (disch := omega) only [wrI_s, wrI_r, wrI_j, wrJ_s, wrJ_r, wrJ_j, wrI_J, wrJ_I, wrR_I, wrR_J]; rw [← hMa]; simp (disch := omega) only [wrI_s, wrI_r, wrI_j, wrJ_s, wrJ_r, wrJ_j, wrI_J, wrJ_I, wrR_I, wrR_J]
      · simp (disch := omega) only [wrI_s, wrI_r, wrI_j, wrJ_s, wrJ_r, wrJ_j, wrI_J, wrJ_I, wrR_I, wrR_J]; rw [← hMa]; simp (disch := omega) only [wrI_s, wrI_r, wrI_j, wrJ_s, wrJ_r, wrJ_j, wrI_J, wrJ_I, wrR_I, wrR_J]
      · simp (disch := omega) only [wrI_s, wrI_r, wrI_j, wrJ_s, wrJ_r, wrJ_j, wrI_J, wrJ_I, wrR_I, wrR_J]
        rw [← hMa]
        simp (disch := omega) only [wrI_s, wrI_r, wrI_j, wrJ_s, wrJ_r, wrJ_j, wrI_J, wrJ_I, wrR_I, wrR_J]
        unfold up1
        by_cases q : i = pn P j
        · rw [q, if_pos rfl, if_pos rfl]; simp (disch := omega) only [wrI_s, wrI_r, wrI_j, wrJ_s, wrJ_r, wrJ_j, wrI_J, wrJ_I, wrR_I, wrR_J]; exact ⟨trivial, trivial⟩
        · rw [if_neg q, if_neg q]; simp (disch := omega) only [wrI_s, wrI_r, wrI_j, wrJ_s, wrJ_r, wrJ_j, wrI_J, wrJ_I, wrR_I, wrR_J]; exact hrc.2.2.2.2.1 i (by show i < pn P j; omega)
      · simp (disch := omega) only [wrI_s, wrI_r, wrI_j, wrJ_s, wrJ_r, wrJ_j, wrI_J, wrJ_I, wrR_I, wrR_J]
      · simp (disch := omega) only [wrI_s, wrI_r, wrI_j, wrJ_s, wrJ_r, wrJ_j, wrI_J, wrJ_I, wrR_I, wrR_J]
        unfold up1
        by_cases q : i = pn P j
        · rw [q, if_pos rfl, if_pos rfl]; simp (disch := omega) only [wrI_s, wrI_r, wrI_j, wrJ_s, wrJ_r, wrJ_j, wrI_J, wrJ_I, wrR_I, wrR_J]; exact ⟨trivial, trivial⟩
        · rw [if_neg q, if_neg q]; simp (disch := omega) only [wrI_s, wrI_r, wrI_j, wrJ_s, wrJ_r, wrJ_j, wrI_J, wrJ_I, wrR_I, wrR_J]; rw [← hMa]; simp (disch := omega) only [wrI_s, wrI_r, wrI_j, wrJ_s, wrJ_r, wrJ_j, wrI_J, wrJ_I, wrR_I, wrR_J]; exact hmm.2.1 i (by show i < pn P j; omega)
  · obtain ⟨t1, t2, t3, t4⟩ := h.thr 10 1
    have hno := v_noM' hs (mk_kq (S := fun _ _ => False) (k := 10) (n := 6)) (fun z => z) t1 x1
    rw [if_neg g] at hno
    refine ⟨mk M 10 6, 1, wrI (mk M 10 6) 26 9 1, 0, ?_, t1, ?_, t3, fun q => absurd q (by decide), t2, t4⟩
    · exact s_L_add_0t10 (M1 := mk M 10 6) hS (s_X6_add_0thr hS (un g) rfl) rfl
    · apply s_X7_add_0 (M1 := mk M 10 6) (x101 := 1) t1 hno
      case k6 => intros; exact ⟨rfl, rfl⟩
      all_goals (intro q; exact absurd q (by decide))
theorem L_change {M : AM} (h : GRel M) (x1 x2 x3 : Int32) (x4 : Int64) : ∃ M1 k M2 b, Tv K_L_change [aR (some 3), aI x1, aI x2, aI x3, aJ x4, aR (some 57)] M (.inl (some (aI k), M1)) ∧ St M1 ∧ Ev K_X7_change [aR (some 26), aI x1, aI x2, aI x3, aJ x4] M1 (some (aI b)) M2 ∧ mI M2 26 9 = k ∧ (k = 0 → mJ M2 57 0 = b.toInt64) ∧ GRel M2 ∧ Rmm M M2 := by
  have hG := h
  obtain ⟨⟨P, mr, ct, hs⟩, hv⟩ := hG
  have hS := hs.1
  have h58 := hS.1
  obtain ⟨kn, un⟩ := v_knownWith hs x1 x2
  have z0 : (0 : Int32).toInt = 0 := rfl
  by_cases g : 0 ≤ x1.toInt ∧ x1.toInt < pc P ∧ 0 ≤ x2.toInt ∧ x2.toInt < pn P x1.toInt.toNat
  · have kn' := kn g
    have h32 := hs.2.2.2.1.2.1
    have ex : x1 = nI x1.toInt.toNat := x_n g.1
    have ey : x2 = nI x2.toInt.toNat := x_n g.2.2.1
    generalize hj : x1.toInt.toNat = j at *
    generalize hi : x2.toInt.toNat = i at *
    subst ex ey
    have hjp : j < pc P := by omega
    have hip : i < pn P j := by omega
    have cj := cl_n (n := j) (by omega)
    have hm58 := kn'.2.1
    have hrc := hs.2.1.2 j hjp
    have hmm := hs.2.2.2.1.2.2 j hjp
    have hw : Mw M (mr j) (pn P j) := hrc.2.2.2.1
    have hn : pn P j ≤ 120 := hw.2.2
    have ti := ci i (by omega)
    have tn := ci (pn P j) (by omega)
    have e30 : mI M 30 j = nI (pn P j) := hmm.1
    have hre := v_replace hS hw hip x3 x4
    have eb : mI M 31 (120 * j + i) = mI M (mr j + 1) i := by
      rw [eq32, (hmm.2.1 i hip).1, (hrc.2.2.2.2.1 i hip).1]
    have b0 : Ag (SEd (mr j) j) M (wrI (wrJ (wrI M (mr j + 1) i x3) (mr j + 2) i x4) (mr j) 10 0) := ((Ag.rf.wI (by unfold SEd; omega)).wJ (by unfold SEd; omega)).wI (by unfold SEd; omega)
    generalize hMa : wrI (wrJ (wrI M (mr j + 1) i x3) (mr j + 2) i x4) (mr j) 10 0 = Ma at *
    generalize hbv : mI M (mr j + 1) i = bv at *
    have b1 : Ag (SEd (mr j) j) M (wrJ Ma 57 0 bv.toInt64) := b0.wJ (by unfold SEd; omega)
    have b2 : Ag (SEd (mr j) j) M (wrJ (wrI (wrI (wrJ Ma 57 0 bv.toInt64) 26 9 0) 31 (120 * j + i) x3) 32 (120 * j + i) x4) := ((b1.wI (by unfold SEd; omega)).wI (by unfold SEd; omega)).wJ (by unfold SEd; omega)
    have hS1 := b1.st hS
    have hno := v_noM hS1 ((b1.i (by unfold SEd; omega)).trans hs.2.2.2.1.1) h32 (nI j)
    rw [if_pos ⟨g.1, g.2.1⟩] at hno
    have f30 : mI (wrJ Ma 57 0 bv.toInt64) 30 j = nI (pn P j) := by rw [wrJ_I, ← hMa]; simp (disch := omega) only [wrI_s, wrI_r, wrI_j, wrJ_s, wrJ_r, wrJ_j, wrI_J, wrJ_I, wrR_I, wrR_J]; exact e30
    have f31 : mI (wrJ Ma 57 0 bv.toInt64) 31 (120 * j + i) = bv := by rw [wrJ_I, ← hMa]; simp (disch := omega) only [wrI_s, wrI_r, wrI_j, wrJ_s, wrJ_r, wrJ_j, wrI_J, wrJ_I, wrR_I, wrR_J]; exact eb
    have ck := cx (j := j) (i := i) (by omega) (by omega)
    refine ⟨_, 0, _, bv, ?_, hS1, ?_, ?_, fun _ => ?_, ⟨⟨_, mr, ct, hs.edit (n := pn P j) (o := up1 (po P j) i x3.toInt) (a := up1 (pa P j) i x4.toInt) hjp hn b2 ?_ ?_ (fun k hk => ?_) ?_ (fun k hk => ?_)⟩, hv.kq hS b2.kq (fun r k z => by unfold SEd at z; unfold Nv; omega)⟩, Rmm.same b2.1⟩
    · refine s_L_change_0ok (M1 := Ma) (x101 := bv) hS ?_ (b0.st hS) v01 (by rw [z0c])
      exact s_X6_change_0ok (r1 := mr j) (M2 := Ma) (x101 := bv) hS kn'.1 kn'.2 hre rfl
    · apply s_X7_change_0 (M1 := wrJ Ma 57 0 bv.toInt64) (x101 := 0) hS1 hno
      case k2 => intro q; exact absurd rfl q
      case k3 => intro _ q; exfalso; simp only [lt32, le32, eq32, lt64, le64, eq64, Int32.reduceToInt, Int64.reduceToInt, ti] at q; omega
      case b4 => intros; exact in_n (by omega) (by omega)
      case b5 => intros; exact bx (by omega) (by omega)
      case k6 => intros; rw [ck, f31]; exact ⟨rfl, rfl⟩
      case k7 => intro _ _ q; exfalso; rw [cj, f30, nlt (by omega) (by omega)] at q; omega
    · simp (disch := omega) only [wrI_s, wrI_r, wrI_j, wrJ_s, wrJ_r, wrJ_j, wrI_J, wrJ_I, wrR_I, wrR_J]
    · simp (disch := omega) only [wrI_s, wrI_r, wrI_j, wrJ_s, wrJ_r, wrJ_j, wrI_J, wrJ_I, wrR_I, wrR_J]
    · simp (disch := omega) only [wrI_s, wrI_r, wrI_j, wrJ_s, wrJ_r, wrJ_j, wrI_J, wrJ_I, wrR_I, wrR_J]; rw [← hMa]; simp (disch := omega) only [wrI_s, wrI_r, wrI_j, wrJ_s, wrJ_r, wrJ_j, wrI_J, wrJ_I, wrR_I, wrR_J]; exact hw.2.1
    · simp (disch := omega) only [wrI_s, wrI_r, wrI_j, wrJ_s, wrJ_r, wrJ_j, wrI_J, wrJ_I, wrR_I, wrR_J]; rw [← hMa]; simp (disch := omega) only [wrI_s, wrI_r, wrI_j, wrJ_s, wrJ_r, wrJ_j, wrI_J, wrJ_I, wrR_I, wrR_J]
    · simp (disch := omega) only [wrI_s, wrI_r, wrI_j, wrJ_s, wrJ_r, wrJ_j, wrI_J, wrJ_I, wrR_I, wrR_J]
      rw [← hMa]
      simp (disch := omega) only [wrI_s, wrI_r, wrI_j, wrJ_s, wrJ_r, wrJ_j, wrI_J, wrJ_I, wrR_I, wrR_J]
      unfold up1
      by_cases q : k = i
      · rw [q, if_pos rfl, if_pos rfl]; simp (disch := omega) only [wrI_s, wrI_r, wrI_j, wrJ_s, wrJ_r, wrJ_j, wrI_J, wrJ_I, wrR_I, wrR_J]; exact ⟨trivial, trivial⟩
      · rw [if_neg q, if_neg q]; simp (disch := omega) only [wrI_s, wrI_r, wrI_j, wrJ_s, wrJ_r, wrJ_j, wrI_J, wrJ_I, wrR_I, wrR_J]; exact hrc.2.2.2.2.1 k hk
    · simp (disch := omega) only [wrI_s, wrI_r, wrI_j, wrJ_s, wrJ_r, wrJ_j, wrI_J, wrJ_I, wrR_I, wrR_J]; rw [← hMa]; simp (disch := omega) only [wrI_s, wrI_r, wrI_j, wrJ_s, wrJ_r, wrJ_j, wrI_J, wrJ_I, wrR_I, wrR_J]; exact e30
    · simp (disch := omega) only [wrI_s, wrI_r, wrI_j, wrJ_s, wrJ_r, wrJ_j, wrI_J, wrJ_I, wrR_I, wrR_J]
      unfold up1
      by_cases q : k = i
      · rw [q, if_pos rfl, if_pos rfl]; simp (disch := omega) only [wrI_s, wrI_r, wrI_j, wrJ_s, wrJ_r, wrJ_j, wrI_J, wrJ_I, wrR_I, wrR_J]; exact ⟨trivial, trivial⟩
      · rw [if_neg q, if_neg q]; simp (disch := omega) only [wrI_s, wrI_r, wrI_j, wrJ_s, wrJ_r, wrJ_j, wrI_J, wrJ_I, wrR_I, wrR_J]; rw [← hMa]; simp (disch := omega) only [wrI_s, wrI_r, wrI_j, wrJ_s, wrJ_r, wrJ_j, wrI_J, wrJ_I, wrR_I, wrR_J]; exact hmm.2.1 k hk
  · obtain ⟨t1, t2, t3, t4⟩ := h.thr 10 1
    have hno := v_noM' hs (mk_kq (S := fun _ _ => False) (k := 10) (n := 6)) (fun z => z) t1 x1
    have h32 := hs.2.2.2.1.2.1
    refine ⟨mk M 10 6, 1, wrI (mk M 10 6) 26 9 1, 0, ?_, t1, ?_, t3, fun q => absurd q (by decide), t2, t4⟩
    · exact s_L_change_0t10 (M1 := mk M 10 6) hS (s_X6_change_0thr hS (un g) rfl) rfl
    · by_cases e : 0 ≤ x1.toInt ∧ x1.toInt < pc P
      · rw [if_pos e] at hno
        have cx1 : x1.toNatClampNeg = x1.toInt.toNat := by rw [x_n e.1, cl_n (by omega), ci _ (by omega)]; omega
        have hmm := hs.2.2.2.1.2.2 x1.toInt.toNat (by omega)
        have hn : pn P x1.toInt.toNat ≤ 120 := hmm.2.2.2.2.2.2.1.1
        have e30 : mI (mk M 10 6) 30 x1.toInt.toNat = nI (pn P x1.toInt.toNat) := ((mk_kq (S := fun _ _ => False)).i (by omega) (fun z => z)).trans hmm.1
        have tn := ci (pn P x1.toInt.toNat) (by omega)
        apply s_X7_change_0 (M1 := mk M 10 6) (x101 := 0) t1 hno
        case k2 => intro q; exact absurd rfl q
        case k3 => intros; exact ⟨rfl, rfl⟩
        case k7 => intros; exact ⟨rfl, rfl⟩
        case b4 => intros; exact in_x e.1 (by omega)
        all_goals (intro _ q1 q; exfalso; rw [cx1, e30] at q; simp only [lt32, le32, eq32, lt64, le64, eq64, Int32.reduceToInt, Int64.reduceToInt, tn] at q q1; omega)
      · rw [if_neg e] at hno
        apply s_X7_change_0 (M1 := mk M 10 6) (x101 := 1) t1 hno
        case k2 => intros; exact ⟨rfl, rfl⟩
        all_goals (intro q; exact absurd q (by decide))
end PUB
