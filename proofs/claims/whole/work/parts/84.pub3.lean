/-! ===== PURE: argument, cost, check, height, place ===== -/
def upn (c : Nat → Nat) (i v : Nat) : Nat → Nat := fun k => if k = i then v else c k
theorem upn_s {c : Nat → Nat} {i v : Nat} : upn c i v i = v := if_pos rfl
theorem upn_n {c : Nat → Nat} {i v k : Nat} (h : k ≠ i) : upn c i v k = c k := if_neg h
section PUB
variable {P : PG} {mr : Nat → Nat} {ct : Nat → Nat}
theorem L_argument {M : AM} (h : GRel M) (x1 : Int64) : ∃ M1 k M2 b, Tv K_L_argument [aR (some 3), aJ x1, aR (some 57)] M (.inl (some (aI k), M1)) ∧ St M1 ∧ Ev K_X7_argument [aR (some 26), aJ x1] M1 (some (aI b)) M2 ∧ mI M2 26 9 = k ∧ (k = 0 → mJ M2 57 0 = b.toInt64) ∧ GRel M2 ∧ Rmm M M2 := by
  have hG := h
  obtain ⟨⟨P, mr, ct, hs⟩, hp, hg, ht, hn⟩ := hG
  have hS := hs.1
  obtain ⟨a, a1, a2, a3, a4⟩ := hg
  have ta := ci a (by omega)
  have ca := cl_n (n := a) (by omega)
  obtain ⟨t1, t2, t3, t4⟩ := h.thr 9 1
  by_cases e : a = 8
  · have g8 : ¬ mI M 3 5 < 8 := by rw [a2, lt32, ta]; have : (8 : Int32).toInt = 8 := rfl; omega
    have h58 := hS.1
    have m8 : mI (mk M 9 6) 26 27 = 8 := by rw [(mk_kq (S := fun _ _ => False)).i (by omega) (fun z => z), a3, e]; rfl
    refine ⟨mk M 9 6, 1, wrI (mk M 9 6) 26 9 1, 0, ?_, t1, ?_, t3, fun q => absurd q (by decide), t2, t4⟩
    · refine s_L_argument_0t9 (M1 := mk M 9 6) hS ?_ rfl
      apply s_X6_argument_0 hS
      case k3 => intros; rfl
      all_goals (intro q; exact absurd q g8)
    · apply s_X7_argument_0 t1
      case k3 => intros; exact ⟨rfl, rfl⟩
      all_goals (intro q; exact absurd m8 q)
  · have g8 : mI M 3 5 < 8 := by rw [a2, lt32, ta]; have : (8 : Int32).toInt = 8 := rfl; omega
    have b1 : Ag (fun r j => (r = 25 ∧ j = a) ∨ (r = 3 ∧ j = 5) ∨ r = 57 ∨ (r = 26 ∧ (j = 9 ∨ j = 27)) ∨ (r = 50 ∧ j = a)) M (wrJ (wrI (wrJ M 25 a x1) 3 5 (nI (a + 1))) 57 0 (nI (a + 1)).toInt64) := ((Ag.rf.wJ (by omega)).wI (by omega)).wJ (by omega)
    have b2 : Ag (fun r j => (r = 25 ∧ j = a) ∨ (r = 3 ∧ j = 5) ∨ r = 57 ∨ (r = 26 ∧ (j = 9 ∨ j = 27)) ∨ (r = 50 ∧ j = a)) M (wrI (wrJ (wrI (wrJ (wrI (wrJ M 25 a x1) 3 5 (nI (a + 1))) 57 0 (nI (a + 1)).toInt64) 26 9 0) 50 a x1) 26 27 (nI (a + 1))) := ((b1.wI (by omega)).wJ (by omega)).wI (by omega)
    have e27 : mI (wrJ (wrI (wrJ M 25 a x1) 3 5 (nI (a + 1))) 57 0 (nI (a + 1)).toInt64) 26 27 = nI a := by simp (disch := omega) only [wrI_s, wrI_r, wrI_j, wrJ_s, wrJ_r, wrJ_j, wrI_J, wrJ_I, wrR_I, wrR_J]; exact a3
    have n8 : ¬ nI a = 8 := by rw [eq32, ta]; have : (8 : Int32).toInt = 8 := rfl; omega
    refine ⟨_, 0, _, nI (a + 1), ?_, b1.st hS, ?_, ?_, fun _ => ?_, ⟨⟨P, mr, ct, hs.kq b2.kq (fun r j z => by unfold Ns; omega)⟩, hp.kq hS b2.kq (by omega), ⟨a + 1, by omega, ?_, ?_, fun x hx => ?_⟩, ht.kq hS b2.kq (fun r j z => by omega), hn.kq hS b2.kq (fun r j z => by omega)⟩, Rmm.same b2.1⟩
    · refine s_L_argument_0ok (M1 := wrI (wrJ M 25 a x1) 3 5 (nI (a + 1))) (x101 := nI (a + 1)) hS ?_ (Ag.st (S := fun _ _ => True) ((Ag.rf.wJ trivial).wI trivial) hS) v01 (by rw [z0c])
      apply s_X6_argument_0 hS
      case b1 => intro _; rw [a2]; exact in_n (by omega) (by omega)
      case k2 => intro _; rw [a2, ca, nI_1]
      case k3 => intro q; exact absurd g8 q
    · apply s_X7_argument_0 (b1.st hS)
      case b1 => intro _; rw [e27]; exact in_n (by omega) (by omega)
      case k2 => intro _; rw [e27, ca, nI_1]; exact ⟨rfl, rfl⟩
      case k3 => intro q; rw [e27] at q; exact absurd q n8
    · simp (disch := omega) only [wrI_s, wrI_r, wrI_j, wrJ_s, wrJ_r, wrJ_j, wrI_J, wrJ_I, wrR_I, wrR_J]
    · simp (disch := omega) only [wrI_s, wrI_r, wrI_j, wrJ_s, wrJ_r, wrJ_j, wrI_J, wrJ_I, wrR_I, wrR_J]
    · simp (disch := omega) only [wrI_s, wrI_r, wrI_j, wrJ_s, wrJ_r, wrJ_j, wrI_J, wrJ_I, wrR_I, wrR_J]
    · simp (disch := omega) only [wrI_s, wrI_r, wrI_j, wrJ_s, wrJ_r, wrJ_j, wrI_J, wrJ_I, wrR_I, wrR_J]
    · by_cases q : x = a
      · rw [q]; simp (disch := omega) only [wrI_s, wrI_r, wrI_j, wrJ_s, wrJ_r, wrJ_j, wrI_J, wrJ_I, wrR_I, wrR_J]
      · simp (disch := omega) only [wrI_s, wrI_r, wrI_j, wrJ_s, wrJ_r, wrJ_j, wrI_J, wrJ_I, wrR_I, wrR_J]; exact a4 x (by omega)
theorem L_cost {M : AM} (h : GRel M) (x1 x2 : Int32) : ∃ M1 k M2 b, Tv K_L_cost [aR (some 3), aI x1, aI x2, aR (some 57)] M (.inl (some (aI k), M1)) ∧ St M1 ∧ Ev K_X7_cost [aR (some 26), aI x1, aI x2] M1 (some (aI b)) M2 ∧ mI M2 26 9 = k ∧ (k = 0 → mJ M2 57 0 = b.toInt64) ∧ GRel M2 ∧ Rmm M M2 := by
  have hG := h
  obtain ⟨⟨P, mr, ct, hs⟩, hv⟩ := hG
  have hS := hs.1
  have z0 : (0 : Int32).toInt = 0 := rfl
  have z18 : (18 : Int32).toInt = 18 := rfl
  have zm : (1000000 : Int32).toInt = 1000000 := rfl
  have hop := v_isOp hS x1
  by_cases g : 0 ≤ x1.toInt ∧ x1.toInt < 18
  · rw [if_pos g] at hop
    by_cases g2 : 0 ≤ x2.toInt ∧ x2.toInt ≤ 1000000
    · obtain ⟨sS, sR, sH, sM, sC, s2⟩ := hs
      have cx1 : x1.toNatClampNeg = x1.toInt.toNat := by rw [x_n g.1, cl_n (by omega), ci _ (by omega)]; omega
      have hc := sC x1.toInt.toNat (by omega)
      have hc2 := s2 x1.toInt.toNat (by omega)
      have hpr := v_price (y := x2) hS g.1 g.2
      rw [hc.1] at hpr
      have b1 : Ag (fun r j => (r = 6 ∧ j = x1.toInt.toNat) ∨ r = 57 ∨ (r = 26 ∧ j = 9) ∨ (r = 33 ∧ j = x1.toInt.toNat)) M (wrJ (wrI M 6 x1.toInt.toNat x2) 57 0 (nI (ct x1.toInt.toNat)).toInt64) := (Ag.rf.wI (by omega)).wJ (by omega)
      have b2 : Ag (fun r j => (r = 6 ∧ j = x1.toInt.toNat) ∨ r = 57 ∨ (r = 26 ∧ j = 9) ∨ (r = 33 ∧ j = x1.toInt.toNat)) M (wrJ (wrI (wrJ (wrI M 6 x1.toInt.toNat x2) 57 0 (nI (ct x1.toInt.toNat)).toInt64) 26 9 0) 33 x1.toInt.toNat x2.toInt64) := (b1.wI (by omega)).wJ (by omega)
      have e33 : (mJ (wrJ (wrI M 6 x1.toInt.toNat x2) 57 0 (nI (ct x1.toInt.toNat)).toInt64) 33 x1.toInt.toNat).toInt32 = nI (ct x1.toInt.toNat) := by
        rw [wrJ_r (by omega), wrI_J, hc2, sJ_ct hc.2, x_l (by rw [jJ_t (by omega) (by omega)]; omega) (by rw [jJ_t (by omega) (by omega)]; omega), jJ_t (by omega) (by omega)]
        congr 1
      refine ⟨_, 0, _, nI (ct x1.toInt.toNat), ?_, b1.st hS, ?_, ?_, fun _ => ?_, ⟨⟨P, mr, upn ct x1.toInt.toNat x2.toInt.toNat, b2.st hS, ?_, ?_, ?_, fun k hk => ?_, fun k hk => ?_⟩, hv.kq hS b2.kq (fun r j z => by unfold Nv; omega)⟩, Rmm.same b2.1⟩
      · refine s_L_cost_0ok (M1 := wrI M 6 x1.toInt.toNat x2) (x101 := nI (ct x1.toInt.toNat)) hS ?_ (Ag.st (S := fun _ _ => True) (Ag.rf.wI trivial) hS) v01 (by rw [z0c])
        apply s_X6_cost_0 (M1 := M) (M2 := wrI M 6 x1.toInt.toNat x2) (x101 := 1) (x105 := nI (ct x1.toInt.toNat)) hS hop
        case c3 => intros; exact hpr
        case k4 => intros; rfl
        case k6 => intro q; exact absurd q (by decide)
        case k2 => intro _ q; exfalso; simp only [lt32, le32, eq32, lt64, le64, eq64, Int32.reduceToInt, Int64.reduceToInt] at q; omega
        case k5 => intro _ _ q; exfalso; simp only [lt32, le32, eq32, lt64, le64, eq64, Int32.reduceToInt, Int64.reduceToInt] at q; omega
      · apply s_X7_cost_0 (b1.st hS)
        case b3 => intros; exact in_x g.1 g.2
        case k4 => intros; rw [cx1, e33]; exact ⟨rfl, rfl⟩
        case k1 => intro q; exfalso; simp only [lt32, le32, eq32, lt64, le64, eq64, Int32.reduceToInt, Int64.reduceToInt] at q; omega
        case k6 => intro _ q; exfalso; simp only [lt32, le32, eq32, lt64, le64, eq64, Int32.reduceToInt, Int64.reduceToInt] at q; omega
        case k2 => intro _ _ q; exfalso; simp only [lt32, le32, eq32, lt64, le64, eq64, Int32.reduceToInt, Int64.reduceToInt] at q; omega
        case k5 => intro _ _ _ q; exfalso; simp only [lt32, le32, eq32, lt64, le64, eq64, Int32.reduceToInt, Int64.reduceToInt] at q; omega
      · simp (disch := omega) only [wrI_s, wrI_r, wrI_j, wrJ_s, wrJ_r, wrJ_j, wrI_J, wrJ_I, wrR_I, wrR_J]
      · simp (disch := omega) only [wrI_s, wrI_r, wrI_j, wrJ_s, wrJ_r, wrJ_j, wrI_J, wrJ_I, wrR_I, wrR_J]
      · exact sR.ag b2 (by omega) (fun j hj => by have := sR.m hj; exact ⟨fun i _ => by omega, fun i => by omega, fun i => by omega⟩)
      · intro j hj; have := sR.m hj; exact (sH j hj).ag b2 (by omega) (by omega) (by omega) (fun i => by omega)
      · exact sM.ag b2 (fun i => by omega)
      · by_cases q : k = x1.toInt.toNat
        · rw [q, upn_s]; simp (disch := omega) only [wrI_s, wrI_r, wrI_j, wrJ_s, wrJ_r, wrJ_j, wrI_J, wrJ_I, wrR_I, wrR_J]; exact ⟨x_n g2.1, by omega⟩
        · rw [upn_n q]; simp (disch := omega) only [wrI_s, wrI_r, wrI_j, wrJ_s, wrJ_r, wrJ_j, wrI_J, wrJ_I, wrR_I, wrR_J]; exact sC k hk
      · by_cases q : k = x1.toInt.toNat
        · rw [q, upn_s]; simp (disch := omega) only [wrI_s, wrI_r, wrI_j, wrJ_s, wrJ_r, wrJ_j, wrI_J, wrJ_I, wrR_I, wrR_J]; rw [sJ_ct (by omega)]; exact jJ_e (by rw [l2]; omega)
        · rw [upn_n q]; simp (disch := omega) only [wrI_s, wrI_r, wrI_j, wrJ_s, wrJ_r, wrJ_j, wrI_J, wrJ_I, wrR_I, wrR_J]; exact s2 k hk
    · obtain ⟨t1, t2, t3, t4⟩ := h.thr 8 2
      refine ⟨mk M 8 6, 2, wrI (mk M 8 6) 26 9 2, 0, ?_, t1, ?_, t3, fun q => absurd q (by decide), t2, t4⟩
      · refine s_L_cost_0t8 (M1 := mk M 8 6) hS ?_ rfl
        apply s_X6_cost_0 (M1 := M) (M2 := M) (x101 := 1) (x105 := 0) hS hop
        case k2 => intros; rfl
        case k5 => intros; rfl
        case k6 => intro q; exact absurd q (by decide)
        all_goals (intro _ q1 q2; exfalso; simp only [lt32, le32, eq32, lt64, le64, eq64, Int32.reduceToInt, Int64.reduceToInt] at q1 q2; omega)
      · apply s_X7_cost_0 t1
        case k2 => intros; exact ⟨rfl, rfl⟩
        case k5 => intros; exact ⟨rfl, rfl⟩
        case k1 => intro q; exfalso; simp only [lt32, le32, eq32, lt64, le64, eq64, Int32.reduceToInt, Int64.reduceToInt] at q; omega
        case k6 => intro _ q; exfalso; simp only [lt32, le32, eq32, lt64, le64, eq64, Int32.reduceToInt, Int64.reduceToInt] at q; omega
        all_goals (intro _ _ q1 q2; exfalso; simp only [lt32, le32, eq32, lt64, le64, eq64, Int32.reduceToInt, Int64.reduceToInt] at q1 q2; omega)
  · rw [if_neg g] at hop
    obtain ⟨t1, t2, t3, t4⟩ := h.thr 10 1
    refine ⟨mk M 10 6, 1, wrI (mk M 10 6) 26 9 1, 0, ?_, t1, ?_, t3, fun q => absurd q (by decide), t2, t4⟩
    · refine s_L_cost_0t10 (M1 := mk M 10 6) hS ?_ rfl
      apply s_X6_cost_0 (M1 := M) (M2 := M) (x101 := 0) (x105 := 0) hS hop
      case k6 => intros; rfl
      all_goals (intro q; exact absurd rfl q)
    · apply s_X7_cost_0 t1
      case k1 => intros; exact ⟨rfl, rfl⟩
      case k6 => intros; exact ⟨rfl, rfl⟩
      all_goals (intro q1 q2; exfalso; simp only [lt32, le32, eq32, lt64, le64, eq64, Int32.reduceToInt, Int64.reduceToInt] at q1 q2; omega)
theorem L_place {M : AM} (h : GRel M) : ∃ b M2, Ev K_X6_place [aR (some 3)] M (some (aI b)) M ∧ Ev K_X7_place [aR (some 26)] M (some (aI b)) M2 ∧ GRel M2 ∧ Rmm M M2 := by
  have hG := h
  obtain ⟨⟨P, mr, ct, hs⟩, hv⟩ := hG
  have a : Ag (fun r j => r = 26 ∧ j = 9) M (wrI M 26 9 0) := Ag.rf.wI (by omega)
  refine ⟨mI M 3 6, wrI M 26 9 0, s_X6_place_0 hs.1 ⟨rfl, rfl⟩, s_X7_place_0 hs.1 ⟨?_, rfl⟩, ⟨⟨P, mr, ct, hs.kq a.kq (fun r j z => by unfold Ns; omega)⟩, hv.kq hs.1 a.kq (fun r j z => by unfold Nv; omega)⟩, Rmm.same rfl⟩
  rw [hv.1]
/-- behind a refresh -/
theorem GV.rf {M M' : AM} (h : GV M) (hS : St M) (a : Ag SRf M M') : GV M' := by
  have h58 := hS.1
  have q : ∀ r j, r < 58 → r ≠ 8 → r ≠ 9 → r ≠ 10 → ¬ SRf r j := fun r j h1 h2 h3 h4 => by unfold SRf; omega
  obtain ⟨hp, ⟨c, c1, c2, c3, c4⟩, ht, hn⟩ := h
  refine ⟨?_, ⟨c, c1, (a.i (q _ _ (by omega) (by omega) (by omega) (by omega))).trans c2, (a.i (q _ _ (by omega) (by omega) (by omega) (by omega))).trans c3, fun x hx => ?_⟩, ?_, ?_⟩
  · exact hp.kq hS a.kq ⟨q _ _ (by omega) (by omega) (by omega) (by omega), q _ _ (by omega) (by omega) (by omega) (by omega)⟩
  · rw [a.j (q _ _ (by omega) (by omega) (by omega) (by omega)), a.j (q _ _ (by omega) (by omega) (by omega) (by omega))]; exact c4 x hx
  · exact ht.kq hS a.kq (fun r j z => by unfold SRf at z; omega)
  · exact hn.kq hS a.kq (fun r j z => by unfold SRf at z; omega)
theorem L_check {M : AM} (h : GRel M) (x1 : Int32) : ∃ M1 k M2 b, Tv K_L_check [aR (some 3), aI x1, aR (some 57)] M (.inl (some (aI k), M1)) ∧ St M1 ∧ Ev K_X7_check [aR (some 26), aI x1] M1 (some (aI b)) M2 ∧ mI M2 26 9 = k ∧ (k = 0 → mJ M2 57 0 = b.toInt64) ∧ GRel M2 ∧ Rmm M M2 := by
  have hG := h
  obtain ⟨⟨P, mr, ct, hs⟩, hv⟩ := hG
  have hS := hs.1
  obtain ⟨kn, un⟩ := v_known hs x1
  obtain ⟨t1, t2, t3, t4⟩ := h.thr 10 1
  have hno := v_noM' hs (mk_kq (S := fun _ _ => False) (k := 10) (n := 6)) (fun z => z) t1 x1
  by_cases g : 0 ≤ x1.toInt ∧ x1.toInt < pc P
  · have kn' := kn g
    have h32 := hs.2.2.2.1.2.1
    have ex : x1 = nI x1.toInt.toNat := x_n g.1
    generalize hj : x1.toInt.toNat = j at *
    subst ex
    have hjp : j < pc P := by omega
    have cj := cl_n (n := j) (by omega)
    obtain ⟨Mr, er, ar, hsr, hac⟩ := hs.rf
    have hvr := hv.rf hS ar
    have hcg := hac.2 j hjp
    have hm58 := kn'.2.1
    have a1 : Ag (fun r i => (r = 3 ∧ i = 6) ∨ r = 57 ∨ (r = 26 ∧ (i = 8 ∨ i = 9)) ∨ SX j r i) Mr (wrJ (wrI Mr 3 6 (mI Mr (mr j) 9)) 57 0 (iI (chk (DP P j)).1).toInt64) := (Ag.rf.wI (by omega)).wJ (by omega)
    have a2 : Ag (fun r i => (r = 3 ∧ i = 6) ∨ r = 57 ∨ (r = 26 ∧ (i = 8 ∨ i = 9)) ∨ SX j r i) Mr (wrI (wrJ (wrI Mr 3 6 (mI Mr (mr j) 9)) 57 0 (iI (chk (DP P j)).1).toInt64) 26 9 0) := a1.wI (by omega)
    have hS1 := a1.st hsr.1
    have hs1 : SR (wrJ (wrI Mr 3 6 (mI Mr (mr j) 9)) 57 0 (iI (chk (DP P j)).1).toInt64) P mr ct := hsr.kq (S := fun r i => (r = 3 ∧ i = 6) ∨ r = 57) (Ag.kq ((Ag.rf.wI (by omega)).wJ (by omega))) (fun r i z => by unfold Ns; omega)
    have hno1 := v_noM hS1 hs1.2.2.2.1.1 h32 (nI j)
    rw [if_pos g] at hno1
    have hmm := hsr.2.2.2.1.ag a2 (fun i => by unfold SX; omega)
    obtain ⟨M3, e3, a3, g3⟩ := v_examine (a2.st hsr.1) (hmm.2.2 j hjp)
    have a4 : Ag (fun r i => (r = 3 ∧ i = 6) ∨ r = 57 ∨ (r = 26 ∧ (i = 8 ∨ i = 9)) ∨ SX j r i) Mr (wrI M3 26 8 (mI M3 39 j)) := (a2.tr (a3.mo (fun r i z => Or.inr (Or.inr (Or.inr z))))).wI (by omega)
    have e38 : mI M3 38 j = iI (chk (DP P j)).1 := g3.1
    have e39 : mI M3 39 j = iI (chk (DP P j)).2 := g3.2.1
    refine ⟨_, 0, wrI M3 26 8 (mI M3 39 j), iI (chk (DP P j)).1, ?_, hS1, ?_, ?_, fun _ => ?_, ⟨⟨P, mr, ct, hsr.kq a4.kq (fun r i z => by unfold SX at z; unfold Ns; omega)⟩, ?_, hvr.2.1.kq hsr.1 a4.kq (fun x => by unfold SX; omega), hvr.2.2.1.kq hsr.1 a4.kq (fun r i z => by unfold SX at z; omega), hvr.2.2.2.kq hsr.1 a4.kq (fun r i z => by unfold SX at z; omega)⟩, Rmm.same (a4.1.trans ar.1)⟩
    · refine s_L_check_0ok (M1 := wrI Mr 3 6 (mI Mr (mr j) 9)) (x101 := iI (chk (DP P j)).1) hS ?_ (Ag.st (S := fun _ _ => True) (Ag.rf.wI trivial) hsr.1) v01 (by rw [z0c])
      refine s_X6_check_0ok (r1 := mr j) (M2 := Mr) hS kn'.1 kn'.2 er ?_
      rw [wrI_r (by omega), hcg.1]
    · apply s_X7_check_0 (M1 := wrJ (wrI Mr 3 6 (mI Mr (mr j) 9)) 57 0 (iI (chk (DP P j)).1).toInt64) (M2 := M3) (x101 := 0) hS1 hno1
      case c2 => intros; exact e3
      case b3 => intros; exact in_n (by omega) (by omega)
      case k4 => intros; rw [cj, e38]; exact ⟨rfl, rfl⟩
      case k5 => intro q; exact absurd rfl q
    · rw [wrI_j (by omega), a3.i (by unfold SX; omega)]; simp (disch := omega) only [wrI_s, wrI_r, wrI_j, wrJ_s, wrJ_r, wrJ_j, wrI_J, wrJ_I, wrR_I, wrR_J]
    · rw [wrI_J, a3.j (by unfold SX; omega)]; simp (disch := omega) only [wrI_s, wrI_r, wrI_j, wrJ_s, wrJ_r, wrJ_j, wrI_J, wrJ_I, wrR_I, wrR_J]
    · show mI (wrI M3 26 8 (mI M3 39 j)) 3 6 = mI (wrI M3 26 8 (mI M3 39 j)) 26 8
      rw [wrI_s, wrI_r (by omega), a3.i (by unfold SX; omega), e39]
      simp (disch := omega) only [wrI_s, wrI_r, wrI_j, wrJ_s, wrJ_r, wrJ_j, wrI_J, wrJ_I, wrR_I, wrR_J]
      exact hcg.2.1
  · rw [if_neg g] at hno
    refine ⟨mk M 10 6, 1, wrI (mk M 10 6) 26 9 1, 0, ?_, t1, ?_, t3, fun q => absurd q (by decide), t2, t4⟩
    · exact s_L_check_0t10 (M1 := mk M 10 6) hS (s_X6_check_0thr hS (un g) rfl) rfl
    · apply s_X7_check_0 (M1 := mk M 10 6) (M2 := M) (x101 := 1) t1 hno
      case k5 => intros; exact ⟨rfl, rfl⟩
      all_goals (intro q; exact absurd q (by decide))
end PUB
