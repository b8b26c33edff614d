/-! ===== PURE: bound, ran, about, argument, cost ===== -/
section PUB
variable {P : PG} {mr : Nat → Nat} {ct : Nat → Nat}
theorem L_bound {M : AM} (h : GRel M) (x1 x2 : Int32) : ∃ M1 k M2 b, Tv K_L_bound [aR (some 3), aI x1, aI x2, aR (some 57)] M (.inl (some (aI k), M1)) ∧ St M1 ∧ Ev K_X7_bound [aR (some 26), aI x1, aI x2] M1 (some (aJ b)) M2 ∧ mI M2 26 9 = k ∧ (k = 0 → mJ M2 57 0 = b) ∧ GRel M2 ∧ Rmm M M2 := by
  have hG := h
  obtain ⟨⟨P, mr, ct, hs⟩, hv⟩ := hG
  have hS := hs.1
  obtain ⟨kn, un⟩ := v_known hs x1
  have z0 : (0 : Int32).toInt = 0 := rfl
  have z1 : (1 : Int32).toInt = 1 := rfl
  obtain ⟨t1, t2, t3, t4⟩ := h.thr 10 1
  have hno := v_noM' hs (mk_kq (S := fun _ _ => False) (k := 10) (n := 6)) (fun z => z) t1 x1
  by_cases g : 0 ≤ x1.toInt ∧ x1.toInt < pc P
  · have kn' := kn g
    rw [if_pos g] at hno
    by_cases g2 : 0 ≤ x2.toInt ∧ x2.toInt ≤ 1
    · have h32 := hs.2.2.2.1.2.1
      have ex : x1 = nI x1.toInt.toNat := x_n g.1
      have hb := hv.2.2.1 x1.toInt.toNat (by omega)
      generalize hj : x1.toInt.toNat = j at *
      subst ex
      have hj32 : j < 32 := by omega
      have cj := cl_n (n := j) (by omega)
      have bj : vp_in (nI j) 32 := in_n hj32 (by omega)
      obtain ⟨-, -, -, -, -, -, hb1, hb2, hb3⟩ := hb
      obtain ⟨w, iv, iw⟩ := v_isIn hS hj32 (mI M 11 3)
      -- one value for both
      have ha : ∃ b, Ev K_X0_boundOf [aR (some 11), aI (nI j), aI x2] M (some (aJ b)) M ∧ (mI M 43 j = 0 → b = -1) ∧ (¬ mI M 43 j = 0 → x2 = 0 → b = if mJ M 44 j = -2 then -1 else mJ M 44 j) ∧ (¬ mI M 43 j = 0 → ¬ x2 = 0 → b = if mJ M 45 j = -2 then -1 else mJ M 45 j) := by
        by_cases e43 : mI M 43 j = 0
        · refine ⟨-1, ?_, fun _ => rfl, fun q => absurd e43 q, fun q => absurd e43 q⟩
          have no : ¬ (¬ mI M 11 6 = 0 ∧ bt (mI M 11 3) j) := fun q => by have := hb2.mp q; rw [e43] at this; exact absurd this (by decide)
          have no2 : ¬ mI M 11 6 = 0 → w = 0 := fun q => iw.mpr (fun y => no ⟨q, y⟩)
          apply s_X0_boundOf_0 (M1 := M) (x102 := w) hS
          case k1 => intros; exact ⟨rfl, rfl⟩
          case c2 => intros; exact iv
          case k9 => intros; exact ⟨rfl, rfl⟩
          all_goals (intro q1 q2; exact absurd (no2 q1) q2)
        · have h43 : mI M 43 j = 1 := hb1.elim (fun q => absurd q e43) id
          obtain ⟨y1, y2⟩ := hb2.mpr h43
          obtain ⟨v1, v2⟩ := hb3 h43
          have hw : ¬ w = 0 := fun q => iw.mp q y2
          refine ⟨if x2 = 0 then (if mJ M 13 j = -2 then -1 else mJ M 13 j) else (if mJ M 14 j = -2 then -1 else mJ M 14 j), ?_, fun q => absurd q e43, fun _ q => by rw [if_pos q, v1], fun _ q => by rw [if_neg q, v2]⟩
          apply s_X0_boundOf_0 (M1 := M) (x102 := w) hS
          case k1 => intro q; exact absurd q y1
          case c2 => intros; exact iv
          case k9 => intro _ q; exact absurd q hw
          case b3 => intros; exact bj
          case b6 => intros; exact bj
          case k4 => intro _ _ q1 q2; rw [cj] at q2 ⊢; rw [if_neg q1, if_neg q2]; exact ⟨rfl, rfl⟩
          case k5 => intro _ _ q1 q2; rw [cj] at q2; rw [if_neg q1, if_pos q2]; exact ⟨rfl, rfl⟩
          case k7 => intro _ _ q1 q2; rw [cj] at q2 ⊢; rw [if_pos q1, if_neg q2]; exact ⟨rfl, rfl⟩
          case k8 => intro _ _ q1 q2; rw [cj] at q2; rw [if_pos q1, if_pos q2]; exact ⟨rfl, rfl⟩
      obtain ⟨b, ha1, ha2, ha3, ha4⟩ := ha
      obtain ⟨o1, o2, o3, o4, o5⟩ := h.ok b 0
      have hno2 := v_noM' hs (Ag.kq (Ag.rf.wJ (S := fun r _ => r = 57) (r := 57) (j := 0) (x := b) rfl)) (by omega) o1 (nI j)
      rw [if_pos g] at hno2
      refine ⟨wrJ M 57 0 b, 0, wrI (wrJ M 57 0 b) 26 9 0, b, ?_, o1, ?_, o3, fun _ => o4, o2, o5⟩
      · refine s_L_bound_0ok (M1 := M) (x101 := b) hS ?_ hS v01 (by rw [z0c])
        apply s_X6_bound_0ok (r1 := mr j) (M2 := M) (x103 := b) hS kn'.1 kn'.2
        case c4 => intros; exact ha1
        case k5 => intros; rfl
        all_goals (clear ha1 ha2 ha3 ha4 hno hno2; intros; exfalso; simp only [lt32, le32, eq32, lt64, le64, eq64, Int32.reduceToInt, Int64.reduceToInt] at *; omega)
      · have e44 : mJ (wrJ M 57 0 b) 44 j = mJ M 44 j := by simp (disch := omega) only [wrI_s, wrI_r, wrI_j, wrJ_s, wrJ_r, wrJ_j, wrI_J, wrJ_I, wrR_I, wrR_J]
        have e45 : mJ (wrJ M 57 0 b) 45 j = mJ M 45 j := by simp (disch := omega) only [wrI_s, wrI_r, wrI_j, wrJ_s, wrJ_r, wrJ_j, wrI_J, wrJ_I, wrR_I, wrR_J]
        have e43 : mI (wrJ M 57 0 b) 43 j = mI M 43 j := rfl
        apply s_X7_bound_0 (M1 := wrJ M 57 0 b) (x101 := 0) o1 hno2
        case b4 => intros; exact bj
        case b8 => intros; exact bj
        case k5 => intro _ _ _ _ q; rw [cj] at q; rw [ha2 q]; exact ⟨rfl, rfl⟩
        case k9 => intro _ _ _ _ q; rw [cj] at q; rw [ha2 q]; exact ⟨rfl, rfl⟩
        case k6 => intro _ _ _ q1 q2 q3; rw [cj] at q2 q3 ⊢; rw [e45] at q3 ⊢; rw [ha4 q2 q1, if_neg q3]; exact ⟨rfl, rfl⟩
        case k7 => intro _ _ _ q1 q2 q3; rw [cj] at q2 q3; rw [e45] at q3; rw [ha4 q2 q1, if_pos q3]; exact ⟨rfl, rfl⟩
        case k10 => intro _ _ _ q1 q2 q3; rw [cj] at q2 q3 ⊢; rw [e44] at q3 ⊢; rw [ha3 q2 q1, if_neg q3]; exact ⟨rfl, rfl⟩
        case k11 => intro _ _ _ q1 q2 q3; rw [cj] at q2 q3; rw [e44] at q3; rw [ha3 q2 q1, if_pos q3]; exact ⟨rfl, rfl⟩
        case k2 => intro q; exact absurd rfl q
        case k3 => intro _ q; exfalso; simp only [lt32, le32, eq32, lt64, le64, eq64, Int32.reduceToInt, Int64.reduceToInt] at q; omega
        case k12 => intro _ q1 q; exfalso; simp only [lt32, le32, eq32, lt64, le64, eq64, Int32.reduceToInt, Int64.reduceToInt] at q q1; omega
    · refine ⟨mk M 10 6, 1, wrI (mk M 10 6) 26 9 1, 0, ?_, t1, ?_, t3, fun q => absurd q (by decide), t2, t4⟩
      · refine s_L_bound_0t10 (M1 := mk M 10 6) hS ?_ rfl
        apply s_X6_bound_0ok (r1 := mr x1.toInt.toNat) (M2 := M) (x103 := 0) hS kn'.1 kn'.2
        case k3 => intros; rfl
        case k6 => intros; rfl
        all_goals (intros; exfalso; simp only [lt32, le32, eq32, lt64, le64, eq64, Int32.reduceToInt, Int64.reduceToInt] at *; omega)
      · apply s_X7_bound_0 (M1 := mk M 10 6) (x101 := 0) t1 hno
        case k3 => intros; exact ⟨rfl, rfl⟩
        case k12 => intros; exact ⟨rfl, rfl⟩
        case k2 => intro q; exact absurd rfl q
        all_goals (clear hno; intro _ q1 q2; exfalso; simp only [lt32, le32, eq32, lt64, le64, eq64, Int32.reduceToInt, Int64.reduceToInt] at q1 q2; omega)
  · rw [if_neg g] at hno
    refine ⟨mk M 10 6, 1, wrI (mk M 10 6) 26 9 1, 0, ?_, t1, ?_, t3, fun q => absurd q (by decide), t2, t4⟩
    · exact s_L_bound_0t10 (M1 := mk M 10 6) hS (s_X6_bound_0thr hS (un g) rfl) rfl
    · apply s_X7_bound_0 (M1 := mk M 10 6) (x101 := 1) t1 hno
      case k2 => intros; exact ⟨rfl, rfl⟩
      all_goals (intro q; exact absurd q (by decide))
theorem L_about {M : AM} (h : GRel M) (x1 x2 : Int32) : ∃ M1 k M2 b, Tv K_L_about [aR (some 3), aI x1, aI x2, aR (some 57)] M (.inl (some (aI k), M1)) ∧ St M1 ∧ Ev K_X7_about [aR (some 26), aI x1, aI x2] M1 (some (aI b)) M2 ∧ mI M2 26 9 = k ∧ (k = 0 → mJ M2 57 0 = b.toInt64) ∧ GRel M2 ∧ Rmm M M2 := by
  have hG := h
  obtain ⟨⟨P, mr, ct, hs⟩, hv⟩ := hG
  have hS := hs.1
  obtain ⟨kn, un⟩ := v_known hs x1
  have z0 : (0 : Int32).toInt = 0 := rfl
  have z1 : (3 : Int32).toInt = 3 := rfl
  obtain ⟨t1, t2, t3, t4⟩ := h.thr 10 1
  have hno := v_noM' hs (mk_kq (S := fun _ _ => False) (k := 10) (n := 6)) (fun z => z) t1 x1
  by_cases g : 0 ≤ x1.toInt ∧ x1.toInt < pc P
  · have kn' := kn g
    rw [if_pos g] at hno
    by_cases g2 : 0 ≤ x2.toInt ∧ x2.toInt ≤ 3
    · have h32 := hs.2.2.2.1.2.1
      have ex : x1 = nI x1.toInt.toNat := x_n g.1
      have hc := hs.2.1.2 x1.toInt.toNat (by omega)
      have hm := hs.2.2.2.1.2.2 x1.toInt.toNat (by omega)
      have hm5 := hm.2.2.2.2.1 x1.toInt.toNat (by show x1.toInt.toNat < pc P; omega)
      generalize hj : x1.toInt.toNat = j at *
      subst ex
      have hj32 : j < 32 := by omega
      have cj := cl_n (n := j) (by omega)
      have bj : vp_in (nI j) 32 := in_n hj32 (by omega)
      have w0 : mI M (mr j) 0 = mI M 27 j := hc.1.trans hm5.1.symm
      have w1 : mI M (mr j) 1 = mI M 28 j := hc.2.2.2.2.2.1.trans hm.2.2.1.symm
      have w2 : mI M (mr j) 2 = mI M 29 j := hc.2.2.2.2.2.2.1.trans hm.2.2.2.1.symm
      have w7 : mI M (mr j) 7 = mI M 30 j := hc.2.2.2.1.2.1.trans hm.1.symm
      have ha : ∃ b, Ev K_X4_answer [aR (some (mr j)), aI x2] M (some (aI b)) M ∧ (x2.toInt = 0 → b = mI M 27 j) ∧ (x2.toInt = 1 → b = mI M 28 j) ∧ (x2.toInt = 2 → b = mI M 29 j) ∧ (x2.toInt = 3 → b = mI M 30 j) := by
        rcases (by omega : x2.toInt = 0 ∨ x2.toInt = 1 ∨ x2.toInt = 2 ∨ x2.toInt = 3) with e | e | e | e
        · refine ⟨_, ?_, fun _ => rfl, fun q => by omega, fun q => by omega, fun q => by omega⟩
          apply s_X4_answer_0 hS kn'.2
          case k1 => intro _; rw [w0]; exact ⟨rfl, rfl⟩
          all_goals (clear w0 w1 w2 w7 hm5 hc hm; intros; exfalso; simp only [lt32, le32, eq32, lt64, le64, eq64, Int32.reduceToInt, Int64.reduceToInt] at *; omega)
        · refine ⟨_, ?_, fun q => by omega, fun _ => rfl, fun q => by omega, fun q => by omega⟩
          apply s_X4_answer_0 hS kn'.2
          case k2 => intros; rw [w1]; exact ⟨rfl, rfl⟩
          all_goals (clear w0 w1 w2 w7 hm5 hc hm; intros; exfalso; simp only [lt32, le32, eq32, lt64, le64, eq64, Int32.reduceToInt, Int64.reduceToInt] at *; omega)
        · refine ⟨_, ?_, fun q => by omega, fun q => by omega, fun _ => rfl, fun q => by omega⟩
          apply s_X4_answer_0 hS kn'.2
          case k3 => intros; rw [w2]; exact ⟨rfl, rfl⟩
          all_goals (clear w0 w1 w2 w7 hm5 hc hm; intros; exfalso; simp only [lt32, le32, eq32, lt64, le64, eq64, Int32.reduceToInt, Int64.reduceToInt] at *; omega)
        · refine ⟨_, ?_, fun q => by omega, fun q => by omega, fun q => by omega, fun _ => rfl⟩
          apply s_X4_answer_0 hS kn'.2
          case k4 => intros; rw [w7]; exact ⟨rfl, rfl⟩
          all_goals (clear w0 w1 w2 w7 hm5 hc hm; intros; exfalso; simp only [lt32, le32, eq32, lt64, le64, eq64, Int32.reduceToInt, Int64.reduceToInt] at *; omega)
      obtain ⟨b, ha1, ha2, ha3, ha4, ha5⟩ := ha
      obtain ⟨o1, o2, o3, o4, o5⟩ := h.ok b.toInt64 0
      have hno2 := v_noM' hs (Ag.kq (Ag.rf.wJ (S := fun r _ => r = 57) (r := 57) (j := 0) (x := b.toInt64) rfl)) (by omega) o1 (nI j)
      rw [if_pos g] at hno2
      refine ⟨wrJ M 57 0 b.toInt64, 0, wrI (wrJ M 57 0 b.toInt64) 26 9 0, b, ?_, o1, ?_, o3, fun _ => o4, o2, o5⟩
      · refine s_L_about_0ok (M1 := M) (x101 := b) hS ?_ hS v01 (by rw [z0c])
        apply s_X6_about_0ok (r1 := mr j) (M2 := M) (x103 := b) hS kn'.1 kn'.2
        case c4 => intros; exact ha1
        case k5 => intros; rfl
        all_goals (clear ha1 ha2 ha3 ha4 ha5 hno hno2 w0 w1 w2 w7 hm5 hc hm; intros; exfalso; simp only [lt32, le32, eq32, lt64, le64, eq64, Int32.reduceToInt, Int64.reduceToInt] at *; omega)
      · apply s_X7_about_0 (M1 := wrJ M 57 0 b.toInt64) (x101 := 0) o1 hno2
        case b4 => intros; exact bj
        case b6 => intros; exact bj
        case b8 => intros; exact bj
        case b10 => intros; exact bj
        case k5 => intro _ g3 g4 g5 g6 g7; rw [cj, ha5 (by simp only [lt32, le32, eq32, lt64, le64, eq64, Int32.reduceToInt, Int64.reduceToInt] at g3 g4 g5 g6 g7; omega)]; exact ⟨rfl, rfl⟩
        case k7 => intro _ g3 g4 g5 g6 g7; rw [cj, ha4 (by simp only [lt32, le32, eq32, lt64, le64, eq64, Int32.reduceToInt, Int64.reduceToInt] at g7; omega)]; exact ⟨rfl, rfl⟩
        case k9 => intro _ g3 g4 g5 g6; rw [cj, ha3 (by simp only [lt32, le32, eq32, lt64, le64, eq64, Int32.reduceToInt, Int64.reduceToInt] at g6; omega)]; exact ⟨rfl, rfl⟩
        case k11 => intro _ g3 g4 g5; rw [cj, ha2 (by simp only [lt32, le32, eq32, lt64, le64, eq64, Int32.reduceToInt, Int64.reduceToInt] at g5; omega)]; exact ⟨rfl, rfl⟩
        case k2 => intro q; exact absurd rfl q
        case k3 => intro _ q; exfalso; simp only [lt32, le32, eq32, lt64, le64, eq64, Int32.reduceToInt, Int64.reduceToInt] at q; omega
        case k12 => intro _ q1 q; exfalso; simp only [lt32, le32, eq32, lt64, le64, eq64, Int32.reduceToInt, Int64.reduceToInt] at q q1; omega
    · refine ⟨mk M 10 6, 1, wrI (mk M 10 6) 26 9 1, 0, ?_, t1, ?_, t3, fun q => absurd q (by decide), t2, t4⟩
      · refine s_L_about_0t10 (M1 := mk M 10 6) hS ?_ rfl
        apply s_X6_about_0ok (r1 := mr x1.toInt.toNat) (M2 := M) (x103 := 0) hS kn'.1 kn'.2
        case k3 => intros; rfl
        case k6 => intros; rfl
        all_goals (intros; exfalso; simp only [lt32, le32, eq32, lt64, le64, eq64, Int32.reduceToInt, Int64.reduceToInt] at *; omega)
      · apply s_X7_about_0 (M1 := mk M 10 6) (x101 := 0) t1 hno
        case k3 => intros; exact ⟨rfl, rfl⟩
        case k12 => intros; exact ⟨rfl, rfl⟩
        case k2 => intro q; exact absurd rfl q
        all_goals (clear hno; intro _ q1 q2; exfalso; simp only [lt32, le32, eq32, lt64, le64, eq64, Int32.reduceToInt, Int64.reduceToInt] at q1 q2; omega)
  · rw [if_neg g] at hno
    refine ⟨mk M 10 6, 1, wrI (mk M 10 6) 26 9 1, 0, ?_, t1, ?_, t3, fun q => absurd q (by decide), t2, t4⟩
    · exact s_L_about_0t10 (M1 := mk M 10 6) hS (s_X6_about_0thr hS (un g) rfl) rfl
    · apply s_X7_about_0 (M1 := mk M 10 6) (x101 := 1) t1 hno
      case k2 => intros; exact ⟨rfl, rfl⟩
      all_goals (intro q; exact absurd q (by decide))
theorem L_ran {M : AM} (h : GRel M) (x1 : Int32) : ∃ M1 k M2 b, Tv K_L_ran [aR (some 3), aI x1, aR (some 57)] M (.inl (some (aI k), M1)) ∧ St M1 ∧ Ev K_X7_ran [aR (some 26), aI x1] M1 (some (aJ b)) M2 ∧ mI M2 26 9 = k ∧ (k = 0 → mJ M2 57 0 = b) ∧ GRel M2 ∧ Rmm M M2 := by
  have hG := h
  obtain ⟨⟨P, mr, ct, hs⟩, hv⟩ := hG
  have hS := hs.1
  have z0 : (0 : Int32).toInt = 0 := rfl
  have z1 : (4 : Int32).toInt = 4 := rfl
  obtain ⟨t1, t2, t3, t4⟩ := h.thr 10 1
  by_cases g2 : 0 ≤ x1.toInt ∧ x1.toInt ≤ 4
  · obtain ⟨n1, n2, n3, n4, n5⟩ := hv.2.2.2
    have ha : ∃ b, Ev K_X3_answer [aR (some 18), aI x1] M (some (aJ b)) M ∧ (x1.toInt = 0 → b = mJ M 26 37) ∧ (x1.toInt = 1 → b = mJ M 26 38) ∧ (x1.toInt = 2 → b = (mI M 26 36).toInt64) ∧ (x1.toInt = 3 → b = (mI M 26 39).toInt64) ∧ (x1.toInt = 4 → b = (mI M 26 40).toInt64) := by
      rcases (by omega : x1.toInt = 0 ∨ x1.toInt = 1 ∨ x1.toInt = 2 ∨ x1.toInt = 3 ∨ x1.toInt = 4) with e | e | e | e | e
      · refine ⟨_, ?_, fun _ => rfl, fun q => by omega, fun q => by omega, fun q => by omega, fun q => by omega⟩
        apply s_X3_answer_0 hS
        case k1 => intro _; rw [n1]; exact ⟨rfl, rfl⟩
        all_goals (clear n1 n2 n3 n4 n5; intros; exfalso; simp only [lt32, le32, eq32, lt64, le64, eq64, Int32.reduceToInt, Int64.reduceToInt] at *; omega)
      · refine ⟨_, ?_, fun q => by omega, fun _ => rfl, fun q => by omega, fun q => by omega, fun q => by omega⟩
        apply s_X3_answer_0 hS
        case k2 => intros; rw [n2]; exact ⟨rfl, rfl⟩
        all_goals (clear n1 n2 n3 n4 n5; intros; exfalso; simp only [lt32, le32, eq32, lt64, le64, eq64, Int32.reduceToInt, Int64.reduceToInt] at *; omega)
      · refine ⟨_, ?_, fun q => by omega, fun q => by omega, fun _ => rfl, fun q => by omega, fun q => by omega⟩
        apply s_X3_answer_0 hS
        case k3 => intros; rw [n3]; exact ⟨rfl, rfl⟩
        all_goals (clear n1 n2 n3 n4 n5; intros; exfalso; simp only [lt32, le32, eq32, lt64, le64, eq64, Int32.reduceToInt, Int64.reduceToInt] at *; omega)
      · refine ⟨_, ?_, fun q => by omega, fun q => by omega, fun q => by omega, fun _ => rfl, fun q => by omega⟩
        apply s_X3_answer_0 hS
        case k4 => intros; rw [n4]; exact ⟨rfl, rfl⟩
        all_goals (clear n1 n2 n3 n4 n5; intros; exfalso; simp only [lt32, le32, eq32, lt64, le64, eq64, Int32.reduceToInt, Int64.reduceToInt] at *; omega)
      · refine ⟨_, ?_, fun q => by omega, fun q => by omega, fun q => by omega, fun q => by omega, fun _ => rfl⟩
        apply s_X3_answer_0 hS
        case k5 => intros; rw [n5]; exact ⟨rfl, rfl⟩
        all_goals (clear n1 n2 n3 n4 n5; intros; exfalso; simp only [lt32, le32, eq32, lt64, le64, eq64, Int32.reduceToInt, Int64.reduceToInt] at *; omega)
    obtain ⟨b, ha1, a0, a1, a2, a3, a4⟩ := ha
    obtain ⟨o1, o2, o3, o4, o5⟩ := h.ok b 0
    refine ⟨wrJ M 57 0 b, 0, wrI (wrJ M 57 0 b) 26 9 0, b, ?_, o1, ?_, o3, fun _ => o4, o2, o5⟩
    · refine s_L_ran_0ok (M1 := M) (x101 := b) hS ?_ hS v01 (by rw [z0c])
      apply s_X6_ran_0 (M1 := M) (x103 := b) hS
      case c2 => intros; exact ha1
      case k3 => intros; rfl
      all_goals (clear ha1 a0 a1 a2 a3 a4 n1 n2 n3 n4 n5; intros; exfalso; simp only [lt32, le32, eq32, lt64, le64, eq64, Int32.reduceToInt, Int64.reduceToInt] at *; omega)
    · have e37 : mJ (wrJ M 57 0 b) 26 37 = mJ M 26 37 := by simp (disch := omega) only [wrI_s, wrI_r, wrI_j, wrJ_s, wrJ_r, wrJ_j, wrI_J, wrJ_I, wrR_I, wrR_J]
      have e38 : mJ (wrJ M 57 0 b) 26 38 = mJ M 26 38 := by simp (disch := omega) only [wrI_s, wrI_r, wrI_j, wrJ_s, wrJ_r, wrJ_j, wrI_J, wrJ_I, wrR_I, wrR_J]
      apply s_X7_ran_0 o1
      case k2 => intro g1 g2 g3 g4 g5 g6; rw [a4 (by simp only [lt32, le32, eq32, lt64, le64, eq64, Int32.reduceToInt, Int64.reduceToInt] at g1 g2 g3 g4 g5 g6; omega)]; exact ⟨rfl, rfl⟩
      case k3 => intro g1 g2 g3 g4 g5 g6; rw [a3 (by simp only [lt32, le32, eq32, lt64, le64, eq64, Int32.reduceToInt, Int64.reduceToInt] at g6; omega)]; exact ⟨rfl, rfl⟩
      case k4 => intro g1 g2 g3 g4 g5; rw [a2 (by simp only [lt32, le32, eq32, lt64, le64, eq64, Int32.reduceToInt, Int64.reduceToInt] at g5; omega)]; exact ⟨rfl, rfl⟩
      case k5 => intro g1 g2 g3 g4; rw [e38, a1 (by simp only [lt32, le32, eq32, lt64, le64, eq64, Int32.reduceToInt, Int64.reduceToInt] at g4; omega)]; exact ⟨rfl, rfl⟩
      case k6 => intro g1 g2 g3; rw [e37, a0 (by simp only [lt32, le32, eq32, lt64, le64, eq64, Int32.reduceToInt, Int64.reduceToInt] at g3; omega)]; exact ⟨rfl, rfl⟩
      case k1 => intro q; exfalso; simp only [lt32, le32, eq32, lt64, le64, eq64, Int32.reduceToInt, Int64.reduceToInt] at q; omega
      case k7 => intro q1 q; exfalso; simp only [lt32, le32, eq32, lt64, le64, eq64, Int32.reduceToInt, Int64.reduceToInt] at q q1; omega
  · refine ⟨mk M 10 6, 1, wrI (mk M 10 6) 26 9 1, 0, ?_, t1, ?_, t3, fun q => absurd q (by decide), t2, t4⟩
    · refine s_L_ran_0t10 (M1 := mk M 10 6) hS ?_ rfl
      apply s_X6_ran_0 (M1 := M) (x103 := 0) hS
      case k1 => intros; rfl
      case k4 => intros; rfl
      all_goals (intros; exfalso; simp only [lt32, le32, eq32, lt64, le64, eq64, Int32.reduceToInt, Int64.reduceToInt] at *; omega)
    · apply s_X7_ran_0 t1
      case k1 => intros; exact ⟨rfl, rfl⟩
      case k7 => intros; exact ⟨rfl, rfl⟩
      all_goals (intro q1 q2; exfalso; simp only [lt32, le32, eq32, lt64, le64, eq64, Int32.reduceToInt, Int64.reduceToInt] at q1 q2; omega)
end PUB
