/-! ===== PURE: the public methods that only tell ===== -/
section PUB
variable {P : PG} {mr : Nat → Nat} {ct : Nat → Nat}
def Rmm (M M2 : AM) : Prop := mN M2 ≤ mN M + 5 ∧ mU M2 ≤ mU M + 500
theorem Rmm.same {M M2 : AM} (h : M2.1 = M.1) : Rmm M M2 := by
  unfold Rmm
  show M2.1.1 ≤ M.1.1 + 5 ∧ M2.1.2 ≤ M.1.2 + 500
  rw [h]; omega
theorem v01 : vp_in 0 1 := in_n (n := 0) (by omega) (by omega)
theorem z0c : (0 : Int32).toNatClampNeg = 0 := by decide
theorem GRel.thr {M : AM} (h : GRel M) (k : Nat) (e : Int32) : St (mk M k 6) ∧ GRel (wrI (mk M k 6) 26 9 e) ∧ mI (wrI (mk M k 6) 26 9 e) 26 9 = e ∧ Rmm M (wrI (mk M k 6) 26 9 e) := by
  obtain ⟨⟨P, mr, ct, hs⟩, hv⟩ := h
  have a : Kq (fun r j => r = 26 ∧ j = 9) M (wrI (mk M k 6) 26 9 e) := mk_kq.tr (Ag.kq (Ag.rf.wI ⟨rfl, rfl⟩))
  refine ⟨hs.1.kq (mk_kq (S := fun _ _ => False)), ⟨⟨P, mr, ct, hs.kq a (fun r j z => by unfold Ns; omega)⟩, hv.kq hs.1 a (fun r j z => by unfold Nv; omega)⟩, wrI_s, ?_⟩
  exact ⟨by show mN M + 1 ≤ mN M + 5; omega, by show mU M + 6 ≤ mU M + 500; omega⟩
theorem GRel.ok {M : AM} (h : GRel M) (v : Int64) (e : Int32) : St (wrJ M 57 0 v) ∧ GRel (wrI (wrJ M 57 0 v) 26 9 e) ∧ mI (wrI (wrJ M 57 0 v) 26 9 e) 26 9 = e ∧ mJ (wrI (wrJ M 57 0 v) 26 9 e) 57 0 = v ∧ Rmm M (wrI (wrJ M 57 0 v) 26 9 e) := by
  obtain ⟨⟨P, mr, ct, hs⟩, hv⟩ := h
  have a0 : Ag (fun r j => (r = 26 ∧ j = 9) ∨ r = 57) M (wrJ M 57 0 v) := Ag.rf.wJ (Or.inr rfl)
  have a : Kq (fun r j => (r = 26 ∧ j = 9) ∨ r = 57) M (wrI (wrJ M 57 0 v) 26 9 e) := (a0.wI (Or.inl ⟨rfl, rfl⟩)).kq
  exact ⟨a0.st hs.1, ⟨⟨P, mr, ct, hs.kq a (fun r j z => by unfold Ns; omega)⟩, hv.kq hs.1 a (fun r j z => by unfold Nv; omega)⟩, wrI_s, by rw [wrI_J, wrJ_s], Rmm.same rfl⟩
/-- known -/
theorem v_known {M : AM} (h : SR M P mr ct) (x : Int32) : (0 ≤ x.toInt ∧ x.toInt < pc P → Tv K_X6_known [aR (some 3), aI x] M (.inl (some (aR (some (mr x.toInt.toNat))), M)) ∧ Mt M (mr x.toInt.toNat)) ∧ (¬ (0 ≤ x.toInt ∧ x.toInt < pc P) → Tv K_X6_known [aR (some 3), aI x] M (.inr (10, mk M 10 6))) := by
  obtain ⟨hS, hR, -⟩ := h
  have hf := v_find hS hR.1 x.toInt64
  rw [l2] at hf
  refine ⟨fun g => ?_, fun g => ?_⟩
  · rw [if_pos g] at hf
    have hm := (hR.1.2.2.1 x.toInt.toNat (by omega)).2
    refine ⟨?_, hm⟩
    apply s_X6_known_0 hS hf
    case h2 => intro r q; injection q with q; subst q; exact hm
    case k3 => intro r q; injection q with q; subst q; rfl
    case k4 => intro q; simp at q
  · rw [if_neg g] at hf
    apply s_X6_known_0 hS hf
    case h2 => intro r q; simp at q
    case k3 => intro r q; simp at q
    case k4 => intro _; rfl
/-- the reference's look at the number, wherever the program still lies -/
theorem v_noM' {M M1 : AM} (h : SR M P mr ct) {S : Nat → Nat → Prop} (a : Kq S M M1) (hs : ¬ S 26 4) (hS : St M1) (x : Int32) : Ev K_X7_noMethod [aR (some 26), aI x] M1 (some (aI (if 0 ≤ x.toInt ∧ x.toInt < pc P then 0 else 1))) M1 :=
  v_noM hS ((a.i (by have := h.1.1; omega) hs).trans h.2.2.2.1.1) h.2.2.2.1.2.1 x
theorem L_told {M : AM} (h : GRel M) (x1 x2 : Int32) : ∃ M1 k M2 b, Tv K_L_told [aR (some 3), aI x1, aI x2, aR (some 57)] M (.inl (some (aI k), M1)) ∧ St M1 ∧ Ev K_X7_told [aR (some 26), aI x1, aI x2] M1 (some (aI b)) M2 ∧ mI M2 26 9 = k ∧ (k = 0 → mJ M2 57 0 = b.toInt64) ∧ GRel M2 ∧ Rmm M M2 := by
  have hG := h
  obtain ⟨⟨P, mr, ct, hs⟩, hv⟩ := hG
  have hS := hs.1
  obtain ⟨kn, un⟩ := v_known hs x1
  have z0 : (0 : Int32).toInt = 0 := rfl
  have z2 : (2 : Int32).toInt = 2 := rfl
  obtain ⟨t1, t2, t3, t4⟩ := h.thr 10 1
  have hno := v_noM' hs (mk_kq (S := fun _ _ => False) (k := 10) (n := 6)) (fun z => z) t1 x1
  by_cases g : 0 ≤ x1.toInt ∧ x1.toInt < pc P
  · have kn' := kn g
    rw [if_pos g] at hno
    by_cases g2 : 0 ≤ x2.toInt ∧ x2.toInt ≤ 2
    · have h32 := hs.2.2.2.1.2.1
      have ex : x1 = nI x1.toInt.toNat := x_n g.1
      have hb := hv.2.2.1 x1.toInt.toNat (by omega)
      generalize hj : x1.toInt.toNat = j at *
      subst ex
      have hj32 : j < 32 := by omega
      have cj := cl_n (n := j) (by omega)
      -- the class's answer
      have ha : ∃ b, Ev K_X0_answer [aR (some 11), aI (nI j), aI x2] M (some (aI b)) M ∧ (b = 0 ∨ b = 1) ∧ (x2.toInt = 0 → (b = 1 ↔ mI M 40 j = 1)) ∧ (x2.toInt = 1 → (b = 1 ↔ mI M 41 j = 1)) ∧ (x2.toInt = 2 → (b = 1 ↔ mI M 42 j = 1)) := by
        rcases (by omega : x2.toInt = 0 ∨ x2.toInt = 1 ∨ x2.toInt = 2) with e | e | e
        · have sh := bt_shr (x := mI M 11 3) hj32
          refine ⟨_, ?_, sh.1.symm, fun _ => sh.2.trans hb.2.1, fun q => by omega, fun q => by omega⟩
          apply s_X0_answer_0 hS
          case k1 => intro _; exact ⟨rfl, rfl⟩
          all_goals (intros; exfalso; simp only [lt32, le32, eq32, lt64, le64, eq64, Int32.reduceToInt, Int64.reduceToInt] at *; omega)
        · have sh := bt_shr (x := mI M 11 4) hj32
          refine ⟨_, ?_, sh.1.symm, fun q => by omega, fun _ => sh.2.trans hb.2.2.2.1, fun q => by omega⟩
          apply s_X0_answer_0 hS
          case k2 => intros; exact ⟨rfl, rfl⟩
          all_goals (intros; exfalso; simp only [lt32, le32, eq32, lt64, le64, eq64, Int32.reduceToInt, Int64.reduceToInt] at *; omega)
        · have sh := bt_shr (x := mI M 11 5) hj32
          refine ⟨_, ?_, sh.1.symm, fun q => by omega, fun q => by omega, fun _ => sh.2.trans hb.2.2.2.2.2.1⟩
          apply s_X0_answer_0 hS
          case k3 => intros; exact ⟨rfl, rfl⟩
          all_goals (intros; exfalso; simp only [lt32, le32, eq32, lt64, le64, eq64, Int32.reduceToInt, Int64.reduceToInt] at *; omega)
      obtain ⟨b, ha1, ha2, ha3, ha4, ha5⟩ := ha
      obtain ⟨o1, o2, o3, o4, o5⟩ := h.ok b.toInt64 0
      have hno2 := v_noM' hs (Ag.kq (Ag.rf.wJ (S := fun r _ => r = 57) (r := 57) (j := 0) (x := b.toInt64) rfl)) (by omega) o1 (nI j)
      rw [if_pos g] at hno2
      refine ⟨wrJ M 57 0 b.toInt64, 0, wrI (wrJ M 57 0 b.toInt64) 26 9 0, b, ?_, o1, ?_, o3, fun _ => o4, o2, o5⟩
      · refine s_L_told_0ok (M1 := M) (x101 := b) hS ?_ hS v01 (by rw [z0c])
        apply s_X6_told_0ok (r1 := mr j) (M2 := M) (x103 := b) hS kn'.1 kn'.2
        case c4 => intros; exact ha1
        case k5 => intros; rfl
        all_goals (intros; exfalso; simp only [lt32, le32, eq32, lt64, le64, eq64, Int32.reduceToInt, Int64.reduceToInt] at *; omega)
      · have e40 : mI (wrJ M 57 0 b.toInt64) 40 j = mI M 40 j := rfl
        have f0 : mI M 40 j = 0 → x2.toInt = 0 → b = 0 := fun q1 q2 => ha2.elim id (fun q => by have := (ha3 q2).mp q; rw [q1] at this; exact absurd this (by decide))
        have f1 : mI M 41 j = 0 → x2.toInt = 1 → b = 0 := fun q1 q2 => ha2.elim id (fun q => by have := (ha4 q2).mp q; rw [q1] at this; exact absurd this (by decide))
        have f2 : mI M 42 j = 0 → x2.toInt = 2 → b = 0 := fun q1 q2 => ha2.elim id (fun q => by have := (ha5 q2).mp q; rw [q1] at this; exact absurd this (by decide))
        have d0 : ¬ mI M 40 j = 0 → x2.toInt = 0 → b = 1 := fun q1 q2 => (ha3 q2).mpr (hb.1.elim (fun q => absurd q q1) id)
        have d1 : ¬ mI M 41 j = 0 → x2.toInt = 1 → b = 1 := fun q1 q2 => (ha4 q2).mpr (hb.2.2.1.elim (fun q => absurd q q1) id)
        have d2 : ¬ mI M 42 j = 0 → x2.toInt = 2 → b = 1 := fun q1 q2 => (ha5 q2).mpr (hb.2.2.2.2.1.elim (fun q => absurd q q1) id)
        clear ha3 ha4 ha5 hb
        have bj : vp_in (nI j) 32 := in_n hj32 (by omega)
        apply s_X7_told_0 (M1 := wrJ M 57 0 b.toInt64) (x101 := 0) o1 hno2
        case b4 => intros; exact bj
        case b7 => intros; exact bj
        case b10 => intros; exact bj
        case k5 => intro _ g3 g4 g5 g6 g7; rw [cj] at g7; rw [f2 g7 (by simp only [lt32, le32, eq32, lt64, le64, eq64, Int32.reduceToInt, Int64.reduceToInt] at g4 g5 g6 g3; omega)]; exact ⟨rfl, rfl⟩
        case k6 => intro _ g3 g4 g5 g6 g7; rw [cj] at g7; rw [d2 g7 (by simp only [lt32, le32, eq32, lt64, le64, eq64, Int32.reduceToInt, Int64.reduceToInt] at g4 g5 g6 g3; omega)]; exact ⟨rfl, rfl⟩
        case k8 => intro _ g3 g4 g5 g6 g7; rw [cj] at g7; rw [f1 g7 (by simp only [lt32, le32, eq32, lt64, le64, eq64, Int32.reduceToInt, Int64.reduceToInt] at g6; omega)]; exact ⟨rfl, rfl⟩
        case k9 => intro _ g3 g4 g5 g6 g7; rw [cj] at g7; rw [d1 g7 (by simp only [lt32, le32, eq32, lt64, le64, eq64, Int32.reduceToInt, Int64.reduceToInt] at g6; omega)]; exact ⟨rfl, rfl⟩
        case k11 => intro _ g3 g4 g5 g7; rw [cj] at g7; rw [f0 g7 (by simp only [lt32, le32, eq32, lt64, le64, eq64, Int32.reduceToInt, Int64.reduceToInt] at g5; omega)]; exact ⟨rfl, rfl⟩
        case k12 => intro _ g3 g4 g5 g7; rw [cj] at g7; rw [d0 g7 (by simp only [lt32, le32, eq32, lt64, le64, eq64, Int32.reduceToInt, Int64.reduceToInt] at g5; omega)]; exact ⟨rfl, rfl⟩
        case k2 => intro q; exact absurd rfl q
        case k3 => intro _ q; exfalso; simp only [lt32, le32, eq32, lt64, le64, eq64, Int32.reduceToInt, Int64.reduceToInt] at q; omega
        case k13 => intro _ q1 q; exfalso; simp only [lt32, le32, eq32, lt64, le64, eq64, Int32.reduceToInt, Int64.reduceToInt] at q q1; omega
    · refine ⟨mk M 10 6, 1, wrI (mk M 10 6) 26 9 1, 0, ?_, t1, ?_, t3, fun q => absurd q (by decide), t2, t4⟩
      · refine s_L_told_0t10 (M1 := mk M 10 6) hS ?_ rfl
        apply s_X6_told_0ok (r1 := mr x1.toInt.toNat) (M2 := M) (x103 := 0) hS kn'.1 kn'.2
        case k3 => intros; rfl
        case k6 => intros; rfl
        all_goals (intros; exfalso; simp only [lt32, le32, eq32, lt64, le64, eq64, Int32.reduceToInt, Int64.reduceToInt] at *; omega)
      · apply s_X7_told_0 (M1 := mk M 10 6) (x101 := 0) t1 hno
        case k3 => intros; exact ⟨rfl, rfl⟩
        case k13 => intros; exact ⟨rfl, rfl⟩
        case k2 => intro q; exact absurd rfl q
        all_goals (clear hno; intro _ q1 q2; exfalso; simp only [lt32, le32, eq32, lt64, le64, eq64, Int32.reduceToInt, Int64.reduceToInt] at q1 q2; omega)
  · rw [if_neg g] at hno
    refine ⟨mk M 10 6, 1, wrI (mk M 10 6) 26 9 1, 0, ?_, t1, ?_, t3, fun q => absurd q (by decide), t2, t4⟩
    · exact s_L_told_0t10 (M1 := mk M 10 6) hS (s_X6_told_0thr hS (un g) rfl) rfl
    · apply s_X7_told_0 (M1 := mk M 10 6) (x101 := 1) t1 hno
      case k2 => intros; exact ⟨rfl, rfl⟩
      all_goals (intro q; exact absurd q (by decide))
end PUB
