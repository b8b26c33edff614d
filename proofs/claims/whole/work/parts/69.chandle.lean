/-! ===== PURE: the class's handle ===== -/
theorem nI_sub {m k : Nat} (h : k ≤ m) : nI m - nI k = nI (m - k) := by
  obtain ⟨q, rfl⟩ : ∃ q, m = q + k := ⟨m - k, by omega⟩
  rw [← nI_add, Int32.add_sub_cancel, Nat.add_sub_cancel]
def wk (o : Int) (a b : Int64) : Int64 := if o = 4 then a + b else if o = 5 then a - b else if o = 6 then a * b else if o = 7 then (if a < b then 1 else 0) else if b = 0 then 0 else a / b
def hf (L : Nat) (o a : Int) (F : Fr) : Fr :=
  if o = 0 then fP L F (jJ a)
  else if o = 1 then fQ F
  else if o = 2 then fP L F (Fw F (L + Fh F - 1))
  else if o = 3 then fS (fS F (L + Fh F - 2) (Fw F (L + Fh F - 1))) (L + Fh F - 1) (Fw F (L + Fh F - 2))
  else if o = 9 then fP L F (Fw F a.toNat)
  else if o = 10 then fS (fQ F) a.toNat (Fw F (L + Fh F - 1))
  else if o = 11 then fP L F (Fw F (L + Fh F - 1 - a.toNat))
  else fS (fQ F) (L + Fh F - 2) (wk o (Fw F (L + Fh F - 2)) (Fw F (L + Fh F - 1)))
def HO (L : Nat) (o a : Int) (F : Fr) : Prop := (o = 0 → Fh F < 100) ∧ (o = 1 → 1 ≤ Fh F) ∧ (o = 2 → 1 ≤ Fh F ∧ Fh F < 100) ∧ (3 ≤ o ∧ o ≤ 8 → 2 ≤ Fh F) ∧ (o = 9 → 0 ≤ a ∧ a < L ∧ Fh F < 100) ∧ (o = 10 → 0 ≤ a ∧ a < L ∧ 1 ≤ Fh F) ∧ (o = 11 → 0 ≤ a ∧ a + 1 ≤ Fh F ∧ Fh F < 100)
section CLS
variable {P : PG} {mr : Nat → Nat}
theorem v_compute {M : AM} {x : Int32} {o : Int} {a b : Int64} (hS : St M) (ho : x.toInt = o) : Ev K_X3_compute [aI x, aJ a, aJ b] M (some (aJ (wk o a b))) M := by
  unfold wk
  apply s_X3_compute_0 hS
  case k1 => intro g; simp only [lt32, le32, eq32, lt64, le64, eq64, Int32.reduceToInt, Int64.reduceToInt, ho] at g; rw [if_pos g]; exact ⟨rfl, rfl⟩
  case k2 => intro g1 g; simp only [lt32, le32, eq32, lt64, le64, eq64, Int32.reduceToInt, Int64.reduceToInt, ho] at g g1; rw [if_neg g1, if_pos g]; exact ⟨rfl, rfl⟩
  case k3 => intro g1 g2 g; simp only [lt32, le32, eq32, lt64, le64, eq64, Int32.reduceToInt, Int64.reduceToInt, ho] at g g1 g2; rw [if_neg g1, if_neg g2, if_pos g]; exact ⟨rfl, rfl⟩
  case k4 => intro g1 g2 g3 g q; simp only [lt32, le32, eq32, lt64, le64, eq64, Int32.reduceToInt, Int64.reduceToInt, ho] at g g1 g2 g3; rw [if_neg g1, if_neg g2, if_neg g3, if_pos g, if_neg q]; exact ⟨rfl, rfl⟩
  case k5 => intro g1 g2 g3 g q; simp only [lt32, le32, eq32, lt64, le64, eq64, Int32.reduceToInt, Int64.reduceToInt, ho] at g g1 g2 g3; rw [if_neg g1, if_neg g2, if_neg g3, if_pos g, if_pos q]; exact ⟨rfl, rfl⟩
  case z6 => intro _ _ _ _ g; exact g
  case k7 => intro g1 g2 g3 g q; simp only [lt32, le32, eq32, lt64, le64, eq64, Int32.reduceToInt, Int64.reduceToInt, ho] at g g1 g2 g3; rw [if_neg g1, if_neg g2, if_neg g3, if_neg g, if_neg q]; exact ⟨rfl, rfl⟩
  case k8 => intro g1 g2 g3 g q; simp only [lt32, le32, eq32, lt64, le64, eq64, Int32.reduceToInt, Int64.reduceToInt, ho] at g g1 g2 g3; rw [if_neg g1, if_neg g2, if_neg g3, if_neg g, if_pos q]; exact ⟨rfl, rfl⟩
theorem Rm.q {F : Fr} {r : List Fr} (h : Rm P F r) : Rm P (fQ F) r := ⟨h.1, h.2.1, h.2.2.1, (by have := h.2.2.2.1; show Fh F - 1 ≤ 100; omega), h.2.2.2.2⟩
theorem Rm.p {F : Fr} {r : List Fr} {L : Nat} {x : Int64} (h : Rm P F r) (hh : Fh F < 100) : Rm P (fP L F x) r := ⟨h.1, h.2.1, h.2.2.1, (by show Fh F + 1 ≤ 100; omega), h.2.2.2.2⟩
theorem v_swap {M : AM} {F : Fr} {r : List Fr} (hS : St M) (h : CSt P mr M F r) (hr : Rm P F r) (hh : 2 ≤ Fh F) : ∃ M', Ev K_X3_swap [aR (some 18)] M none M' ∧ CSt P mr M' (fS (fS F (pL P (Fj F) + Fh F - 2) (Fw F (pL P (Fj F) + Fh F - 1))) (pL P (Fj F) + Fh F - 1) (Fw F (pL P (Fj F) + Fh F - 2))) r ∧ Aq (SH (sz P r) (lz r) r.length) M M' := by
  obtain ⟨⟨j, i, q, l⟩, w, t⟩ := F
  obtain ⟨n, rfl⟩ : ∃ n, q = n + 2 := ⟨q - 2, by have : 2 ≤ q := hh; omega⟩
  have h4 : n + 2 ≤ 100 := hr.2.2.2.1
  obtain ⟨M1, e1, c1, a1⟩ := v_cpop hS h hr (by show 1 ≤ n + 2; omega)
  obtain ⟨M2, e2, c2, a2⟩ := v_cpop (a1.st hS) c1 hr.q (by show 1 ≤ n + 1; omega)
  obtain ⟨M3, e3, c3, a3⟩ := v_cpush (x := w (pL P j + (n + 2) - 1)) (a2.st (a1.st hS)) c2 hr.q.q (by show n < 100; omega)
  obtain ⟨M4, e4, c4, a4⟩ := v_cpush (x := w (pL P j + (n + 1) - 1)) (a3.st (a2.st (a1.st hS))) c3 (hr.q.q.p (by show n < 100; omega)) (by show n + 1 < 100; omega)
  refine ⟨M4, ?_, ?_, ((a1.tr a2).tr a3).tr a4⟩
  · exact s_X3_swap_0 hS e1 e2 e3 e4 ⟨rfl, rfl⟩
  · exact c4
theorem v_handle {M : AM} {F : Fr} {r : List Fr} {x1 : Int32} {x2 : Int64} {o a : Int} (hS : St M) (h : CSt P mr M F r) (hr : Rm P F r) (ho : x1.toInt = o) (ha : x2.toInt = a) (h0 : 0 ≤ o) (h11 : o ≤ 11) (H : HO (pL P (Fj F)) o a F) : ∃ M', Ev K_X3_handle [aR (some 18), aI x1, aJ x2] M none M' ∧ CSt P mr M' (hf (pL P (Fj F)) o a F) r ∧ Aq (SH (sz P r) (lz r) r.length) M M' := by
  obtain ⟨q0, q1, q2, q3, q9, q10, q11⟩ := H
  have hB := hr
  obtain ⟨r1, r2, r3, r4, r5, r6⟩ := hB
  have e7 := h.1
  have e8 := h.2.1
  have e23 := h.2.2.2.1.2.2.1
  unfold fz at e8
  have c7 := cl_n (n := r.length) (by omega)
  rcases (by omega : o = 0 ∨ o = 1 ∨ o = 2 ∨ o = 3 ∨ o = 9 ∨ o = 10 ∨ o = 11 ∨ (4 ≤ o ∧ o ≤ 8)) with e | e | e | e | e | e | e | e
  · obtain ⟨M', hE, hC, hA⟩ := v_cpush (x := x2) hS h hr (q0 e)
    refine ⟨M', ?_, ?_, ?_⟩
    · apply s_X3_handle_0 (M1 := M') (M2 := M) (M3 := M) (M4 := M) (M5 := M) (M6 := M) (M7 := M) (M8 := M) (M9 := M) (M10 := M) (M11 := M) (M12 := M) (M13 := M) (M14 := M) (M15 := M) (x103 := 0) (x105 := 0) (x108 := 0) (x110 := 0) (x112 := 0) (x113 := 0) (x114 := 0) (x115 := 0) hS
      case c1 => exact fun _ => hE
      case k2 => exact fun _ => ⟨rfl, rfl⟩
      all_goals (clear q0 q1 q2 q3 q9 q10 q11; intros; exfalso; simp only [lt32, le32, eq32, lt64, le64, eq64, Int32.reduceToInt, Int64.reduceToInt, ho] at * <;> omega)
    · unfold hf; rw [if_pos e, ← jJ_e ha]; exact hC
    · exact hA
  · obtain ⟨M', hE, hC, hA⟩ := v_cpop hS h hr (q1 e)
    refine ⟨M', ?_, ?_, ?_⟩
    · apply s_X3_handle_0 (M1 := M) (M2 := M') (M3 := M) (M4 := M) (M5 := M) (M6 := M) (M7 := M) (M8 := M) (M9 := M) (M10 := M) (M11 := M) (M12 := M) (M13 := M) (M14 := M) (M15 := M) (x103 := Fw F (pL P (Fj F) + Fh F - 1)) (x105 := 0) (x108 := 0) (x110 := 0) (x112 := 0) (x113 := 0) (x114 := 0) (x115 := 0) hS
      case c3 => exact fun _ _ => hE
      case k4 => exact fun _ _ => ⟨rfl, rfl⟩
      all_goals (clear q0 q1 q2 q3 q9 q10 q11; intros; exfalso; simp only [lt32, le32, eq32, lt64, le64, eq64, Int32.reduceToInt, Int64.reduceToInt, ho] at * <;> omega)
    · unfold hf; rw [if_neg (by omega), if_pos e]; exact hC
    · exact hA
  · have q2' := q2 e
    obtain ⟨M', hE, hC, hA⟩ := v_cpush (x := Fw F (pL P (Fj F) + Fh F - 1)) hS h hr q2'.2
    have hR := v_cread (k := pL P (Fj F) + Fh F - 1) hS h hr (by unfold fz; omega)
    have ei : mI M 18 8 - 1 = nI (sz P r + (pL P (Fj F) + Fh F - 1)) := by rw [e8, nI_s1 (by omega)]; congr 1; omega
    refine ⟨M', ?_, ?_, ?_⟩
    · apply s_X3_handle_0 (M1 := M) (M2 := M) (M3 := M) (M4 := M') (M5 := M) (M6 := M) (M7 := M) (M8 := M) (M9 := M) (M10 := M) (M11 := M) (M12 := M) (M13 := M) (M14 := M) (M15 := M) (x103 := 0) (x105 := Fw F (pL P (Fj F) + Fh F - 1)) (x108 := 0) (x110 := 0) (x112 := 0) (x113 := 0) (x114 := 0) (x115 := 0) hS
      case c5 => intros; rw [ei]; exact hR
      case c6 => exact fun _ _ _ => hE
      case k7 => exact fun _ _ _ => ⟨rfl, rfl⟩
      all_goals (clear q0 q1 q2 q3 q9 q10 q11; intros; exfalso; simp only [lt32, le32, eq32, lt64, le64, eq64, Int32.reduceToInt, Int64.reduceToInt, ho] at * <;> omega)
    · unfold hf; rw [if_neg (by omega), if_neg (by omega), if_pos e]; exact hC
    · exact hA
  · obtain ⟨M', hE, hC, hA⟩ := v_swap hS h hr (q3 (by omega))
    refine ⟨M', ?_, ?_, ?_⟩
    · apply s_X3_handle_0 (M1 := M) (M2 := M) (M3 := M) (M4 := M) (M5 := M') (M6 := M) (M7 := M) (M8 := M) (M9 := M) (M10 := M) (M11 := M) (M12 := M) (M13 := M) (M14 := M) (M15 := M) (x103 := 0) (x105 := 0) (x108 := 0) (x110 := 0) (x112 := 0) (x113 := 0) (x114 := 0) (x115 := 0) hS
      case c8 => exact fun _ _ _ _ => hE
      case k9 => exact fun _ _ _ _ => ⟨rfl, rfl⟩
      all_goals (clear q0 q1 q2 q3 q9 q10 q11; intros; exfalso; simp only [lt32, le32, eq32, lt64, le64, eq64, Int32.reduceToInt, Int64.reduceToInt, ho] at * <;> omega)
    · unfold hf; rw [if_neg (by omega), if_neg (by omega), if_neg (by omega), if_pos e]; exact hC
    · exact hA
  · have q9' := q9 e
    obtain ⟨M', hE, hC, hA⟩ := v_cpush (x := Fw F a.toNat) hS h hr q9'.2.2
    have hR := v_cread (k := a.toNat) hS h hr (by unfold fz; omega)
    have ei : mI M 23 (mI M 18 7).toNatClampNeg + x2.toInt32 = nI (sz P r + a.toNat) := by rw [e7, c7, e23, x_l (by omega) (by omega), ha, nI_add]
    refine ⟨M', ?_, ?_, ?_⟩
    · apply s_X3_handle_0 (M1 := M) (M2 := M) (M3 := M) (M4 := M) (M5 := M) (M6 := M) (M7 := M') (M8 := M) (M9 := M) (M10 := M) (M11 := M) (M12 := M) (M13 := M) (M14 := M) (M15 := M) (x103 := 0) (x105 := 0) (x108 := Fw F a.toNat) (x110 := 0) (x112 := 0) (x113 := 0) (x114 := 0) (x115 := 0) hS
      case b10 => intros; rw [e7]; exact in_n (by omega) (by omega)
      case c11 => intros; rw [ei]; exact hR
      case c12 => exact fun _ _ _ _ _ => hE
      case k13 => exact fun _ _ _ _ _ => ⟨rfl, rfl⟩
      all_goals (clear q0 q1 q2 q3 q9 q10 q11; intros; exfalso; simp only [lt32, le32, eq32, lt64, le64, eq64, Int32.reduceToInt, Int64.reduceToInt, ho] at * <;> omega)
    · unfold hf; rw [if_neg (by omega), if_neg (by omega), if_neg (by omega), if_neg (by omega), if_pos e]; exact hC
    · exact hA
  · have q10' := q10 e
    obtain ⟨M1, hE1, hC1, hA1⟩ := v_cpop hS h hr q10'.2.2
    obtain ⟨M', hE, hC, hA⟩ := v_cwrite (k := a.toNat) (x := Fw F (pL P (Fj F) + Fh F - 1)) (hA1.st hS) hC1 hr.q (by unfold fz; show a.toNat < pL P (Fj F) + (Fh F - 1); omega)
    have ei : mI M 23 (mI M 18 7).toNatClampNeg + x2.toInt32 = nI (sz P r + a.toNat) := by rw [e7, c7, e23, x_l (by omega) (by omega), ha, nI_add]
    refine ⟨M', ?_, ?_, ?_⟩
    · apply s_X3_handle_0 (M1 := M) (M2 := M) (M3 := M) (M4 := M) (M5 := M) (M6 := M) (M7 := M) (M8 := M1) (M9 := M') (M10 := M) (M11 := M) (M12 := M) (M13 := M) (M14 := M) (M15 := M) (x103 := 0) (x105 := 0) (x108 := 0) (x110 := Fw F (pL P (Fj F) + Fh F - 1)) (x112 := 0) (x113 := 0) (x114 := 0) (x115 := 0) hS
      case b14 => intros; rw [e7]; exact in_n (by omega) (by omega)
      case c15 => exact fun _ _ _ _ _ _ => hE1
      case c16 => intros; rw [ei]; exact hE
      case k17 => exact fun _ _ _ _ _ _ => ⟨rfl, rfl⟩
      all_goals (clear q0 q1 q2 q3 q9 q10 q11; intros; exfalso; simp only [lt32, le32, eq32, lt64, le64, eq64, Int32.reduceToInt, Int64.reduceToInt, ho] at * <;> omega)
    · unfold hf; rw [if_neg (by omega), if_neg (by omega), if_neg (by omega), if_neg (by omega), if_neg (by omega), if_pos e]; exact hC
    · exact hA1.tr hA
  · have q11' := q11 e
    obtain ⟨M', hE, hC, hA⟩ := v_cpush (x := Fw F (pL P (Fj F) + Fh F - 1 - a.toNat)) hS h hr q11'.2.2
    have hR := v_cread (k := pL P (Fj F) + Fh F - 1 - a.toNat) hS h hr (by unfold fz; omega)
    have ei : mI M 18 8 - 1 - x2.toInt32 = nI (sz P r + (pL P (Fj F) + Fh F - 1 - a.toNat)) := by rw [e8, nI_s1 (by omega), x_l (by omega) (by omega), ha, nI_sub (by omega)]; congr 1; omega
    refine ⟨M', ?_, ?_, ?_⟩
    · apply s_X3_handle_0 (M1 := M) (M2 := M) (M3 := M) (M4 := M) (M5 := M) (M6 := M) (M7 := M) (M8 := M) (M9 := M) (M10 := M) (M11 := M') (M12 := M) (M13 := M) (M14 := M) (M15 := M) (x103 := 0) (x105 := 0) (x108 := 0) (x110 := 0) (x112 := Fw F (pL P (Fj F) + Fh F - 1 - a.toNat)) (x113 := 0) (x114 := 0) (x115 := 0) hS
      case c18 => intros; rw [ei]; exact hR
      case c19 => exact fun _ _ _ _ _ _ _ => hE
      case k20 => exact fun _ _ _ _ _ _ _ => ⟨rfl, rfl⟩
      all_goals (clear q0 q1 q2 q3 q9 q10 q11; intros; exfalso; simp only [lt32, le32, eq32, lt64, le64, eq64, Int32.reduceToInt, Int64.reduceToInt, ho] at * <;> omega)
    · unfold hf; rw [if_neg (by omega), if_neg (by omega), if_neg (by omega), if_neg (by omega), if_neg (by omega), if_neg (by omega), if_pos e]; exact hC
    · exact hA
  · obtain ⟨⟨j, i, q, l⟩, w, t⟩ := F
    obtain ⟨n, rfl⟩ : ∃ n, q = n + 2 := ⟨q - 2, by have : 2 ≤ q := q3 (by omega); omega⟩
    have h4 : n + 2 ≤ 100 := r4
    obtain ⟨M1, e1, c1, a1⟩ := v_cpop hS h hr (by show 1 ≤ n + 2; omega)
    obtain ⟨M2, e2, c2, a2⟩ := v_cpop (a1.st hS) c1 hr.q (by show 1 ≤ n + 1; omega)
    obtain ⟨M', hE, hC, hA⟩ := v_cpush (x := wk o (w (pL P j + (n + 1) - 1)) (w (pL P j + (n + 2) - 1))) (a2.st (a1.st hS)) c2 hr.q.q (by show n < 100; omega)
    refine ⟨M', ?_, ?_, ?_⟩
    · apply s_X3_handle_0 (M1 := M) (M2 := M) (M3 := M) (M4 := M) (M5 := M) (M6 := M) (M7 := M) (M8 := M) (M9 := M) (M10 := M) (M11 := M) (M12 := M1) (M13 := M2) (M14 := M2) (M15 := M') (x103 := 0) (x105 := 0) (x108 := 0) (x110 := 0) (x112 := 0) (x113 := w (pL P j + (n + 2) - 1)) (x114 := w (pL P j + (n + 1) - 1)) (x115 := wk o (w (pL P j + (n + 1) - 1)) (w (pL P j + (n + 2) - 1))) hS
      case c21 => intros; exact e1
      case c22 => intros; exact e2
      case c23 => intros; exact v_compute (a2.st (a1.st hS)) ho
      case c24 => intros; exact hE
      case k25 => intros; exact ⟨rfl, rfl⟩
      all_goals (clear q0 q1 q2 q3 q9 q10 q11; intros; exfalso; simp only [lt32, le32, eq32, lt64, le64, eq64, Int32.reduceToInt, Int64.reduceToInt, ho] at * <;> omega)
    · unfold hf; rw [if_neg (by omega), if_neg (by omega), if_neg (by omega), if_neg (by omega), if_neg (by omega), if_neg (by omega), if_neg (by omega)]; exact hC
    · exact (a1.tr a2).tr hA
end CLS
