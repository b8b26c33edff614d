/-! ===== PURE: the class's time of a METHOD ===== -/
section LEN
variable {D : DD} {ct : Nat → Nat} {T : Nat → Option Nat} {mr : Nat → Nat} {m : Nat}
def CO (M : AM) (ct : Nat → Nat) : Prop := ∀ k, k < 18 → mI M 6 k = nI (ct k) ∧ ct k ≤ 1000000
def BX (M : AM) (m : Nat) (mr : Nat → Nat) (D : DD) (ct : Nat → Nat) (T : Nat → Option Nat) : Prop := MC M m D ∧ PC M mr D ∧ CG M m D ∧ Sd D ∧ CO M ct ∧ ∀ i, i < dn D → 0 ≤ HH D i → dO D i = 16 → mJ M 14 (dA D i).toNat = sJ (T (dA D i).toNat)
def S1516 : Nat → Nat → Prop := fun r _ => r = 15 ∨ r = 16
theorem BX.ag {M M' : AM} (h : BX M m mr D ct T) (a : Ag S1516 M M') : BX M' m mr D ct T := by
  have h58 := h.1.1.1.1
  refine ⟨h.1.ag a (by unfold S1516; omega) (by unfold S1516; omega) (by unfold S1516; omega) (fun i => by unfold S1516; omega) (fun i => by unfold S1516; omega), h.2.1.ag a (by unfold S1516; omega) (fun j hj => ?_), h.2.2.1.ag a (by unfold S1516; omega) (by unfold S1516; omega) (fun i => by unfold S1516; omega), h.2.2.2.1, fun k hk => ?_, fun i h1 h2 h3 => ?_⟩
  · have := (h.2.1.1.2.2.1 j hj).2.1
    unfold S1516; omega
  · rw [a.i (by unfold S1516; omega)]; exact h.2.2.2.2.1 k hk
  · rw [a.j (by unfold S1516; omega)]; exact h.2.2.2.2.2 i h1 h2 h3
theorem v_timeOfCall {M : AM} {i : Nat} (hS : St M) (h : BX M m mr D ct T) (hi : i < dn D) (h0 : 0 ≤ HH D i) (o : dO D i = 16) : Ev K_X1_timeOfCall [aR (some 12), aR (some m), aI (nI i)] M (some (aJ (sJ (T (dA D i).toNat)))) M := by
  have hN := h.1.1.2.2
  have ck := cl_n (n := i) (by omega)
  have ha := (h.1.2.1 i hi).2
  have fc := ffc (h.2.2.2.1.ff hi) o
  have hfi := v_find hS h.2.1.1 (mJ M (m + 2) i)
  rw [ha, if_pos fc] at hfi
  have hc := h.2.1.1.2.1
  apply s_X1_timeOfCall_0 (M1 := M) (o101 := some (mr (dA D i).toNat)) hS h.1.1.1
  case b1 => exact in_n (by omega) (by omega)
  case c2 => rw [ck]; exact hfi
  case h3 => intro r q; injection q with q; rw [← q]; exact (h.2.1.1.2.2.1 _ (by omega)).2
  case b4 => intros; rw [ck, x_l (by omega) (by omega), ha]; exact in_n (by omega) (by omega)
  case k5 => intros; rw [ck, x_l (by omega) (by omega), ha, cl_n (by omega), h.2.2.2.2.2 i hi h0 o]; exact ⟨rfl, rfl⟩
  case k6 => intro q; simp at q
/-- the arrays hold what is behind i -/
def TB (M : AM) (D : DD) (ct : Nat → Nat) (T : Nat → Option Nat) (i : Nat) : Prop := ∀ p, i ≤ p → p ≤ dn D → mJ M 15 p = sJ (FF2 D ct T p).1 ∧ mJ M 16 p = sJ (FF2 D ct T p).2
theorem mx_n {a : Option Nat} : mx none a = a := by cases a <;> rfl
theorem v_goThrough {M : AM} {i : Nat} (hS : St M) (h : BX M m mr D ct T) (hi : i < dn D) (o : dO D i = 14) (a0 : 0 < dA D i) (hT : TB M D ct T (i + 1)) : ∃ M', Ev K_X1_goThrough [aR (some 12), aR (some m), aI (nI i), aJ (sJ (own D ct i))] M none M' ∧ Ag (S15 i) M M' ∧ mJ M' 15 i = sJ (lens D ct T i (FF2 D ct T)).1 ∧ mJ M' 16 i = sJ (lens D ct T i (FF2 D ct T)).2 := by
  have hN := h.1.1.2.2
  have hff := h.2.2.2.1.ff hi
  have ck := cl_n (n := i) (by omega)
  have ha := (h.1.2.1 i hi).2
  have fl := ffl hff o
  have bg := beh_gt hff o
  have e3 := (h.2.2.1.2.2 h.2.2.2.1 i hi).2
  have ea : mJ M (m + 2) i = jJ ((dA D i).toNat : Nat) := by rw [jJ_e ha]; congr 1; omega
  have ea1 : mJ M (m + 2) i - 1 = jJ (((dA D i).toNat - 1 : Nat) : Int) := by
    rw [ea, show (1 : Int64) = jJ 1 from rfl]
    show Int64.ofInt _ - Int64.ofInt _ = _
    rw [← Int64.ofInt_sub]
    show jJ _ = _
    congr 1
    omega
  have eb : mI M (m + 3) i + 1 = nI (beh D i) := by
    rw [iI_e e3, show (1 : Int32) = iI 1 from rfl, iI_add, nI_i (by omega)]
    congr 1
    unfold beh
    omega
  have cb := cl_n (n := beh D i) (by omega)
  have c1 := cl_n (n := i + 1) (by omega)
  have e1 : nI i + 1 = nI (i + 1) := nI_1 i
  have t1 := hT (i + 1) (by omega) (by omega)
  have tb := hT (beh D i) (by omega) (by omega)
  generalize hF1 : FF2 D ct T (i + 1) = F1 at *
  generalize hFb : FF2 D ct T (beh D i) = Fb at *
  have eL : lens D ct T i (FF2 D ct T) = (pl (pl (own D ct i) (rp F1.1 (dA D i).toNat)) Fb.1, mx (pl (pl (own D ct i) (rp F1.1 (dA D i).toNat)) Fb.2) (pl (match F1.1 with | none => own D ct i | some r => pl (own D ct i) (some (r * ((dA D i).toNat - 1)))) F1.2)) := by
    unfold lens
    rw [if_neg (by omega), if_neg (by omega), if_neg (by omega), if_neg (by omega), if_pos o, if_pos a0, hF1, hFb]
    rfl
  rw [eL]
  have hr := v_repeated hS F1.1 (k := (dA D i).toNat) (by omega)
  have hp1 := v_plus1 hS (own D ct i) (rp F1.1 (dA D i).toNat)
  generalize hW : pl (own D ct i) (rp F1.1 (dA D i).toNat) = W at *
  have hp2 := v_plus1 hS W Fb.1
  have hA1 : Ag (S15 i) M (wrJ M 15 i (sJ (pl W Fb.1))) := Ag.rf.wJ ⟨Or.inl rfl, rfl⟩
  have hS1 := hA1.st hS
  have hp3 := v_plus1 hS1 W Fb.2
  cases hc : F1.1 with
  | none =>
    have hp4 := v_plus1 hS1 (own D ct i) F1.2
    have hg := v_greater1 hS1 (pl W Fb.2) (pl (own D ct i) F1.2)
    refine ⟨wrJ (wrJ M 15 i (sJ (pl W Fb.1))) 16 i (sJ (mx (pl W Fb.2) (pl (own D ct i) F1.2))), ?_, hA1.wJ ⟨Or.inr rfl, rfl⟩, by simp (disch := omega) only [wrI_s, wrI_r, wrI_j, wrJ_s, wrJ_r, wrJ_j, wrI_J, wrJ_I, wrR_I, wrR_J], by simp (disch := omega) only [wrI_s, wrI_r, wrI_j, wrJ_s, wrJ_r, wrJ_j, wrI_J, wrJ_I, wrR_I, wrR_J]⟩
    have g : mJ M 15 (nI i + 1).toNatClampNeg = -1 := by rw [e1, c1, t1.1, hc]; rfl
    apply s_X1_goThrough_0 (M1 := M) (M2 := M) (M3 := M) (M4 := M) (M5 := M) (M6 := M) (M7 := M) (M8 := M) (M9 := M) (M10 := wrJ M 15 i (sJ (pl W Fb.1))) (M11 := wrJ M 15 i (sJ (pl W Fb.1))) (M12 := wrJ M 15 i (sJ (pl W Fb.1))) (x101 := sJ (rp F1.1 (dA D i).toNat)) (x102 := sJ W) (x104 := 0) (x105 := 0) (x106 := 0) (x107 := 0) (x108 := 0) (x109 := 0) (x110 := sJ (pl W Fb.1)) (x111 := sJ (pl W Fb.2)) (x112 := sJ (pl (own D ct i) F1.2)) (x113 := sJ (mx (pl W Fb.2) (pl (own D ct i) F1.2))) hS h.1.1.1
    case b1 => rw [e1]; exact in_n (by omega) (by omega)
    case b2 => exact in_n (by omega) (by omega)
    case c3 => rw [e1, c1, ck, t1.1, ea]; exact hr
    case c4 => exact hp1
    case b14 => intros; rw [ck, eb]; exact in_n (by omega) (by omega)
    case c15 => intros; rw [ck, eb, cb, tb.1]; exact hp2
    case b16 => intros; exact in_n (by omega) (by omega)
    case c17 => intros; rw [ck, eb, cb, tb.2]; exact hp3
    case c18 => intros; rw [e1, c1]; simp (disch := omega) only [wrI_s, wrI_r, wrI_j, wrJ_s, wrJ_r, wrJ_j, wrI_J, wrJ_I, wrR_I, wrR_J]; rw [t1.2]; exact hp4
    case c19 => intros; exact hg
    case k20 => intros; rw [ck]; exact ⟨rfl, rfl⟩
    all_goals (intro z; exact absurd g z)
  | some r =>
    have hr2 := v_repeated hS F1.1 (k := (dA D i).toNat - 1) (by omega)
    rw [hc] at hr2
    have hp5 := v_plus1 hS (own D ct i) (rp (some r) ((dA D i).toNat - 1))
    have hp4 := v_plus1 hS1 (pl (own D ct i) (some (r * ((dA D i).toNat - 1)))) F1.2
    have hg := v_greater1 hS1 (pl W Fb.2) (pl (pl (own D ct i) (some (r * ((dA D i).toNat - 1)))) F1.2)
    refine ⟨wrJ (wrJ M 15 i (sJ (pl W Fb.1))) 16 i (sJ (mx (pl W Fb.2) (pl (pl (own D ct i) (some (r * ((dA D i).toNat - 1)))) F1.2))), ?_, hA1.wJ ⟨Or.inr rfl, rfl⟩, by simp (disch := omega) only [wrI_s, wrI_r, wrI_j, wrJ_s, wrJ_r, wrJ_j, wrI_J, wrJ_I, wrR_I, wrR_J], by simp (disch := omega) only [wrI_s, wrI_r, wrI_j, wrJ_s, wrJ_r, wrJ_j, wrI_J, wrJ_I, wrR_I, wrR_J]⟩
    have g : ¬ mJ M 15 (nI i + 1).toNatClampNeg = -1 := by
      rw [e1, c1, t1.1, hc, eq64, sJ_t]
      show ¬ sat (some r) = -1
      simp only [sat]; split <;> omega
    apply s_X1_goThrough_0 (M1 := M) (M2 := M) (M3 := M) (M4 := M) (M5 := M) (M6 := wrJ M 15 i (sJ (pl W Fb.1))) (M7 := wrJ M 15 i (sJ (pl W Fb.1))) (M8 := wrJ M 15 i (sJ (pl W Fb.1))) (M9 := M) (M10 := M) (M11 := M) (M12 := M) (x101 := sJ (rp F1.1 (dA D i).toNat)) (x102 := sJ W) (x104 := sJ (rp (some r) ((dA D i).toNat - 1))) (x105 := sJ (pl (own D ct i) (some (r * ((dA D i).toNat - 1))))) (x106 := sJ (pl W Fb.1)) (x107 := sJ (pl W Fb.2)) (x108 := sJ (pl (pl (own D ct i) (some (r * ((dA D i).toNat - 1)))) F1.2)) (x109 := sJ (mx (pl W Fb.2) (pl (pl (own D ct i) (some (r * ((dA D i).toNat - 1)))) F1.2))) (x110 := 0) (x111 := 0) (x112 := 0) (x113 := 0) hS h.1.1.1
    case b1 => rw [e1]; exact in_n (by omega) (by omega)
    case b2 => exact in_n (by omega) (by omega)
    case c3 => rw [e1, c1, ck, t1.1, ea]; exact hr
    case c4 => exact hp1
    case c5 => intros; rw [e1, c1, ck, t1.1, ea1, hc]; exact hr2
    case c6 => intros; exact hp5
    case b7 => intros; rw [ck, eb]; exact in_n (by omega) (by omega)
    case c8 => intros; rw [ck, eb, cb, tb.1]; exact hp2
    case b9 => intros; exact in_n (by omega) (by omega)
    case c10 => intros; rw [ck, eb, cb, tb.2]; exact hp3
    case c11 => intros; rw [e1, c1]; simp (disch := omega) only [wrI_s, wrI_r, wrI_j, wrJ_s, wrJ_r, wrJ_j, wrI_J, wrJ_I, wrR_I, wrR_J]; rw [t1.2]; exact hp4
    case c12 => intros; exact hg
    case k13 => intros; rw [ck]; exact ⟨rfl, rfl⟩
    all_goals (intro z; exact absurd z g)
theorem v_lengthen {M : AM} {i : Nat} (hS : St M) (h : BX M m mr D ct T) (hi : i < dn D) (h0 : 0 ≤ HH D i) (hT : TB M D ct T (i + 1)) (h15 : mJ M 15 i = -1) (h16 : mJ M 16 i = -1) : ∃ M', Ev K_X1_lengthen [aR (some 12), aR (some m), aI (nI i)] M none M' ∧ Ag (S15 i) M M' ∧ mJ M' 15 i = sJ (lens D ct T i (FF2 D ct T)).1 ∧ mJ M' 16 i = sJ (lens D ct T i (FF2 D ct T)).2 := by
  have hN := h.1.1.2.2
  have hff := h.2.2.2.1.ff hi
  have h58 := h.1.1.1.1
  have hd := h.1.ds h.2.1
  have ck := cl_n (n := i) (by omega)
  have ho := (h.1.2.1 i hi).1
  have ha := (h.1.2.1 i hi).2
  have fo := ffo hff
  have e1 : nI i + 1 = nI (i + 1) := nI_1 i
  have hco := v_costOf (x := mI M (m + 1) i) hS (by omega) (by omega)
  rw [ho, (h.2.2.2.2.1 (dO D i).toNat (by omega)).1] at hco
  have hct := (h.2.2.2.2.1 (dO D i).toNat (by omega)).2
  have ex : (nI (ct (dO D i).toNat)).toInt64 = sJ (own D ct i) := n64s (by omega)
  have gt : ∀ (o : Option Nat) (t : Nat), i < t → t ≤ dn D → Ev K_X1_goTo [aR (some 12), aI (nI i), aJ (sJ o), aI (nI t)] M none (wrJ (wrJ M 15 i (sJ (pl o (FF2 D ct T t).1))) 16 i (sJ (pl o (FF2 D ct T t).2))) := fun o t q1 q2 => by
    have := v_goTo (i := i) (t := t) (o := o) (e := (none, none)) (g := FF2 D ct T t) hS (by omega) (by omega) (by omega) (hT t (by omega) q2).1 (hT t (by omega) q2).2 h15 h16
    rw [mx_n, mx_n] at this
    exact this
  have A2 : ∀ x y : Int64, Ag (S15 i) M (wrJ (wrJ M 15 i x) 16 i y) := fun x y => (Ag.rf.wJ ⟨Or.inl rfl, rfl⟩).wJ ⟨Or.inr rfl, rfl⟩
  by_cases o17 : dO D i = 17
  · have eL : lens D ct T i (FF2 D ct T) = (none, own D ct i) := by unfold lens; rw [if_pos o17]
    rw [eL]
    refine ⟨wrJ M 16 i (sJ (own D ct i)), ?_, Ag.rf.wJ ⟨Or.inr rfl, rfl⟩, by simp (disch := omega) only [wrI_s, wrI_r, wrI_j, wrJ_s, wrJ_r, wrJ_j, wrI_J, wrJ_I, wrR_I, wrR_J]; exact h15, by simp (disch := omega) only [wrI_s, wrI_r, wrI_j, wrJ_s, wrJ_r, wrJ_j, wrI_J, wrJ_I, wrR_I, wrR_J]⟩
    apply s_X1_lengthen_0 (M1 := M) (M2 := M) (M3 := M) (M4 := M) (M5 := M) (M6 := M) (M7 := M) (M8 := M) (M9 := M) (M10 := M) (x101 := nI (ct (dO D i).toNat)) (x108 := 0) (x109 := 0) hS h.1.1.1
    case b1 => exact in_n (by omega) (by omega)
    case c2 => rw [ck]; exact hco
    case b18 => intros; exact in_n (by omega) (by omega)
    case k19 => intros; rw [ck, ex]; exact ⟨rfl, rfl⟩
    all_goals (clear hco gt A2; intros; exfalso; simp only [lt32, le32, eq32, lt64, le64, eq64, Int32.reduceToInt, Int64.reduceToInt, ck, ho] at *; omega)
  by_cases o15 : dO D i = 15
  · have eL : lens D ct T i (FF2 D ct T) = (own D ct i, none) := by unfold lens; rw [if_neg o17, if_pos o15]
    rw [eL]
    refine ⟨wrJ M 15 i (sJ (own D ct i)), ?_, Ag.rf.wJ ⟨Or.inl rfl, rfl⟩, by simp (disch := omega) only [wrI_s, wrI_r, wrI_j, wrJ_s, wrJ_r, wrJ_j, wrI_J, wrJ_I, wrR_I, wrR_J], by simp (disch := omega) only [wrI_s, wrI_r, wrI_j, wrJ_s, wrJ_r, wrJ_j, wrI_J, wrJ_I, wrR_I, wrR_J]; exact h16⟩
    apply s_X1_lengthen_0 (M1 := M) (M2 := M) (M3 := M) (M4 := M) (M5 := M) (M6 := M) (M7 := M) (M8 := M) (M9 := M) (M10 := M) (x101 := nI (ct (dO D i).toNat)) (x108 := 0) (x109 := 0) hS h.1.1.1
    case b1 => exact in_n (by omega) (by omega)
    case c2 => rw [ck]; exact hco
    case b12 => intros; exact in_n (by omega) (by omega)
    case k13 => intros; rw [ck, ex]; exact ⟨rfl, rfl⟩
    all_goals (clear hco gt A2; intros; exfalso; simp only [lt32, le32, eq32, lt64, le64, eq64, Int32.reduceToInt, Int64.reduceToInt, ck, ho] at *; omega)
  by_cases o12 : dO D i = 12
  · have fj := ffj hff (Or.inl o12)
    have eL : lens D ct T i (FF2 D ct T) = pl2 (own D ct i) (FF2 D ct T (dA D i).toNat) := by unfold lens; rw [if_neg o17, if_neg o15, if_pos o12]
    rw [eL]
    refine ⟨_, ?_, A2 (sJ (pl (own D ct i) (FF2 D ct T (dA D i).toNat).1)) (sJ (pl (own D ct i) (FF2 D ct T (dA D i).toNat).2)), by simp (disch := omega) only [wrI_s, wrI_r, wrI_j, wrJ_s, wrJ_r, wrJ_j, wrI_J, wrJ_I, wrR_I, wrR_J]; rfl, by simp (disch := omega) only [wrI_s, wrI_r, wrI_j, wrJ_s, wrJ_r, wrJ_j, wrI_J, wrJ_I, wrR_I, wrR_J]; rfl⟩
    apply s_X1_lengthen_0 (M1 := M) (M2 := wrJ (wrJ M 15 i (sJ (pl (own D ct i) (FF2 D ct T (dA D i).toNat).1))) 16 i (sJ (pl (own D ct i) (FF2 D ct T (dA D i).toNat).2))) (M3 := M) (M4 := M) (M5 := M) (M6 := M) (M7 := M) (M8 := M) (M9 := M) (M10 := M) (x101 := nI (ct (dO D i).toNat)) (x108 := 0) (x109 := 0) hS h.1.1.1
    case b1 => exact in_n (by omega) (by omega)
    case c2 => rw [ck]; exact hco
    case c3 => intros; rw [ck, ex, x_l (by omega) (by omega), ha]; exact gt _ _ (by omega) (by omega)
    case k4 => intros; exact ⟨rfl, rfl⟩
    all_goals (clear hco gt A2; intros; exfalso; simp only [lt32, le32, eq32, lt64, le64, eq64, Int32.reduceToInt, Int64.reduceToInt, ck, ho] at *; omega)
  by_cases o13 : dO D i = 13
  · have fj := ffj hff (Or.inr o13)
    have eL : lens D ct T i (FF2 D ct T) = mx2 (pl2 (own D ct i) (FF2 D ct T (i + 1))) (pl2 (own D ct i) (FF2 D ct T (dA D i).toNat)) := by unfold lens; rw [if_neg o17, if_neg o15, if_neg o12, if_pos o13]
    rw [eL]
    have g1 := gt (own D ct i) (i + 1) (by omega) (by omega)
    have a1 := A2 (sJ (pl (own D ct i) (FF2 D ct T (i + 1)).1)) (sJ (pl (own D ct i) (FF2 D ct T (i + 1)).2))
    have tt := hT (dA D i).toNat (by omega) (by omega)
    have g2 := v_goTo (i := i) (t := (dA D i).toNat) (o := own D ct i) (e := pl2 (own D ct i) (FF2 D ct T (i + 1))) (g := FF2 D ct T (dA D i).toNat) (a1.st hS) (by omega) (by omega) (by omega) (by simp (disch := omega) only [wrI_s, wrI_r, wrI_j, wrJ_s, wrJ_r, wrJ_j, wrI_J, wrJ_I, wrR_I, wrR_J]; exact tt.1) (by simp (disch := omega) only [wrI_s, wrI_r, wrI_j, wrJ_s, wrJ_r, wrJ_j, wrI_J, wrJ_I, wrR_I, wrR_J]; exact tt.2) (by simp (disch := omega) only [wrI_s, wrI_r, wrI_j, wrJ_s, wrJ_r, wrJ_j, wrI_J, wrJ_I, wrR_I, wrR_J]; rfl) (by simp (disch := omega) only [wrI_s, wrI_r, wrI_j, wrJ_s, wrJ_r, wrJ_j, wrI_J, wrJ_I, wrR_I, wrR_J]; rfl)
    have a2 : Ag (S15 i) M (wrJ (wrJ (wrJ (wrJ M 15 i (sJ (pl (own D ct i) (FF2 D ct T (i + 1)).1))) 16 i (sJ (pl (own D ct i) (FF2 D ct T (i + 1)).2))) 15 i (sJ (mx (pl2 (own D ct i) (FF2 D ct T (i + 1))).1 (pl (own D ct i) (FF2 D ct T (dA D i).toNat).1)))) 16 i (sJ (mx (pl2 (own D ct i) (FF2 D ct T (i + 1))).2 (pl (own D ct i) (FF2 D ct T (dA D i).toNat).2)))) := (a1.wJ ⟨Or.inl rfl, rfl⟩).wJ ⟨Or.inr rfl, rfl⟩
    refine ⟨_, ?_, a2, by simp (disch := omega) only [wrI_s, wrI_r, wrI_j, wrJ_s, wrJ_r, wrJ_j, wrI_J, wrJ_I, wrR_I, wrR_J]; rfl, by simp (disch := omega) only [wrI_s, wrI_r, wrI_j, wrJ_s, wrJ_r, wrJ_j, wrI_J, wrJ_I, wrR_I, wrR_J]; rfl⟩
    apply s_X1_lengthen_0 (M1 := M) (M2 := M) (M3 := wrJ (wrJ M 15 i (sJ (pl (own D ct i) (FF2 D ct T (i + 1)).1))) 16 i (sJ (pl (own D ct i) (FF2 D ct T (i + 1)).2))) (M4 := _) (M5 := M) (M6 := M) (M7 := M) (M8 := M) (M9 := M) (M10 := M) (x101 := nI (ct (dO D i).toNat)) (x108 := 0) (x109 := 0) hS h.1.1.1
    case b1 => exact in_n (by omega) (by omega)
    case c2 => rw [ck]; exact hco
    case c5 => intros; rw [ex, e1]; exact g1
    case c6 => intros; rw [ck, ex]; simp (disch := omega) only [wrI_s, wrI_r, wrI_j, wrJ_s, wrJ_r, wrJ_j, wrI_J, wrJ_I, wrR_I, wrR_J]; rw [x_l (by omega) (by omega), ha]; exact g2
    case k7 => intros; exact ⟨rfl, rfl⟩
    all_goals (clear hco gt A2 g1 g2; intros; exfalso; simp only [lt32, le32, eq32, lt64, le64, eq64, Int32.reduceToInt, Int64.reduceToInt, ck, ho] at *; omega)
  by_cases o14 : dO D i = 14
  · have fl := ffl hff o14
    have bg := beh_gt hff o14
    by_cases a0 : 0 < dA D i
    · obtain ⟨M', c, hA, r1, r2⟩ := v_goThrough hS h hi o14 a0 hT
      refine ⟨M', ?_, hA, r1, r2⟩
      apply s_X1_lengthen_0 (M1 := M) (M2 := M) (M3 := M) (M4 := M) (M5 := M) (M6 := M') (M7 := M) (M8 := M) (M9 := M) (M10 := M) (x101 := nI (ct (dO D i).toNat)) (x108 := 0) (x109 := 0) hS h.1.1.1
      case b1 => exact in_n (by omega) (by omega)
      case c2 => rw [ck]; exact hco
      case c10 => intros; rw [ex]; exact c
      case k11 => intros; exact ⟨rfl, rfl⟩
      all_goals (clear hco gt A2 c r1 r2; intros; exfalso; simp only [lt32, le32, eq32, lt64, le64, eq64, Int32.reduceToInt, Int64.reduceToInt, ck, ho, ha] at *; omega)
    · have e3 := (h.2.2.1.2.2 h.2.2.2.1 i hi).2
      have eb : mI M (m + 3) i + 1 = nI (beh D i) := by
        rw [iI_e e3, show (1 : Int32) = iI 1 from rfl, iI_add, nI_i (by omega)]
        congr 1
        unfold beh
        omega
      have eL : lens D ct T i (FF2 D ct T) = pl2 (own D ct i) (FF2 D ct T (beh D i)) := by unfold lens; rw [if_neg o17, if_neg o15, if_neg o12, if_neg o13, if_pos o14, if_neg a0]
      rw [eL]
      refine ⟨_, ?_, A2 (sJ (pl (own D ct i) (FF2 D ct T (beh D i)).1)) (sJ (pl (own D ct i) (FF2 D ct T (beh D i)).2)), by simp (disch := omega) only [wrI_s, wrI_r, wrI_j, wrJ_s, wrJ_r, wrJ_j, wrI_J, wrJ_I, wrR_I, wrR_J]; rfl, by simp (disch := omega) only [wrI_s, wrI_r, wrI_j, wrJ_s, wrJ_r, wrJ_j, wrI_J, wrJ_I, wrR_I, wrR_J]; rfl⟩
      apply s_X1_lengthen_0 (M1 := M) (M2 := M) (M3 := M) (M4 := M) (M5 := wrJ (wrJ M 15 i (sJ (pl (own D ct i) (FF2 D ct T (beh D i)).1))) 16 i (sJ (pl (own D ct i) (FF2 D ct T (beh D i)).2))) (M6 := M) (M7 := M) (M8 := M) (M9 := M) (M10 := M) (x101 := nI (ct (dO D i).toNat)) (x108 := 0) (x109 := 0) hS h.1.1.1
      case b1 => exact in_n (by omega) (by omega)
      case c2 => rw [ck]; exact hco
      case c8 => intros; rw [ck, ex, eb]; exact gt _ _ (by omega) (by omega)
      case k9 => intros; exact ⟨rfl, rfl⟩
      all_goals (clear hco gt A2; intros; exfalso; simp only [lt32, le32, eq32, lt64, le64, eq64, Int32.reduceToInt, Int64.reduceToInt, ck, ho, ha] at *; omega)
  by_cases o16 : dO D i = 16
  · have eL : lens D ct T i (FF2 D ct T) = pl2 (pl (own D ct i) (T (dA D i).toNat)) (FF2 D ct T (i + 1)) := by unfold lens; rw [if_neg o17, if_neg o15, if_neg o12, if_neg o13, if_neg o14, if_pos o16]
    rw [eL]
    have tc := v_timeOfCall hS h hi h0 o16
    have pc' := v_plus1 hS (own D ct i) (T (dA D i).toNat)
    refine ⟨_, ?_, A2 (sJ (pl (pl (own D ct i) (T (dA D i).toNat)) (FF2 D ct T (i + 1)).1)) (sJ (pl (pl (own D ct i) (T (dA D i).toNat)) (FF2 D ct T (i + 1)).2)), by simp (disch := omega) only [wrI_s, wrI_r, wrI_j, wrJ_s, wrJ_r, wrJ_j, wrI_J, wrJ_I, wrR_I, wrR_J]; rfl, by simp (disch := omega) only [wrI_s, wrI_r, wrI_j, wrJ_s, wrJ_r, wrJ_j, wrI_J, wrJ_I, wrR_I, wrR_J]; rfl⟩
    apply s_X1_lengthen_0 (M1 := M) (M2 := M) (M3 := M) (M4 := M) (M5 := M) (M6 := M) (M7 := M) (M8 := M) (M9 := wrJ (wrJ M 15 i (sJ (pl (pl (own D ct i) (T (dA D i).toNat)) (FF2 D ct T (i + 1)).1))) 16 i (sJ (pl (pl (own D ct i) (T (dA D i).toNat)) (FF2 D ct T (i + 1)).2))) (M10 := M) (x101 := nI (ct (dO D i).toNat)) (x108 := sJ (T (dA D i).toNat)) (x109 := sJ (pl (own D ct i) (T (dA D i).toNat))) hS h.1.1.1
    case b1 => exact in_n (by omega) (by omega)
    case c2 => rw [ck]; exact hco
    case c14 => intros; exact tc
    case c15 => intros; rw [ex]; exact pc'
    case c16 => intros; rw [e1]; exact gt _ _ (by omega) (by omega)
    case k17 => intros; exact ⟨rfl, rfl⟩
    all_goals (clear hco gt A2 tc pc'; intros; exfalso; simp only [lt32, le32, eq32, lt64, le64, eq64, Int32.reduceToInt, Int64.reduceToInt, ck, ho] at *; omega)
  · have eL : lens D ct T i (FF2 D ct T) = pl2 (own D ct i) (FF2 D ct T (i + 1)) := by unfold lens; rw [if_neg o17, if_neg o15, if_neg o12, if_neg o13, if_neg o14, if_neg o16]
    rw [eL]
    refine ⟨_, ?_, A2 (sJ (pl (own D ct i) (FF2 D ct T (i + 1)).1)) (sJ (pl (own D ct i) (FF2 D ct T (i + 1)).2)), by simp (disch := omega) only [wrI_s, wrI_r, wrI_j, wrJ_s, wrJ_r, wrJ_j, wrI_J, wrJ_I, wrR_I, wrR_J]; rfl, by simp (disch := omega) only [wrI_s, wrI_r, wrI_j, wrJ_s, wrJ_r, wrJ_j, wrI_J, wrJ_I, wrR_I, wrR_J]; rfl⟩
    apply s_X1_lengthen_0 (M1 := M) (M2 := M) (M3 := M) (M4 := M) (M5 := M) (M6 := M) (M7 := M) (M8 := M) (M9 := M) (M10 := wrJ (wrJ M 15 i (sJ (pl (own D ct i) (FF2 D ct T (i + 1)).1))) 16 i (sJ (pl (own D ct i) (FF2 D ct T (i + 1)).2))) (x101 := nI (ct (dO D i).toNat)) (x108 := 0) (x109 := 0) hS h.1.1.1
    case b1 => exact in_n (by omega) (by omega)
    case c2 => rw [ck]; exact hco
    case c20 => intros; rw [ex, e1]; exact gt _ _ (by omega) (by omega)
    case k21 => intros; exact ⟨rfl, rfl⟩
    all_goals (clear hco gt A2; intros; exfalso; simp only [lt32, le32, eq32, lt64, le64, eq64, Int32.reduceToInt, Int64.reduceToInt, ck, ho] at *; omega)
theorem l_timeOf : ∀ (k : Nat) (M : AM), k ≤ dn D → St M → BX M m mr D ct T → TB M D ct T k → ∃ M', E K_X1_timeOf 31 [some (aR (some 12)), some (aR (some m)), some (aI (iI ((k : Int) - 1)))] [] M (some (aJ (sJ (FF2 D ct T 0).2))) M' ∧ Ag S1516 M M' := by
  intro k
  induction k with
  | zero =>
    intro M hk hS h hT
    refine ⟨M, ?_, Ag.rf⟩
    have g : iI (((0 : Nat) : Int) - 1) < 0 := by decide
    apply s_X1_timeOf_31 (M1 := M) (M2 := M) (x102 := 0) hS h.1.1.1
    case b1 => intro _; exact in_n (n := 0) (by omega) (by omega)
    case k2 => intro _; exact ⟨by rw [show (0 : Int32).toNatClampNeg = 0 from rfl, (hT 0 (by omega) (by omega)).2], rfl⟩
    all_goals (intro z; exact absurd g z)
  | succ k ih =>
    intro M hk hS h hT
    have hN := h.1.1.2.2
    have ek : iI (((k + 1 : Nat) : Int) - 1) = nI k := by rw [nI_i (by omega)]; congr 1; omega
    have ek2 : nI k + (-1) = iI ((k : Int) - 1) := by rw [nI_i (by omega), show (-1 : Int32) = iI (-1) from rfl, iI_add]; congr 1
    have ck := cl_n (n := k) (by omega)
    rw [ek]
    have g : ¬ nI k < 0 := nlt0 (by omega)
    have hd := h.1.ds h.2.1
    have hR := h.2.2.2.1.r hd (i := k) (by omega)
    have a1 : Ag (S15 k) M (wrJ (wrJ M 15 k (-1)) 16 k (-1)) := (Ag.rf.wJ ⟨Or.inl rfl, rfl⟩).wJ ⟨Or.inr rfl, rfl⟩
    have a1' : Ag S1516 M (wrJ (wrJ M 15 k (-1)) 16 k (-1)) := a1.mo (fun r j z => z.1)
    have hB1 := h.ag a1'
    have hT1 : TB (wrJ (wrJ M 15 k (-1)) 16 k (-1)) D ct T (k + 1) := fun p h1 h2 => by simp (disch := omega) only [wrI_s, wrI_r, wrI_j, wrJ_s, wrJ_r, wrJ_j, wrI_J, wrJ_I, wrR_I, wrR_J]; exact hT p h1 h2
    have hm := v_isMet (a1.st hS) hB1.1.1 (i := k) (by omega)
    have eh : (mI (wrJ (wrJ M 15 k (-1)) 16 k (-1)) (m + 4) k).toInt = HH D k := (hB1.2.2.1.2.2 h.2.2.2.1 k (by omega)).1
    by_cases c : 0 ≤ HH D k
    · rw [if_neg (by rw [eq32, eh]; show ¬ HH D k = -1; omega)] at hm
      obtain ⟨M2, c2, a2, r1, r2⟩ := v_lengthen (a1.st hS) hB1 (i := k) (by omega) c hT1 (by simp (disch := omega) only [wrI_s, wrI_r, wrI_j, wrJ_s, wrJ_r, wrJ_j, wrI_J, wrJ_I, wrR_I, wrR_J]) (by simp (disch := omega) only [wrI_s, wrI_r, wrI_j, wrJ_s, wrJ_r, wrJ_j, wrI_J, wrJ_I, wrR_I, wrR_J])
      have a2' : Ag S1516 _ M2 := a2.mo (fun r j z => z.1)
      have hT2 : TB M2 D ct T k := fun p h1 h2 => by
        by_cases e : p = k
        · rw [e, FF2.eq h.2.2.2.1.all.1 ⟨by omega, c⟩]; exact ⟨r1, r2⟩
        · rw [a2.j (by unfold S15; omega), a2.j (by unfold S15; omega)]; exact hT1 p (by omega) h2
      obtain ⟨M', hE, hA⟩ := ih M2 (by omega) ((a1.tr a2).st hS) (hB1.ag a2') hT2
      refine ⟨M', ?_, (a1'.tr a2').tr hA⟩
      apply s_X1_timeOf_31 (M1 := wrJ (wrJ M 15 k (-1)) 16 k (-1)) (M2 := M2) (x102 := 1) hS h.1.1.1
      case b1 => intro z; exact absurd z g
      case k2 => intro z; exact absurd z g
      case b3 => intros; exact in_n (by omega) (by omega)
      case c4 => intros; rw [ck]; exact hm
      case k5 => intro _ z; exact absurd z (by decide)
      case c6 => intros; exact c2
      case k7 => intros; rw [ek2]; exact hE
    · rw [if_pos (by rw [eq32, eh]; show HH D k = -1; omega)] at hm
      have hT2 : TB (wrJ (wrJ M 15 k (-1)) 16 k (-1)) D ct T k := fun p h1 h2 => by
        by_cases e : p = k
        · rw [e, FF2.un (by omega)]; exact ⟨by simp (disch := omega) only [wrI_s, wrI_r, wrI_j, wrJ_s, wrJ_r, wrJ_j, wrI_J, wrJ_I, wrR_I, wrR_J]; rfl, by simp (disch := omega) only [wrI_s, wrI_r, wrI_j, wrJ_s, wrJ_r, wrJ_j, wrI_J, wrJ_I, wrR_I, wrR_J]; rfl⟩
        · exact hT1 p (by omega) h2
      obtain ⟨M', hE, hA⟩ := ih _ (by omega) (a1.st hS) hB1 hT2
      refine ⟨M', ?_, a1'.tr hA⟩
      apply s_X1_timeOf_31 (M1 := wrJ (wrJ M 15 k (-1)) 16 k (-1)) (M2 := M) (x102 := 0) hS h.1.1.1
      case b1 => intro z; exact absurd z g
      case k2 => intro z; exact absurd z g
      case b3 => intros; exact in_n (by omega) (by omega)
      case c4 => intros; rw [ck]; exact hm
      case k5 => intros; rw [ek2]; exact hE
      all_goals (intro _ z; exact absurd rfl z)
theorem v_timeOf {M : AM} (hS : St M) (h : BX M m mr D ct T) : ∃ M', Ev K_X1_timeOf [aR (some 12), aR (some m)] M (some (aJ (sJ (FF2 D ct T 0).2))) M' ∧ Ag S1516 M M' := by
  have hN := h.1.1.2.2
  have cn := cl_n (n := dn D) (by omega)
  have a1 : Ag S1516 M (wrJ (wrJ M 15 (dn D) (-1)) 16 (dn D) (-1)) := (Ag.rf.wJ (Or.inl rfl)).wJ (Or.inr rfl)
  obtain ⟨M', hE, hA⟩ := l_timeOf (D := D) (ct := ct) (T := T) (mr := mr) (m := m) (dn D) _ (Nat.le_refl _) (a1.st hS) (h.ag a1) (fun p h1 h2 => by
    have e : p = dn D := by omega
    rw [e, FF2.un (by omega)]
    exact ⟨by simp (disch := omega) only [wrI_s, wrI_r, wrI_j, wrJ_s, wrJ_r, wrJ_j, wrI_J, wrJ_I, wrR_I, wrR_J]; rfl, by simp (disch := omega) only [wrI_s, wrI_r, wrI_j, wrJ_s, wrJ_r, wrJ_j, wrI_J, wrJ_I, wrR_I, wrR_J]; rfl⟩)
  refine ⟨M', ?_, a1.tr hA⟩
  apply s_X1_timeOf_0 hS h.1.1.1
  case b1 => rw [h.1.1.2.1]; exact in_n (by omega) (by omega)
  case k2 =>
    rw [h.1.1.2.1, cn]
    have : nI (dn D) - 1 = iI ((dn D : Int) - 1) := by rw [nI_i (by omega), show (1 : Int32) = iI 1 from rfl, iI_sub]
    rw [this]
    exact hE
end LEN
