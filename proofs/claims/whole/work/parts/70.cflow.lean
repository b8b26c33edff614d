/-! ===== PURE: the class's flow, enter, leave ===== -/
def fT (F : Fr) (i l : Nat) (t : Nat → Int) : Fr := ((Fj F, i, Fh F, l), Fw F, t)
/-- the frame behind a JUMP, IFNOT, LOOP or END -/
def gf (D : DD) (F : Fr) : Fr :=
  if dO D (Fi F) = 12 then fN F (dA D (Fi F)).toNat
  else if dO D (Fi F) = 13 then fN (fQ F) (if Fw F (dL D + Fh F - 1) = 0 then (dA D (Fi F)).toNat else Fi F + 1)
  else if dO D (Fi F) = 14 then (if dA D (Fi F) = 0 then fN F (beh D (Fi F)) else fT F (Fi F + 1) (Fl F + 1) (up1 (Ft F) (Fl F) (dA D (Fi F))))
  else if 0 < Ft F (Fl F - 1) - 1 then fT F (beh D (Fi F)) (Fl F) (up1 (Ft F) (Fl F - 1) (Ft F (Fl F - 1) - 1))
  else fT F (Fi F + 1) (Fl F - 1) (Ft F)
section CLS
variable {P : PG} {mr : Nat → Nat}
theorem CSt.n {M : AM} {F : Fr} {r : List Fr} (h : CSt P mr M F r) (k : Nat) : CSt P mr (wrI M 22 r.length (nI k)) (fN F k) r := by
  obtain ⟨h1, h2, h3, ⟨g1, g2, g3, g4, g5, g6⟩, g⟩ := h
  have a : Aq (SH (sz P r) (lz r) r.length) M (wrI M 22 r.length (nI k)) := Aq.rf.wI (by unfold SH; omega)
  refine ⟨?_, ?_, ?_, ⟨?_, ?_, ?_, ?_, ?_, ?_⟩, g.sh a⟩
  · simp (disch := omega) only [wrI_s, wrI_r, wrI_j, wrJ_s, wrJ_r, wrJ_j, wrI_J, wrJ_I, wrR_I, wrR_J]; exact h1
  · simp (disch := omega) only [wrI_s, wrI_r, wrI_j, wrJ_s, wrJ_r, wrJ_j, wrI_J, wrJ_I, wrR_I, wrR_J]; exact h2
  · simp (disch := omega) only [wrI_s, wrI_r, wrI_j, wrJ_s, wrJ_r, wrJ_j, wrI_J, wrJ_I, wrR_I, wrR_J]; exact h3
  · exact g1
  · rw [wrI_s]
  · simp (disch := omega) only [wrI_s, wrI_r, wrI_j, wrJ_s, wrJ_r, wrJ_j, wrI_J, wrJ_I, wrR_I, wrR_J]; exact g3
  · simp (disch := omega) only [wrI_s, wrI_r, wrI_j, wrJ_s, wrJ_r, wrJ_j, wrI_J, wrJ_I, wrR_I, wrR_J]; exact g4
  · exact g5
  · intro k hk; simp (disch := omega) only [wrI_s, wrI_r, wrI_j, wrJ_s, wrJ_r, wrJ_j, wrI_J, wrJ_I, wrR_I, wrR_J]; exact g6 k hk
theorem v_opens {M : AM} {F : Fr} {r : List Fr} {x : Int32} (hS : St M) (h : CSt P mr M F r) (hr : Rm P F r) (hl : Fl F < 8) (hx : 0 < x.toInt) : ∃ M', Ev K_X3_opensLoop [aR (some 18), aI x] M (some (aI 1)) M' ∧ CSt P mr M' (fT F (Fi F) (Fl F + 1) (up1 (Ft F) (Fl F) x.toInt)) r ∧ Aq (SH (sz P r) (lz r) r.length) M M' := by
  obtain ⟨r1, r2, r3, r4, r5, r6⟩ := hr
  obtain ⟨h1, h2, h3, ⟨g1, g2, g3, g4, g5, g6⟩, g⟩ := h
  have c9 := cl_n (n := lz r + Fl F) (by omega)
  have e9 := ci (lz r + Fl F) (by omega)
  have a : Aq (SH (sz P r) (lz r) r.length) M (wrI (wrI M 20 (lz r + Fl F) x) 18 9 (nI (lz r + Fl F + 1))) := (Aq.rf.wI (by unfold SH; omega)).wI (by unfold SH; omega)
  refine ⟨_, ?_, ⟨?_, ?_, ?_, ⟨?_, ?_, ?_, ?_, ?_, ?_⟩, g.sh a⟩, a⟩
  · apply s_X3_opensLoop_0 hS
    case b2 => intros; rw [h3]; exact in_n (by omega) (by omega)
    case k3 => intros; refine ⟨rfl, ?_⟩; rw [h3, c9, nI_1]
    all_goals (intros; exfalso; simp only [lt32, le32, eq32, lt64, le64, eq64, Int32.reduceToInt, Int64.reduceToInt, h3, e9] at * <;> omega)
  · simp (disch := omega) only [wrI_s, wrI_r, wrI_j, wrJ_s, wrJ_r, wrJ_j, wrI_J, wrJ_I, wrR_I, wrR_J]; exact h1
  · simp (disch := omega) only [wrI_s, wrI_r, wrI_j, wrJ_s, wrJ_r, wrJ_j, wrI_J, wrJ_I, wrR_I, wrR_J]; exact h2
  · rw [wrI_s]; rfl
  · exact g1
  · simp (disch := omega) only [wrI_s, wrI_r, wrI_j, wrJ_s, wrJ_r, wrJ_j, wrI_J, wrJ_I, wrR_I, wrR_J]; exact g2
  · simp (disch := omega) only [wrI_s, wrI_r, wrI_j, wrJ_s, wrJ_r, wrJ_j, wrI_J, wrJ_I, wrR_I, wrR_J]; exact g3
  · simp (disch := omega) only [wrI_s, wrI_r, wrI_j, wrJ_s, wrJ_r, wrJ_j, wrI_J, wrJ_I, wrR_I, wrR_J]; exact g4
  · exact g5
  · intro k hk
    have hk' : k < Fl F + 1 := hk
    rw [wrI_r (by omega)]
    show _ = iI (up1 (Ft F) (Fl F) x.toInt k)
    unfold up1
    by_cases e : k = Fl F
    · rw [e, wrI_s, if_pos rfl]; exact iI_e rfl
    · rw [wrI_j (by omega), if_neg e]; exact g6 k (by omega)
theorem v_round {M : AM} {F : Fr} {r : List Fr} (hS : St M) (h : CSt P mr M F r) (hr : Rm P F r) (hl : 1 ≤ Fl F) (ht : 1 ≤ Ft F (Fl F - 1) ∧ Ft F (Fl F - 1) ≤ 1000000000) : ∃ M', Ev K_X3_goesRound [aR (some 18)] M (some (aI (if 0 < Ft F (Fl F - 1) - 1 then 1 else 0))) M' ∧ CSt P mr M' (if 0 < Ft F (Fl F - 1) - 1 then fT F (Fi F) (Fl F) (up1 (Ft F) (Fl F - 1) (Ft F (Fl F - 1) - 1)) else fT F (Fi F) (Fl F - 1) (Ft F)) r ∧ Aq (SH (sz P r) (lz r) r.length) M M' := by
  obtain ⟨r1, r2, r3, r4, r5, r6⟩ := hr
  obtain ⟨h1, h2, h3, ⟨g1, g2, g3, g4, g5, g6⟩, g⟩ := h
  have es : mI M 18 9 - 1 = nI (lz r + (Fl F - 1)) := by rw [h3, nI_s1 (by omega)]; congr 1; omega
  have c9 := cl_n (n := lz r + (Fl F - 1)) (by omega)
  have e9 := ci (lz r + Fl F) (by omega)
  have hv := g6 (Fl F - 1) (by omega)
  have ev : mI M 20 (lz r + (Fl F - 1)) - 1 = iI (Ft F (Fl F - 1) - 1) := by rw [hv]; exact iI_sub _ 1
  have et := iI_t (k := Ft F (Fl F - 1) - 1) (by omega) (by omega)
  by_cases z : 0 < Ft F (Fl F - 1) - 1
  · have a : Aq (SH (sz P r) (lz r) r.length) M (wrI M 20 (lz r + (Fl F - 1)) (iI (Ft F (Fl F - 1) - 1))) := Aq.rf.wI (by unfold SH; omega)
    simp only [if_pos z]
    refine ⟨_, ?_, ⟨?_, ?_, ?_, ⟨?_, ?_, ?_, ?_, ?_, ?_⟩, g.sh a⟩, a⟩
    · apply s_X3_goesRound_0 hS
      case b2 => intros; rw [es]; exact in_n (by omega) (by omega)
      case k4 => intros; refine ⟨rfl, ?_⟩; rw [es, c9, ev]
      all_goals (clear g5 g6; intros; exfalso; simp only [es, c9, ev, wrI_s] at *; simp only [lt32, le32, eq32, lt64, le64, eq64, Int32.reduceToInt, Int64.reduceToInt, h3, e9, et] at * <;> omega)
    · simp (disch := omega) only [wrI_s, wrI_r, wrI_j, wrJ_s, wrJ_r, wrJ_j, wrI_J, wrJ_I, wrR_I, wrR_J]; exact h1
    · simp (disch := omega) only [wrI_s, wrI_r, wrI_j, wrJ_s, wrJ_r, wrJ_j, wrI_J, wrJ_I, wrR_I, wrR_J]; exact h2
    · simp (disch := omega) only [wrI_s, wrI_r, wrI_j, wrJ_s, wrJ_r, wrJ_j, wrI_J, wrJ_I, wrR_I, wrR_J]; exact h3
    · exact g1
    · simp (disch := omega) only [wrI_s, wrI_r, wrI_j, wrJ_s, wrJ_r, wrJ_j, wrI_J, wrJ_I, wrR_I, wrR_J]; exact g2
    · simp (disch := omega) only [wrI_s, wrI_r, wrI_j, wrJ_s, wrJ_r, wrJ_j, wrI_J, wrJ_I, wrR_I, wrR_J]; exact g3
    · simp (disch := omega) only [wrI_s, wrI_r, wrI_j, wrJ_s, wrJ_r, wrJ_j, wrI_J, wrJ_I, wrR_I, wrR_J]; exact g4
    · exact g5
    · intro k hk
      have hk' : k < Fl F := hk
      show _ = iI (up1 (Ft F) (Fl F - 1) (Ft F (Fl F - 1) - 1) k)
      unfold up1
      by_cases e : k = Fl F - 1
      · rw [e, wrI_s, if_pos rfl]
      · rw [wrI_j (by omega), if_neg e]; exact g6 k hk'
  · have a : Aq (SH (sz P r) (lz r) r.length) M (wrI (wrI M 20 (lz r + (Fl F - 1)) (iI (Ft F (Fl F - 1) - 1))) 18 9 (nI (lz r + (Fl F - 1)))) := (Aq.rf.wI (by unfold SH; omega)).wI (by unfold SH; omega)
    simp only [if_neg z]
    refine ⟨_, ?_, ⟨?_, ?_, ?_, ⟨?_, ?_, ?_, ?_, ?_, ?_⟩, g.sh a⟩, a⟩
    · apply s_X3_goesRound_0 hS
      case b2 => intros; rw [es]; exact in_n (by omega) (by omega)
      case k3 => intros; refine ⟨rfl, ?_⟩; rw [es, c9, ev]
      all_goals (clear g5 g6; intros; exfalso; simp only [es, c9, ev, wrI_s] at *; simp only [lt32, le32, eq32, lt64, le64, eq64, Int32.reduceToInt, Int64.reduceToInt, h3, e9, et] at * <;> omega)
    · simp (disch := omega) only [wrI_s, wrI_r, wrI_j, wrJ_s, wrJ_r, wrJ_j, wrI_J, wrJ_I, wrR_I, wrR_J]; exact h1
    · simp (disch := omega) only [wrI_s, wrI_r, wrI_j, wrJ_s, wrJ_r, wrJ_j, wrI_J, wrJ_I, wrR_I, wrR_J]; exact h2
    · rw [wrI_s]; rfl
    · exact g1
    · simp (disch := omega) only [wrI_s, wrI_r, wrI_j, wrJ_s, wrJ_r, wrJ_j, wrI_J, wrJ_I, wrR_I, wrR_J]; exact g2
    · simp (disch := omega) only [wrI_s, wrI_r, wrI_j, wrJ_s, wrJ_r, wrJ_j, wrI_J, wrJ_I, wrR_I, wrR_J]; exact g3
    · simp (disch := omega) only [wrI_s, wrI_r, wrI_j, wrJ_s, wrJ_r, wrJ_j, wrI_J, wrJ_I, wrR_I, wrR_J]; exact g4
    · exact g5
    · intro k hk
      have hk' : k < Fl F - 1 := hk
      rw [wrI_r (by omega), wrI_j (by omega)]; exact g6 k (by omega)
/-- flow: the frame's next is behind already -/
theorem v_flow {M : AM} {F : Fr} {r : List Fr} {m : Nat} (hS : St M) (h : CSt P mr M (fN F (Fi F + 1)) r) (hr : Rm P F r) (hm : MC M m (DP P (Fj F))) (hg : CG M m (DP P (Fj F))) (hd : Sd (DP P (Fj F))) (hi : Fi F < pn P (Fj F)) (h12 : 12 ≤ po P (Fj F) (Fi F)) (h15 : po P (Fj F) (Fi F) ≤ 15)
    (k13 : po P (Fj F) (Fi F) = 13 → 1 ≤ Fh F) (k14 : po P (Fj F) (Fi F) = 14 → Fl F < 8) (k15 : po P (Fj F) (Fi F) = 15 → 1 ≤ Fl F ∧ 1 ≤ Ft F (Fl F - 1) ∧ Ft F (Fl F - 1) ≤ 1000000000) :
    ∃ M', Ev K_X3_flow [aR (some 18), aR (some m), aI (nI (Fi F))] M none M' ∧ CSt P mr M' (gf (DP P (Fj F)) F) r ∧ Aq (SH (sz P r) (lz r) r.length) M M' := by
  have hn : pn P (Fj F) ≤ 120 := hm.1.2.2
  have hB := hr
  obtain ⟨r1, r2, r3, r4, r5, r6⟩ := hB
  have hr1 : Rm P (fN F (Fi F + 1)) r := hr
  have ci' := cl_n (n := Fi F) (by omega)
  have c7 := cl_n (n := r.length) (by omega)
  have e7 := h.1
  have b7 : vp_in (mI M 18 7) 100 := by rw [e7]; exact in_n (by omega) (by omega)
  have ho : (mI M (m + 1) (Fi F)).toInt = po P (Fj F) (Fi F) := (hm.2.1 (Fi F) hi).1
  have ha : (mJ M (m + 2) (Fi F)).toInt = pa P (Fj F) (Fi F) := (hm.2.1 (Fi F) hi).2
  have hma : (mI M (m + 3) (Fi F)).toInt = mat (DP P (Fj F)) (pn P (Fj F)) (Fi F) := (hg.2.2 hd (Fi F) hi).2
  have hff := hd.ff (i := Fi F) hi
  have bI : vp_in (nI (Fi F)) 120 := in_n (by omega) (by omega)
  have b14 : po P (Fj F) (Fi F) = 14 ∨ po P (Fj F) (Fi F) = 15 → mI M (m + 3) (Fi F) + 1 = nI (beh (DP P (Fj F)) (Fi F)) := by
    intro z
    have := (ff0 hff).2.1 z
    have : 0 ≤ mat (DP P (Fj F)) (pn P (Fj F)) (Fi F) := this
    unfold beh
    show _ = nI ((mat (DP P (Fj F)) (pn P (Fj F)) (Fi F)).toNat + 1)
    rw [← nI_1, x_n (x := mI M (m + 3) (Fi F)) (by omega), hma]
  unfold gf
  rcases (by omega : po P (Fj F) (Fi F) = 12 ∨ po P (Fj F) (Fi F) = 13 ∨ po P (Fj F) (Fi F) = 14 ∨ po P (Fj F) (Fi F) = 15) with e | e | e | e
  · have e' : dO (DP P (Fj F)) (Fi F) = 12 := e
    have hj := ffj hff (Or.inl e')
    have hj1 : pa P (Fj F) (Fi F) < pn P (Fj F) := hj.2.1
    have hj0 : (Fi F : Int) < pa P (Fj F) (Fi F) := hj.1
    rw [if_pos e']
    refine ⟨wrI M 22 r.length (nI (pa P (Fj F) (Fi F)).toNat), ?_, h.n _, Aq.rf.wI (by unfold SH; omega)⟩
    apply s_X3_flow_0 (M1 := M) (M2 := M) (M3 := M) (x103 := 0) (x106 := 0) (x108 := 0) hS hm.1.1
    case b1 => exact bI
    case b2 => intros; exact b7
    case k3 => intros; refine ⟨rfl, ?_⟩; rw [e7, c7, ci', x_l (by omega) (by omega), ha]
    all_goals (clear k13 k14 k15 b14 hj hff hg; intros; exfalso; simp only [lt32, le32, eq32, lt64, le64, eq64, Int32.reduceToInt, Int64.reduceToInt, ci', ho] at * <;> omega)
  · have e' : dO (DP P (Fj F)) (Fi F) = 13 := e
    have hj := ffj hff (Or.inr e')
    have hj1 : pa P (Fj F) (Fi F) < pn P (Fj F) := hj.2.1
    have hj0 : (Fi F : Int) < pa P (Fj F) (Fi F) := hj.1
    rw [if_neg (by omega), if_pos e']
    obtain ⟨M1, hE, hC, hA⟩ := v_cpop hS h hr1 (k13 e)
    have hE' : Ev K_X3_pop [aR (some 18)] M (some (aJ (Fw F (pL P (Fj F) + Fh F - 1)))) M1 := hE
    by_cases z : Fw F (pL P (Fj F) + Fh F - 1) = 0
    · rw [if_pos (show Fw F (dL (DP P (Fj F)) + Fh F - 1) = 0 from z)]
      refine ⟨wrI M1 22 r.length (nI (pa P (Fj F) (Fi F)).toNat), ?_, hC.n _, hA.wI (by unfold SH; omega)⟩
      apply s_X3_flow_0 (M1 := M1) (M2 := M) (M3 := M) (x103 := Fw F (pL P (Fj F) + Fh F - 1)) (x106 := 0) (x108 := 0) hS hm.1.1
      case b1 => exact bI
      case c4 => intros; exact hE'
      case b7 => intros; exact b7
      case k8 => intros; refine ⟨rfl, ?_⟩; rw [e7, c7, ci', x_l (by omega) (by omega), ha]
      case b5 => intro _ _ g; exact absurd z g
      case k6 => intro _ _ g; exact absurd z g
      all_goals (clear k13 k14 k15 b14 hj hff hg z; intros; exfalso; simp only [lt32, le32, eq32, lt64, le64, eq64, Int32.reduceToInt, Int64.reduceToInt, ci', ho] at * <;> omega)
    · rw [if_neg (show ¬ Fw F (dL (DP P (Fj F)) + Fh F - 1) = 0 from z)]
      refine ⟨wrI M1 22 r.length (nI (Fi F + 1)), ?_, hC.n _, hA.wI (by unfold SH; omega)⟩
      apply s_X3_flow_0 (M1 := M1) (M2 := M) (M3 := M) (x103 := Fw F (pL P (Fj F) + Fh F - 1)) (x106 := 0) (x108 := 0) hS hm.1.1
      case b1 => exact bI
      case c4 => intros; exact hE'
      case b5 => intros; exact b7
      case k6 => intros; refine ⟨rfl, ?_⟩; rw [e7, c7, nI_1]
      case b7 => intro _ _ g; exact absurd g z
      case k8 => intro _ _ g; exact absurd g z
      all_goals (clear k13 k14 k15 b14 hj hff hg z; intros; exfalso; simp only [lt32, le32, eq32, lt64, le64, eq64, Int32.reduceToInt, Int64.reduceToInt, ci', ho] at * <;> omega)
  · have e' : dO (DP P (Fj F)) (Fi F) = 14 := e
    have hl := ffl hff e'
    have hl0 : 0 ≤ pa P (Fj F) (Fi F) := hl.1
    have hl1 : pa P (Fj F) (Fi F) ≤ 1000000000 := hl.2.1
    have hb := b14 (Or.inl e)
    rw [if_neg (by omega), if_neg (by omega), if_pos e']
    by_cases z : pa P (Fj F) (Fi F) = 0
    · rw [if_pos (show dA (DP P (Fj F)) (Fi F) = 0 from z)]
      refine ⟨wrI M 22 r.length (nI (beh (DP P (Fj F)) (Fi F))), ?_, h.n _, Aq.rf.wI (by unfold SH; omega)⟩
      have c0 : Ev K_X3_opensLoop [aR (some 18), aI (mJ M (m + 2) (nI (Fi F)).toNatClampNeg).toInt32] M (some (aI 0)) M := by
        rw [ci', x_l (by omega) (by omega), ha, z]
        apply s_X3_opensLoop_0 hS
        case k1 => intros; exact ⟨rfl, rfl⟩
        all_goals (intro g; exact absurd (by decide) g)
      apply s_X3_flow_0 (M1 := M) (M2 := M) (M3 := M) (x103 := 0) (x106 := 0) (x108 := 0) hS hm.1.1
      case b1 => exact bI
      case c9 => intros; exact c0
      case b10 => intros; exact b7
      case k11 => intros; refine ⟨rfl, ?_⟩; rw [e7, c7, ci', hb]
      case b12 => intro _ _ _ g; exact absurd rfl g
      case k13 => intro _ _ _ g; exact absurd rfl g
      all_goals (clear k13 k14 k15 b14 hl hff hg; intros; exfalso; simp only [lt32, le32, eq32, lt64, le64, eq64, Int32.reduceToInt, Int64.reduceToInt, ci', ho] at * <;> omega)
    · rw [if_neg (show ¬ dA (DP P (Fj F)) (Fi F) = 0 from z)]
      have hx : ((mJ M (m + 2) (Fi F)).toInt32).toInt = pa P (Fj F) (Fi F) := by rw [x_l (by omega) (by omega), ci _ (by omega), ha]; omega
      obtain ⟨M2, hE, hC, hA⟩ := v_opens (x := (mJ M (m + 2) (Fi F)).toInt32) hS h hr1 (k14 e) (by omega)
      rw [hx] at hC
      refine ⟨wrI M2 22 r.length (nI (Fi F + 1)), ?_, hC.n _, hA.wI (by unfold SH; omega)⟩
      apply s_X3_flow_0 (M1 := M) (M2 := M2) (M3 := M) (x103 := 0) (x106 := 1) (x108 := 0) hS hm.1.1
      case b1 => exact bI
      case c9 => intros; rw [ci']; exact hE
      case b12 => intros; exact b7
      case k13 => intros; refine ⟨rfl, ?_⟩; rw [e7, c7, nI_1]
      case b10 => intro _ _ _ g; exact absurd g (by decide)
      case k11 => intro _ _ _ g; exact absurd g (by decide)
      all_goals (clear k13 k14 k15 b14 hl hff hg; intros; exfalso; simp only [lt32, le32, eq32, lt64, le64, eq64, Int32.reduceToInt, Int64.reduceToInt, ci', ho] at * <;> omega)
  · have e' : dO (DP P (Fj F)) (Fi F) = 15 := e
    have hb := b14 (Or.inr e)
    have hk := k15 e
    rw [if_neg (by omega), if_neg (by omega), if_neg (by omega)]
    obtain ⟨M3, hE, hC, hA⟩ := v_round hS h hr1 hk.1 hk.2
    by_cases z : 0 < Ft F (Fl F - 1) - 1
    · rw [if_pos z]
      simp only [if_pos z] at hE hC
      refine ⟨wrI M3 22 r.length (nI (beh (DP P (Fj F)) (Fi F))), ?_, hC.n _, hA.wI (by unfold SH; omega)⟩
      apply s_X3_flow_0 (M1 := M) (M2 := M) (M3 := M3) (x103 := 0) (x106 := 0) (x108 := 1) hS hm.1.1
      case b1 => exact bI
      case c14 => intros; exact hE
      case b17 => intros; exact b7
      case k18 => intros; refine ⟨rfl, ?_⟩; rw [e7, c7, ci', hb]
      case b15 => intro _ _ _ g; exact absurd g (by decide)
      case k16 => intro _ _ _ g; exact absurd g (by decide)
      all_goals (clear k13 k14 k15 b14 hff hg z; intros; exfalso; simp only [lt32, le32, eq32, lt64, le64, eq64, Int32.reduceToInt, Int64.reduceToInt, ci', ho] at * <;> omega)
    · rw [if_neg z]
      simp only [if_neg z] at hE hC
      refine ⟨wrI M3 22 r.length (nI (Fi F + 1)), ?_, hC.n _, hA.wI (by unfold SH; omega)⟩
      apply s_X3_flow_0 (M1 := M) (M2 := M) (M3 := M3) (x103 := 0) (x106 := 0) (x108 := 0) hS hm.1.1
      case b1 => exact bI
      case c14 => intros; exact hE
      case b15 => intros; exact b7
      case k16 => intros; refine ⟨rfl, ?_⟩; rw [e7, c7, nI_1]
      case b17 => intro _ _ _ g; exact absurd rfl g
      case k18 => intro _ _ _ g; exact absurd rfl g
      all_goals (clear k13 k14 k15 b14 hff hg z; intros; exfalso; simp only [lt32, le32, eq32, lt64, le64, eq64, Int32.reduceToInt, Int64.reduceToInt, ci', ho] at * <;> omega)
end CLS
