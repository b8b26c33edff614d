/-! ===== PURE: the reference's brackets and forms ===== -/
theorem nI_mul (a b : Nat) : nI a * nI b = nI (a * b) := (Int32.ofNat_mul a b).symm
theorem ix (j i : Nat) : (120 : Int32) * nI j + nI i = nI (120 * j + i) := by
  show nI 120 * nI j + nI i = _
  rw [nI_mul, nI_add]
theorem cx {j i : Nat} (hj : j < 32) (hi : i < 121) : ((120 : Int32) * nI j + nI i).toNatClampNeg = 120 * j + i := by rw [ix, cl_n (by omega)]
theorem bx {j i : Nat} (hj : j < 32) (hi : i < 120) : vp_in ((120 : Int32) * nI j + nI i) 3840 := by rw [ix]; exact in_n (by omega) (by omega)
section MOD
variable {D : DD} {j : Nat}
/-- the reference's arrays hold the METHOD D as the j-th -/
def MM (M : AM) (j : Nat) (D : DD) : Prop := mI M 30 j = nI (dn D) ∧ (∀ i, i < dn D → (mI M 31 (120 * j + i)).toInt = dO D i ∧ (mJ M 32 (120 * j + i)).toInt = dA D i) ∧ mI M 28 j = nI (dR D) ∧ mI M 29 j = nI (dL D) ∧ (∀ k, k < dc D → mI M 27 k = nI (cA D k) ∧ mI M 28 k = nI (cR D k)) ∧ mI M 26 4 = nI (dc D) ∧ Ds D ∧ j < dc D
theorem MM.ag {S : Nat → Nat → Prop} {M M' : AM} (h : MM M j D) (a : Ag S M M') (hs : ∀ i, ¬ S 26 4 ∧ ¬ S 27 i ∧ ¬ S 28 i ∧ ¬ S 29 i ∧ ¬ S 30 i ∧ ¬ S 31 i ∧ ¬ S 32 i) : MM M' j D :=
  ⟨(a.i (hs _).2.2.2.2.1).trans h.1, fun i hi => by rw [a.i (hs _).2.2.2.2.2.1, a.j (hs _).2.2.2.2.2.2]; exact h.2.1 i hi, (a.i (hs _).2.2.1).trans h.2.2.1, (a.i (hs _).2.2.2.1).trans h.2.2.2.1, fun k hk => by rw [a.i (hs k).2.1, a.i (hs k).2.2.1]; exact h.2.2.2.2.1 k hk, (a.i (hs 0).1).trans h.2.2.2.2.2.1, h.2.2.2.2.2.2⟩
theorem MM.lj {M : AM} (h : MM M j D) : j < 32 := Nat.lt_of_lt_of_le h.2.2.2.2.2.2.2 h.2.2.2.2.2.2.1.2.2.2.1
theorem MM.ln {M : AM} (h : MM M j D) : dn D ≤ 120 := h.2.2.2.2.2.2.1.1
def Sb (j : Nat) : Nat → Nat → Prop := fun r i => (r = 35 ∨ r = 36 ∨ r = 37) ∧ 120 * j ≤ i ∧ i < 120 * j + 120
theorem MM.sb {M M' : AM} (h : MM M j D) (a : Ag (Sb j) M M') : MM M' j D := h.ag a (fun i => by unfold Sb; omega)
def BRi (D : DD) (j k : Nat) (M : AM) : Prop := ∀ i, i < k → (mI M 35 (120 * j + i)).toInt = ins D i ∧ (mI M 37 (120 * j + i)).toInt = dep D i ∧ (mI M 36 (120 * j + i)).toInt = mat D k i
theorem ins_r (k : Nat) : -1 ≤ ins D k ∧ ins D k < k ∨ ins D k = -1 := by
  unfold ins
  cases h : stk D k with
  | nil => exact Or.inr rfl
  | cons l t => have := stk_cons k h; simp only [hdI]; omega
theorem BRi.one {k : Nat} {M : AM} {d : Int32} (h : BRi D j k M) (hd : d.toInt = dep D k) (hk : k < 120) (hz : mat D (k + 1) = mat D k) : BRi D j (k + 1) (wrI (wrI (wrI M 35 (120 * j + k) (iI (ins D k))) 36 (120 * j + k) (-1)) 37 (120 * j + k) d) := fun i hi => by
  rw [hz]
  by_cases e : i = k
  · subst e
    have ms := mat_self (D := D) (k := i) (i := i) (Nat.le_refl i)
    have hi := ins_r (D := D) i
    have := iI_t (k := ins D i) (by omega) (by omega)
    simp (disch := omega) only [wrI_s, wrI_r, wrI_j, wrJ_s, wrJ_r, wrJ_j, wrI_J, wrJ_I, wrR_I, wrR_J, ms, hd, this]
    exact ⟨trivial, trivial, rfl⟩
  · simp (disch := omega) only [wrI_s, wrI_r, wrI_j, wrJ_s, wrJ_r, wrJ_j, wrI_J, wrJ_I, wrR_I, wrR_J]
    exact h i (by omega)
theorem BRi.pop {k l : Nat} {t : List Nat} {M : AM} {d : Int32} (h : BRi D j k M) (hd : d.toInt = dep D k) (hk : k < 120) (h15 : dO D k = 15) (hl : stk D k = l :: t) : BRi D j (k + 1) (wrI (wrI (wrI (wrI (wrI M 35 (120 * j + k) (iI (ins D k))) 36 (120 * j + k) (-1)) 37 (120 * j + k) d) 36 (120 * j + k) (iI (ins D k))) 36 (120 * j + l) (nI k)) := fun i hi => by
  have hlt := stk_cons k hl
  have hz : mat D (k + 1) = up1 (up1 (mat D k) k l) l k := by rw [mat, if_pos h15, hl]
  have hi' := ins_r (D := D) k
  have ei := iI_t (k := ins D k) (by omega) (by omega)
  have ek := ci k (by omega)
  have el : ins D k = l := by unfold ins; rw [hl]; rfl
  rw [hz]
  simp only [up1]
  by_cases e : i = k
  · subst e
    rw [if_neg (by omega), if_pos rfl]
    simp (disch := omega) only [wrI_s, wrI_r, wrI_j, wrJ_s, wrJ_r, wrJ_j, wrI_J, wrJ_I, wrR_I, wrR_J, hd, ei]
    exact ⟨trivial, trivial, el⟩
  · have := h i (by omega)
    by_cases e2 : i = l
    · subst e2
      rw [if_pos rfl]
      simp (disch := omega) only [wrI_s, wrI_r, wrI_j, wrJ_s, wrJ_r, wrJ_j, wrI_J, wrJ_I, wrR_I, wrR_J, ek, this.1, this.2.1]
      exact ⟨trivial, trivial, trivial⟩
    · rw [if_neg e2, if_neg e]
      simp (disch := omega) only [wrI_s, wrI_r, wrI_j, wrJ_s, wrJ_r, wrJ_j, wrI_J, wrJ_I, wrR_I, wrR_J]
      exact this
theorem Sb.w {r i j k : Nat} (h : (r = 35 ∨ r = 36 ∨ r = 37)) (hk : k < 120) (e : i = 120 * j + k) : Sb j r i := ⟨h, by omega, by omega⟩
theorem l_brackets : ∀ (f k : Nat) (M : AM), dn D - k = f → k ≤ dn D → St M → MM M j D → BRi D j k M → ∃ M', E K_X7_brackets 4 [some (aR (some 26)), some (aI (nI j)), some (aI (iI (ins D k))), some (aI (nI k)), none] [] M none M' ∧ Ag (Sb j) M M' ∧ BRi D j (dn D) M' := by
  intro f
  induction f with
  | zero =>
    intro k M hf hk hS h hP
    have e : k = dn D := by omega
    subst e
    have hj := h.lj
    have cj := cl_n (n := j) (by omega)
    refine ⟨M, ?_, Ag.rf, hP⟩
    have hg : mI M 30 (nI j).toNatClampNeg ≤ nI (dn D) := by rw [cj, h.1, le32]; omega
    apply s_X7_brackets_4 hS
    case b1 => exact in_n hj (by omega)
    case k2 => exact fun _ => ⟨rfl, rfl⟩
    all_goals (intro g; exact absurd hg g)
  | succ f ih =>
    intro k M hf hkn hS h hP
    have hN := h.ln
    have hj := h.lj
    have cj := cl_n (n := j) (by omega)
    have hk' : k < dn D := by omega
    have hg : ¬ mI M 30 (nI j).toNatClampNeg ≤ nI k := by rw [cj, h.1, le32, ci _ (by omega), ci _ (by omega)]; omega
    have ho := (h.2.1 k hk').1
    have ck := cx (j := j) (i := k) (by omega) (by omega)
    have e1 : nI k + 1 = nI (k + 1) := nI_1 k
    have b3 := bx (j := j) (i := k) (by omega) (by omega)
    have hir := ins_r (D := D) k
    have eir := iI_t (k := ins D k) (by omega) (by omega)
    have hdl := dep_le (D := D) k
    have fg : FG [some (aR (some 26)), some (aI (nI j)), some (aI (iI (ins D (k + 1)))), some (aI (nI (k + 1))), none] [some (aR (some 26)), some (aI (nI j)), some (aI (iI (ins D (k + 1)))), some (aI (nI (k + 1))), some (aI ((120 : Int32) * nI j + nI k))] := ⟨Or.inr rfl, Or.inr rfl, Or.inr rfl, Or.inr rfl, Or.inl rfl, trivial⟩
    have step : ∀ d : Int32, d.toInt = dep D k → mat D (k + 1) = mat D k → ∃ M', E K_X7_brackets 4 [some (aR (some 26)), some (aI (nI j)), some (aI (iI (ins D (k + 1)))), some (aI (nI (k + 1))), some (aI ((120 : Int32) * nI j + nI k))] [] (wrI (wrI (wrI M 35 (120 * j + k) (iI (ins D k))) 36 (120 * j + k) (-1)) 37 (120 * j + k) d) none M' ∧ Ag (Sb j) M M' ∧ BRi D j (dn D) M' := fun d hd hz => by
      have hA : Ag (Sb j) M (wrI (wrI (wrI M 35 (120 * j + k) (iI (ins D k))) 36 (120 * j + k) (-1)) 37 (120 * j + k) d) := ((Ag.rf.wI (Sb.w (by omega) (by omega) rfl)).wI (Sb.w (by omega) (by omega) rfl)).wI (Sb.w (by omega) (by omega) rfl)
      obtain ⟨M', hE, hA', hB⟩ := ih (k + 1) _ (by omega) (by omega) (hA.st hS) (h.sb hA) (hP.one hd (by omega) hz)
      exact ⟨M', hE.fg fg, hA.tr hA', hB⟩
    cases hs : stk D k with
    | nil =>
      have d0 : dep D k = 0 := by unfold dep; rw [hs]; rfl
      have i0 : ins D k = -1 := by unfold ins; rw [hs]; rfl
      have hz : mat D (k + 1) = mat D k := by
        rw [mat, hs]
        split <;> rfl
      obtain ⟨M', hE, hA, hB⟩ := step 0 (by rw [d0]; rfl) hz
      refine ⟨M', ?_, hA, hB⟩
      by_cases h14 : dO D k = 14
      · have ek : iI (ins D (k + 1)) = nI k := by
          rw [nI_i (by omega)]
          unfold ins
          rw [stk, if_pos h14]
          rfl
        rw [ek] at hE
        apply s_X7_brackets_4 hS
        case b1 => exact in_n hj (by omega)
        case b3 => intros; exact b3
        case k13 => intros; rw [ck, e1]; exact hE
        all_goals (clear hE hA hB step ih fg; intros; exfalso; simp only [lt32, le32, eq32, lt64, le64, eq64, Int32.reduceToInt, Int64.reduceToInt, ck, ho, eir] at *; first | omega | exact hg (by assumption))
      · have ek : ins D (k + 1) = ins D k := by
          unfold ins
          rw [stk, if_neg h14, hs]
          split <;> rfl
        rw [ek] at hE
        apply s_X7_brackets_4 hS
        case b1 => exact in_n hj (by omega)
        case b3 => intros; exact b3
        case k9 => intros; rw [ck, e1]; exact hE
        case k10 => intros; rw [ck, e1]; exact hE
        all_goals (clear hE hA hB step ih fg; intros; exfalso; simp only [lt32, le32, eq32, lt64, le64, eq64, Int32.reduceToInt, Int64.reduceToInt, ck, ho, eir] at *; first | omega | exact hg (by assumption))
    | cons l t =>
      have hl := stk_cons k hs
      have d0 : dep D k = dep D l + 1 := by unfold dep; rw [hs, hl.2.2]; rfl
      have i0 : ins D k = l := by unfold ins; rw [hs]; rfl
      have eil : iI (ins D k) = nI l := by rw [i0, nI_i (by omega)]
      have cl : ((120 : Int32) * nI j + iI (ins D k)).toNatClampNeg = 120 * j + l := by rw [eil]; exact cx (by omega) (by omega)
      have hBl := hP l hl.1
      have hdl' := dep_le (D := D) l
      have ed : (mI M 37 (120 * j + l) + 1).toInt = dep D k := by
        rw [iI_e hBl.2.1, show (1 : Int32) = iI 1 from rfl, iI_add, iI_t (by omega) (by omega)]
        omega
      have ei2 : mI (wrI M 35 (120 * j + k) (iI (ins D k))) 35 (120 * j + l) = iI (hdI t) := by
        rw [wrI_j (by omega), iI_e hBl.1]
        unfold ins
        rw [hl.2.2]
      by_cases h15 : dO D k = 15
      · have hA : Ag (Sb j) M (wrI (wrI (wrI (wrI (wrI M 35 (120 * j + k) (iI (ins D k))) 36 (120 * j + k) (-1)) 37 (120 * j + k) (mI M 37 (120 * j + l) + 1)) 36 (120 * j + k) (iI (ins D k))) 36 (120 * j + l) (nI k)) := ((((Ag.rf.wI (Sb.w (by omega) (by omega) rfl)).wI (Sb.w (by omega) (by omega) rfl)).wI (Sb.w (by omega) (by omega) rfl)).wI (Sb.w (by omega) (by omega) rfl)).wI (Sb.w (k := l) (by omega) (by omega) rfl)
        obtain ⟨M', hE, hA', hB⟩ := ih (k + 1) _ (by omega) (by omega) (hA.st hS) (h.sb hA) (hP.pop ed (by omega) h15 hs)
        refine ⟨M', ?_, hA.tr hA', hB⟩
        have ek : ins D (k + 1) = hdI t := by
          unfold ins
          rw [stk, if_neg (by omega), if_pos h15, hs]
          rfl
        have hE' := hE.fg fg
        rw [ek] at hE'
        apply s_X7_brackets_4 hS
        case b1 => exact in_n hj (by omega)
        case b3 => intros; exact b3
        case b4 => intros; rw [eil]; exact bx (by omega) (by omega)
        case b11 => intros; rw [eil]; exact bx (by omega) (by omega)
        case k7 => intros; rw [ck, e1, cl, ei2]; exact hE'
        all_goals (clear hE hE' hA' hA hB step ih fg; intros; exfalso; simp only [lt32, le32, eq32, lt64, le64, eq64, Int32.reduceToInt, Int64.reduceToInt, ck, ho, eir] at *; first | omega | exact hg (by assumption))
      · have hz : mat D (k + 1) = mat D k := by rw [mat, if_neg h15]
        obtain ⟨M', hE, hA, hB⟩ := step _ ed hz
        refine ⟨M', ?_, hA, hB⟩
        by_cases h14 : dO D k = 14
        · have ek : iI (ins D (k + 1)) = nI k := by
            rw [nI_i (by omega)]
            unfold ins
            rw [stk, if_pos h14]
            rfl
          rw [ek] at hE
          apply s_X7_brackets_4 hS
          case b1 => exact in_n hj (by omega)
          case b3 => intros; exact b3
          case b4 => intros; rw [eil]; exact bx (by omega) (by omega)
          case b11 => intros; rw [eil]; exact bx (by omega) (by omega)
          case k8 => intros; rw [ck, e1, cl]; exact hE
          all_goals (clear hE hA hB step ih fg; intros; exfalso; simp only [lt32, le32, eq32, lt64, le64, eq64, Int32.reduceToInt, Int64.reduceToInt, ck, ho, eir] at *; first | omega | exact hg (by assumption))
        · have ek : ins D (k + 1) = ins D k := by
            unfold ins
            rw [stk, if_neg h14, if_neg h15]
          rw [ek] at hE
          apply s_X7_brackets_4 hS
          case b1 => exact in_n hj (by omega)
          case b3 => intros; exact b3
          case b4 => intros; rw [eil]; exact bx (by omega) (by omega)
          case b11 => intros; rw [eil]; exact bx (by omega) (by omega)
          case k5 => intros; rw [ck, e1, cl]; exact hE
          all_goals (clear hE hA hB step ih fg; intros; exfalso; simp only [lt32, le32, eq32, lt64, le64, eq64, Int32.reduceToInt, Int64.reduceToInt, ck, ho, eir] at *; first | omega | exact hg (by assumption))
theorem v_brackets {M : AM} (hS : St M) (h : MM M j D) : ∃ M', Ev K_X7_brackets [aR (some 26), aI (nI j)] M none M' ∧ Ag (Sb j) M M' ∧ BRi D j (dn D) M' := by
  obtain ⟨M', hE, h2⟩ := l_brackets (D := D) (j := j) _ 0 M rfl (by omega) hS h (fun i hi => by omega)
  exact ⟨M', s_X7_brackets_0 hS hE, h2⟩
theorem z01 {c : Prop} [Decidable c] : ((if c then (0 : Int32) else 1) = 0) ↔ c := by
  by_cases h : c
  · simp [h]
  · simp [h]
theorem v_badArg {M : AM} {i : Nat} (hS : St M) (h : MM M j D) (hi : i < dn D) (hop : 0 ≤ dO D i ∧ dO D i < 18) : Ev K_X7_badArg [aR (some 26), aI (nI j), aI (nI i)] M (some (aI (if okF D i then 0 else 1))) M := by
  have hN := h.ln
  have hj := h.lj
  have cj := cl_n (n := j) (by omega)
  have ho := (h.2.1 i hi).1
  have ha := (h.2.1 i hi).2
  have ck := cx (j := j) (i := i) (by omega) (by omega)
  have ei := ci i (by omega)
  have e30 := h.1
  have e29 := h.2.2.2.1
  have en := ci (dn D) (by omega)
  have eL := ci (dL D) (by have := h.2.2.2.2.2.2.1.2.1; omega)
  have b3 := bx (j := j) (i := i) (by omega) (by omega)
  have bj : vp_in (nI j) 32 := in_n hj (by omega)
  by_cases hok : okF D i
  · rw [if_pos hok]
    apply s_X7_badArg_0 hS
    case b1 => exact b3
    case b4 => intros; exact bj
    case b11 => intros; exact bj
    all_goals (intros; first | exact ⟨rfl, rfl⟩ | (exfalso; simp only [lt32, le32, eq32, lt64, le64, eq64, Int32.reduceToInt, Int64.reduceToInt, ck, cj, ho, ha, ei, e29, e30, en, eL, l2] at *; omega))
  · rw [if_neg hok]
    apply s_X7_badArg_0 hS
    case b1 => exact b3
    case b4 => intros; exact bj
    case b11 => intros; exact bj
    all_goals (intros; first | exact ⟨rfl, rfl⟩ | (exfalso; simp only [lt32, le32, eq32, lt64, le64, eq64, Int32.reduceToInt, Int64.reduceToInt, ck, cj, ho, ha, ei, e29, e30, en, eL, l2] at *; omega))
theorem v_fault {M : AM} {x y : Int32} (hS : St M) (hj : j < 32) (h0 : mI M 38 j = 0) : Ev K_X7_fault [aR (some 26), aI (nI j), aI x, aI y] M none (wrI (wrI M 38 j x) 39 j y) := by
  have cj := cl_n (n := j) (by omega)
  apply s_X7_fault_0 hS
  case b1 => exact in_n hj (by omega)
  case k2 => intro g; rw [cj] at g; exact absurd h0 g
  case k3 => intro _; rw [cj]; exact ⟨rfl, rfl⟩
def wG (M : AM) (j : Nat) (f : Int × Int) : AM := if f.1 = 0 then M else wrI (wrI M 38 j (iI f.1)) 39 j (iI f.2)
theorem l_forms {M : AM} (hS : St M) (h : MM M j D) (hB : BRi D j (dn D) M) (h38 : mI M 38 j = 0) : ∀ (f k : Nat), dn D - k = f → k ≤ dn D → (∀ i, i < k → ff D i = 0) → E K_X7_forms 7 [some (aR (some 26)), some (aI (nI j)), some (aI (nI k)), none, none] [] M none (wG M j (fsc (ff D) (dn D))) := by
  have hN := h.ln
  have hj := h.lj
  have cj := cl_n (n := j) (by omega)
  have bj : vp_in (nI j) 32 := in_n hj (by omega)
  intro f
  induction f with
  | zero =>
    intro k hf hk hz
    have e : k = dn D := by omega
    subst e
    have hg : mI M 30 (nI j).toNatClampNeg ≤ nI (dn D) := by rw [cj, h.1, le32]; omega
    apply s_X7_forms_7 hS
    case b1 => exact bj
    case k2 => intro _; unfold wG; rw [fsc_none hz, if_pos rfl]; exact ⟨rfl, rfl⟩
    all_goals (intro g; exact absurd hg g)
  | succ f ih =>
    intro k hf hk hz
    have hk' : k < dn D := by omega
    have hg : ¬ mI M 30 (nI j).toNatClampNeg ≤ nI k := by rw [cj, h.1, le32, ci _ (by omega), ci _ (by omega)]; omega
    have ho := (h.2.1 k hk').1
    have ha := (h.2.1 k hk').2
    have ck := cx (j := j) (i := k) (by omega) (by omega)
    have b3 := bx (j := j) (i := k) (by omega) (by omega)
    have h35 := (hB k hk').1
    have h37 := (hB k hk').2.1
    have h36 := (hB k hk').2.2
    have mg := mat_ge (D := D) (dn D) k
    have edc := ci (dc D) (by have := h.2.2.2.2.2.2.1.2.2.2.1; omega)
    have e26 := h.2.2.2.2.2.1
    have e1 : nI k + 1 = nI (k + 1) := nI_1 k
    -- where a fault is found
    have stop : ∀ (q : Int) (y : Int32), ff D k = q → q ≠ 0 → E K_X7_forms 249 [some (aR (some 26)), some (aI (nI j)), some (aI (nI k)), some (aI ((120 : Int32) * nI j + nI k)), some (aI y)] [] (wrI (wrI M 38 j (iI q)) 39 j (nI k)) none (wG M j (fsc (ff D) (dn D))) := fun q y hq h0 => by
      have hA : Ag (fun r _ => r = 38 ∨ r = 39) M (wrI (wrI M 38 j (iI q)) 39 j (nI k)) := (Ag.rf.wI (Or.inl rfl)).wI (Or.inr rfl)
      have hS1 := hA.st hS
      have e38 : mI (wrI (wrI M 38 j (iI q)) 39 j (nI k)) 38 j = iI q := by simp (disch := omega) only [wrI_s, wrI_r, wrI_j, wrJ_s, wrJ_r, wrJ_j, wrI_J, wrJ_I, wrR_I, wrR_J]
      have qr := ff_r (D := D) k
      have nz : ¬ iI q = 0 := by rw [eq32, iI_t (by omega) (by omega)]; exact h0
      have ew : wG M j (fsc (ff D) (dn D)) = wrI (wrI M 38 j (iI q)) 39 j (nI k) := by
        have := fsc_at hz (by rw [hq]; exact h0) (dn D - k - 1)
        rw [show k + 1 + (dn D - k - 1) = dn D by omega, hq] at this
        unfold wG
        rw [this, if_neg h0, nI_i (by omega)]
      rw [ew]
      apply s_X7_forms_249 hS1
      have h2 : E K_X7_forms 7 [some (aR (some 26)), some (aI (nI j)), some (aI (nI k + 1)), none, none] [] (wrI (wrI M 38 j (iI q)) 39 j (nI k)) none (wrI (wrI M 38 j (iI q)) 39 j (nI k)) := by
        apply s_X7_forms_7 hS1
        case b1 => exact bj
        case k2 => intro _; exact ⟨rfl, rfl⟩
        case k3 => intro _ _; exact ⟨rfl, rfl⟩
        case b4 => intro _ g; rw [cj, e38] at g; exact absurd g nz
        all_goals (intro _ g; rw [cj, e38] at g; exact absurd g nz)
      exact h2.fg ⟨Or.inr rfl, Or.inr rfl, Or.inr rfl, Or.inl rfl, Or.inl rfl, trivial⟩
    have go : ff D k = 0 → ∀ y : Int32, E K_X7_forms 249 [some (aR (some 26)), some (aI (nI j)), some (aI (nI k)), some (aI ((120 : Int32) * nI j + nI k)), some (aI y)] [] M none (wG M j (fsc (ff D) (dn D))) := fun hq y => by
      apply s_X7_forms_249 hS
      have := ih (k + 1) (by omega) (by omega) (fun i hi => (Nat.lt_succ_iff_lt_or_eq.mp hi).elim (hz i) (fun z => z ▸ hq))
      rw [e1]
      exact this.fg ⟨Or.inr rfl, Or.inr rfl, Or.inr rfl, Or.inl rfl, Or.inl rfl, trivial⟩
    have body : ∀ y : Int32, (y = 0 ↔ ¬ (dO D k = 12 ∨ dO D k = 13)) → E K_X7_forms 60 [some (aR (some 26)), some (aI (nI j)), some (aI (nI k)), some (aI ((120 : Int32) * nI j + nI k)), none] [aI y] M none (wG M j (fsc (ff D) (dn D))) := fun y hy => by
      by_cases hok : okF D k
      · have f1 : ff D k = if ((dO D k = 14 ∨ dO D k = 15) ∧ mat D (dn D) k < 0) ∨ (dO D k = 14 ∧ 8 ≤ dep D k) then 2 else if (dO D k = 12 ∨ dO D k = 13) ∧ ins D (dA D k).toNat ≠ ins D k then 3 else if dO D k = 16 ∧ ¬ (0 ≤ dA D k ∧ dA D k < dc D) then 4 else 0 := by unfold ff; rw [if_pos hok]
        have r0 := hok.1
        have r1 := hok.2.1
        have hbad := v_badArg hS h hk' ⟨r0, r1⟩
        rw [if_pos hok] at hbad
        have hj' : dO D k = 12 ∨ dO D k = 13 → (k : Int) < dA D k ∧ dA D k < dn D := fun z => by omega
        clear hok
        have p205 : ¬ (((dO D k = 14 ∨ dO D k = 15) ∧ mat D (dn D) k < 0) ∨ (dO D k = 14 ∧ 8 ≤ dep D k)) → ¬ ((dO D k = 12 ∨ dO D k = 13) ∧ ins D (dA D k).toNat ≠ ins D k) → E K_X7_forms 205 [some (aR (some 26)), some (aI (nI j)), some (aI (nI k)), some (aI ((120 : Int32) * nI j + nI k)), some (aI y)] [] M none (wG M j (fsc (ff D) (dn D))) := fun n2 n3 => by
          rw [if_neg n2, if_neg n3] at f1
          apply s_X7_forms_205 (M1 := wrI (wrI M 38 j (iI 4)) 39 j (nI k)) (M2 := wrI (wrI M 38 j (iI 4)) 39 j (nI k)) hS
          case b1 => exact b3
          case k2 => intro g; simp only [lt32, le32, eq32, lt64, le64, eq64, Int32.reduceToInt, Int64.reduceToInt, ck, ho] at g; exact go (by rw [f1, if_neg (by omega)]) y
          case c3 => intros; exact v_fault hS hj h38
          case k4 => intro g1 g2; simp only [lt32, le32, eq32, lt64, le64, eq64, Int32.reduceToInt, Int64.reduceToInt, ck, ho, ha] at g1 g2; exact stop 4 y (by rw [f1, if_pos (by omega)]) (by omega)
          case k5 => intro g1 g2 g3; simp only [lt32, le32, eq32, lt64, le64, eq64, Int32.reduceToInt, Int64.reduceToInt, ck, ho, ha, e26, l2, edc] at g1 g2 g3; exact go (by rw [f1, if_neg (by omega)]) y
          case c6 => intros; exact v_fault hS hj h38
          case k7 => intro g1 g2 g3; simp only [lt32, le32, eq32, lt64, le64, eq64, Int32.reduceToInt, Int64.reduceToInt, ck, ho, ha, e26, l2, edc] at g1 g2 g3; exact stop 4 y (by rw [f1, if_pos (by omega)]) (by omega)
        have p164 : ¬ (((dO D k = 14 ∨ dO D k = 15) ∧ mat D (dn D) k < 0) ∨ (dO D k = 14 ∧ 8 ≤ dep D k)) → E K_X7_forms 164 [some (aR (some 26)), some (aI (nI j)), some (aI (nI k)), some (aI ((120 : Int32) * nI j + nI k)), some (aI y)] [] M none (wG M j (fsc (ff D) (dn D))) := fun n2 => by
          rw [if_neg n2] at f1
          have ex : dO D k = 12 ∨ dO D k = 13 → (120 : Int32) * nI j + (mJ M 32 ((120 : Int32) * nI j + nI k).toNatClampNeg).toInt32 = nI (120 * j + (dA D k).toNat) ∧ (mI M 35 (120 * j + (dA D k).toNat)).toInt = ins D (dA D k).toNat := fun z => by
            have := hj' z
            rw [ck, x_l (by omega) (by omega), ha, ix]
            exact ⟨rfl, (hB _ (by omega)).1⟩
          apply s_X7_forms_164 (M1 := wrI (wrI M 38 j (iI 3)) 39 j (nI k)) hS
          case k1 => intro g; exact p205 n2 (fun z => hy.mp g z.1)
          case b2 => intros; exact b3
          case b3 =>
            intro g
            have z : dO D k = 12 ∨ dO D k = 13 := by
              by_cases z : dO D k = 12 ∨ dO D k = 13
              · exact z
              · exact absurd (hy.mpr z) g
            have := hj' z
            rw [(ex z).1]
            exact in_n (by omega) (by omega)
          case k4 =>
            intro g g2
            have z : dO D k = 12 ∨ dO D k = 13 := by
              by_cases z : dO D k = 12 ∨ dO D k = 13
              · exact z
              · exact absurd (hy.mpr z) g
            have := hj' z
            rw [(ex z).1, cl_n (by omega), ck, eq32, (ex z).2, h35] at g2
            exact p205 n2 (fun w => w.2 g2)
          case c5 => intros; exact v_fault hS hj h38
          case k6 =>
            intro g g2
            have z : dO D k = 12 ∨ dO D k = 13 := by
              by_cases z : dO D k = 12 ∨ dO D k = 13
              · exact z
              · exact absurd (hy.mpr z) g
            have := hj' z
            rw [(ex z).1, cl_n (by omega), ck, eq32, (ex z).2, h35] at g2
            exact stop 3 y (by rw [f1, if_pos ⟨z, g2⟩]) (by omega)
        have p132 : ¬ ((dO D k = 14 ∨ dO D k = 15) ∧ mat D (dn D) k < 0) → E K_X7_forms 132 [some (aR (some 26)), some (aI (nI j)), some (aI (nI k)), some (aI ((120 : Int32) * nI j + nI k)), some (aI y)] [] M none (wG M j (fsc (ff D) (dn D))) := fun n2 => by
          apply s_X7_forms_132 (M1 := wrI (wrI M 38 j (iI 2)) 39 j (nI k)) hS
          case b1 => exact b3
          case k2 => intro g; simp only [lt32, le32, eq32, lt64, le64, eq64, Int32.reduceToInt, Int64.reduceToInt, ck, ho] at g; exact p164 (by omega)
          case k3 => intro g g2; simp only [lt32, le32, eq32, lt64, le64, eq64, Int32.reduceToInt, Int64.reduceToInt, ck, ho, h37] at g g2; exact p164 (by omega)
          case c4 => intros; exact v_fault hS hj h38
          case k5 => intro g g2; simp only [lt32, le32, eq32, lt64, le64, eq64, Int32.reduceToInt, Int64.reduceToInt, ck, ho, h37] at g g2; exact stop 2 y (by rw [f1, if_pos (by omega)]) (by omega)
        have p101 : E K_X7_forms 101 [some (aR (some 26)), some (aI (nI j)), some (aI (nI k)), some (aI ((120 : Int32) * nI j + nI k)), some (aI y)] [] M none (wG M j (fsc (ff D) (dn D))) := by
          apply s_X7_forms_101 (M1 := wrI (wrI M 38 j (iI 2)) 39 j (nI k)) (M2 := wrI (wrI M 38 j (iI 2)) 39 j (nI k)) hS
          case b1 => exact b3
          case c2 => intros; exact v_fault hS hj h38
          case k3 => intro g g2; simp only [lt32, le32, eq32, lt64, le64, eq64, Int32.reduceToInt, Int64.reduceToInt, ck, ho, h36] at g g2; exact stop 2 y (by rw [f1, if_pos (by omega)]) (by omega)
          case k4 => intro g g2; simp only [lt32, le32, eq32, lt64, le64, eq64, Int32.reduceToInt, Int64.reduceToInt, ck, ho, h36] at g g2; exact p132 (by omega)
          case k5 => intro g g2; simp only [lt32, le32, eq32, lt64, le64, eq64, Int32.reduceToInt, Int64.reduceToInt, ck, ho, h36] at g g2; exact p132 (by omega)
          case c6 => intros; exact v_fault hS hj h38
          case k7 => intro g g2 g3; simp only [lt32, le32, eq32, lt64, le64, eq64, Int32.reduceToInt, Int64.reduceToInt, ck, ho, h36] at g g2 g3; exact stop 2 y (by rw [f1, if_pos (by omega)]) (by omega)
          case k8 => intro g g2 g3; simp only [lt32, le32, eq32, lt64, le64, eq64, Int32.reduceToInt, Int64.reduceToInt, ck, ho, h36] at g g2 g3; exact p132 (by omega)
        apply s_X7_forms_60 (M1 := M) (M2 := M) (M3 := M) (M4 := M) (x103 := 0) hS
        case b1 => exact b3
        case c6 => intros; exact hbad
        case k7 => intros; exact p101
        all_goals (clear p101 p132 p164 p205 f1 hbad go stop ih; intros; exfalso; simp only [lt32, le32, eq32, lt64, le64, eq64, Int32.reduceToInt, Int64.reduceToInt, ck, ho] at *; first | omega | contradiction)
      · have f1 : ff D k = 1 := by unfold ff; rw [if_neg hok]
        by_cases r : 0 ≤ dO D k ∧ dO D k < 18
        · have hbad := v_badArg hS h hk' r
          rw [if_neg hok] at hbad
          clear hok
          apply s_X7_forms_60 (M1 := M) (M2 := M) (M3 := M) (M4 := wrI (wrI M 38 j (iI 1)) 39 j (nI k)) (x103 := 1) hS
          case b1 => exact b3
          case c6 => intros; exact hbad
          case c8 => intros; exact v_fault hS hj h38
          case k9 => intros; exact stop 1 y f1 (by omega)
          case k7 => intro _ _ g; exact absurd g (by decide)
          all_goals (clear f1 hbad go stop ih; intros; exfalso; simp only [lt32, le32, eq32, lt64, le64, eq64, Int32.reduceToInt, Int64.reduceToInt, ck, ho] at *; omega)
        · clear hok
          apply s_X7_forms_60 (M1 := wrI (wrI M 38 j (iI 1)) 39 j (nI k)) (M2 := wrI (wrI M 38 j (iI 1)) 39 j (nI k)) (M3 := M) (M4 := M) (x103 := 1) hS
          case b1 => exact b3
          case c2 => intros; exact v_fault hS hj h38
          case k3 => intros; exact stop 1 y f1 (by omega)
          case c4 => intros; exact v_fault hS hj h38
          case k5 => intros; exact stop 1 y f1 (by omega)
          all_goals (clear f1 go stop ih; intros; exfalso; simp only [lt32, le32, eq32, lt64, le64, eq64, Int32.reduceToInt, Int64.reduceToInt, ck, ho] at *; omega)
    apply s_X7_forms_7 hS
    case b1 => exact bj
    case k2 => exact fun g => absurd g hg
    case k3 => intro _ g; rw [cj] at g; exact absurd h38 g
    case b4 => intros; exact b3
    case k5 => intro _ _ g; simp only [lt32, le32, eq32, lt64, le64, eq64, Int32.reduceToInt, Int64.reduceToInt, ck, ho] at g; exact body 1 ⟨fun z => absurd z (by decide), fun z => absurd (Or.inl g) z⟩
    case k6 => intro _ _ g g2; simp only [lt32, le32, eq32, lt64, le64, eq64, Int32.reduceToInt, Int64.reduceToInt, ck, ho] at g g2; exact body 0 ⟨fun _ => by omega, fun _ => rfl⟩
    case k7 => intro _ _ g g2; simp only [lt32, le32, eq32, lt64, le64, eq64, Int32.reduceToInt, Int64.reduceToInt, ck, ho] at g g2; exact body 1 ⟨fun z => absurd z (by decide), fun z => absurd (Or.inr g2) z⟩
theorem v_forms {M : AM} (hS : St M) (h : MM M j D) (h38 : mI M 38 j = 0) : ∃ M1, Ev K_X7_forms [aR (some 26), aI (nI j)] M none (wG M1 j (fsc (ff D) (dn D))) ∧ Ag (Sb j) M M1 ∧ BRi D j (dn D) M1 := by
  obtain ⟨M1, c1, a1, hB⟩ := v_brackets hS h
  have h38' : mI M1 38 j = 0 := by rw [a1.i (by unfold Sb; omega)]; exact h38
  exact ⟨M1, s_X7_forms_0 hS c1 (l_forms (a1.st hS) (h.sb a1) hB h38' _ 0 rfl (by omega) (fun i hi => by omega)), a1, hB⟩
end MOD
