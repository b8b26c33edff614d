/-! ===== PURE: the class's faults of form ===== -/
theorem z10 {c : Prop} [Decidable c] : ((if c then (1 : Int32) else 0) = 0) ↔ ¬ c := by
  by_cases h : c
  · simp [h]
  · simp [h]
section FORM
variable {D : DD}
abbrev okF (D : DD) (i : Nat) : Prop := 0 ≤ dO D i ∧ dO D i < 18 ∧ (dO D i = 0 ∨ dO D i = 16 ∨ ((dO D i = 9 ∨ dO D i = 10) ∧ 0 ≤ dA D i ∧ dA D i < dL D) ∨ (dO D i = 11 ∧ 0 ≤ dA D i ∧ dA D i ≤ 100) ∨ ((dO D i = 12 ∨ dO D i = 13) ∧ i < dA D i ∧ dA D i < dn D) ∨ (dO D i = 14 ∧ 0 ≤ dA D i ∧ dA D i ≤ 1000000000) ∨ (dO D i ≠ 0 ∧ dO D i ≠ 9 ∧ dO D i ≠ 10 ∧ dO D i ≠ 11 ∧ dO D i ≠ 12 ∧ dO D i ≠ 13 ∧ dO D i ≠ 14 ∧ dO D i ≠ 16 ∧ dA D i = 0))
theorem v_hasForm {M : AM} {m i : Nat} (hS : St M) (h : MC M m D) (hi : i < dn D) : Ev K_X2_hasForm [aR (some 7), aR (some m), aI (nI i), aJ (mJ M (m + 2) i)] M (some (aI (if okF D i then 1 else 0))) M := by
  have hn := h.1.2.2
  have ho := (h.2.1 i hi).1
  have ha := (h.2.1 i hi).2
  have ck := cl_n (n := i) (by omega)
  have ei := ci i (by omega)
  have hL := h.2.2.2.1
  have eL := ci (dL D) (by have := h.2.2.2.2.2; omega)
  by_cases hok : okF D i
  · rw [if_pos hok]
    apply s_X2_hasForm_0 (M1 := M) (M2 := M) (x110 := (if 0 ≤ (mJ M (m + 2) i).toInt ∧ (mJ M (m + 2) i).toInt < dn D then 1 else 0)) (x115 := (if 0 ≤ (mI M (m + 1) i).toInt ∧ (mI M (m + 1) i).toInt < 18 then 1 else 0)) hS h.1.1
    case b1 => exact in_n (by omega) (by omega)
    case c10 => intros; exact v_has hS h.1 _
    case c16 => intros; rw [ck]; exact v_isOp hS _
    all_goals (intros; first | exact ⟨rfl, rfl⟩ | (exfalso; simp only [lt32, le32, eq32, lt64, le64, eq64, Int32.reduceToInt, Int64.reduceToInt, ck, ho, ha, ei, hL, eL, l2, ↓z10] at *; omega))
  · rw [if_neg hok]
    apply s_X2_hasForm_0 (M1 := M) (M2 := M) (x110 := (if 0 ≤ (mJ M (m + 2) i).toInt ∧ (mJ M (m + 2) i).toInt < dn D then 1 else 0)) (x115 := (if 0 ≤ (mI M (m + 1) i).toInt ∧ (mI M (m + 1) i).toInt < 18 then 1 else 0)) hS h.1.1
    case b1 => exact in_n (by omega) (by omega)
    case c10 => intros; exact v_has hS h.1 _
    case c16 => intros; rw [ck]; exact v_isOp hS _
    all_goals (intros; first | exact ⟨rfl, rfl⟩ | (exfalso; simp only [lt32, le32, eq32, lt64, le64, eq64, Int32.reduceToInt, Int64.reduceToInt, ck, ho, ha, ei, hL, eL, l2, ↓z10] at *; omega))
/-- the class's METHODS, their ARGUMENTS and RESULTS -/
def PC (M : AM) (mr : Nat → Nat) (D : DD) : Prop := Pw M (dc D) mr ∧ ∀ j, j < dc D → mI M (mr j) 0 = nI (cA D j) ∧ mI M (mr j) 1 = nI (cR D j) ∧ cA D j ≤ 8 ∧ cR D j ≤ 1
def ff (D : DD) (i : Nat) : Int := if okF D i then (if ((dO D i = 14 ∨ dO D i = 15) ∧ mat D (dn D) i < 0) ∨ (dO D i = 14 ∧ 8 ≤ dep D i) then 2 else if (dO D i = 12 ∨ dO D i = 13) ∧ ins D (dA D i).toNat ≠ ins D i then 3 else if dO D i = 16 ∧ ¬ (0 ≤ dA D i ∧ dA D i < dc D) then 4 else 0) else 1
theorem v_faultOfForm {M : AM} {m i : Nat} {mr : Nat → Nat} (hS : St M) (h : MC M m D) (hp : PC M mr D) (hP : PLi D m (dn D) M) (hi : i < dn D) : Ev K_X2_faultOfForm [aR (some 7), aR (some m), aI (nI i)] M (some (aI (iI (ff D i)))) M := by
  have hn := h.1.2.2
  have ho := (h.2.1 i hi).1
  have ha := (h.2.1 i hi).2
  have ck := cl_n (n := i) (by omega)
  have ei := ci i (by omega)
  have h8 := (hP.1 i hi).1
  have h9 := (hP.1 i hi).2.1
  have h3 := (hP.1 i hi).2.2
  have hg := mat_ge (D := D) (dn D) i
  have hc := v_hasForm hS h hi
  have hf := v_find hS hp.1 (mJ M (m + 2) i)
  rw [ha] at hf
  by_cases hok : okF D i
  · rw [if_pos hok] at hc
    have hj : dO D i = 12 ∨ dO D i = 13 → (mI M 8 (mJ M (m + 2) i).toInt32.toNatClampNeg).toInt = ins D (dA D i).toNat ∧ vp_in (mJ M (m + 2) i).toInt32 120 := fun z => by
      have hr : (i : Int) < dA D i ∧ dA D i < dn D := by omega
      have e := x_l (x := mJ M (m + 2) i) (by omega) (by omega)
      rw [e, ha, cl_n (by omega)]
      exact ⟨(hP.1 _ (by omega)).1, in_n (by omega) (by omega)⟩
    have key : ∀ k : Int, ff D i = k → Ev K_X2_faultOfForm [aR (some 7), aR (some m), aI (nI i)] M (some (aI (iI k))) M := fun k hk => by
      unfold ff at hk
      rw [if_pos hok] at hk
      by_cases c2 : ((dO D i = 14 ∨ dO D i = 15) ∧ mat D (dn D) i < 0) ∨ (dO D i = 14 ∧ 8 ≤ dep D i)
      · rw [if_pos c2] at hk
        subst hk
        apply s_X2_faultOfForm_0 (M1 := M) (M2 := M) (x101 := 1) hS h.1.1
        case b1 => exact in_n (by omega) (by omega)
        case c2 => rw [ck]; exact hc
        case b3 => intro _ g; rw [ck, eq32, eq32, ho] at g; rw [ck]; exact (hj g).2
        case c11 => intros; rw [ck]; exact hf
        case h12 => intros; exfalso; simp only [lt32, le32, eq32, lt64, le64, eq64, Int32.reduceToInt, Int64.reduceToInt, ck, ho] at *; omega
        all_goals (intros; first | exact ⟨rfl, rfl⟩ | (exfalso; simp only [lt32, le32, eq32, lt64, le64, eq64, Int32.reduceToInt, Int64.reduceToInt, ck, ho, ha, ei, h9, h3] at *; omega))
      · rw [if_neg c2] at hk
        by_cases c3 : (dO D i = 12 ∨ dO D i = 13) ∧ ins D (dA D i).toNat ≠ ins D i
        · rw [if_pos c3] at hk
          subst hk
          have hj' := (hj c3.1).1
          apply s_X2_faultOfForm_0 (M1 := M) (M2 := M) (x101 := 1) hS h.1.1
          case b1 => exact in_n (by omega) (by omega)
          case c2 => rw [ck]; exact hc
          case b3 => intro _ g; rw [ck]; exact (hj c3.1).2
          case c11 => intros; rw [ck]; exact hf
          case h12 => intros; exfalso; simp only [lt32, le32, eq32, lt64, le64, eq64, Int32.reduceToInt, Int64.reduceToInt, ck, ho] at *; omega
          all_goals (intros; first | exact ⟨rfl, rfl⟩ | (exfalso; simp only [lt32, le32, eq32, lt64, le64, eq64, Int32.reduceToInt, Int64.reduceToInt, ck, ho, ha, ei, h9, h3, hj', h8] at *; omega))
        · rw [if_neg c3] at hk
          have hj' : dO D i = 12 ∨ dO D i = 13 → (mI M 8 (mJ M (m + 2) i).toInt32.toNatClampNeg).toInt = ins D i := fun z => by
            rw [(hj z).1]
            by_cases e : ins D (dA D i).toNat = ins D i
            · exact e
            · exact absurd ⟨z, e⟩ c3
          have rr : ∀ (r : Nat), (if 0 ≤ dA D i ∧ dA D i < dc D then some (mr (dA D i).toNat) else none) = some r → Mt M r := fun r z => by
            by_cases e : 0 ≤ dA D i ∧ dA D i < dc D
            · rw [if_pos e] at z
              injection z with z
              rw [← z]
              exact (hp.1.2.2.1 _ (by omega)).2
            · rw [if_neg e] at z; simp at z
          by_cases c4 : dO D i = 16 ∧ ¬ (0 ≤ dA D i ∧ dA D i < dc D)
          · rw [if_pos c4] at hk
            subst hk
            rw [if_neg c4.2] at hf rr
            apply s_X2_faultOfForm_0 (M1 := M) (M2 := M) (x101 := 1) hS h.1.1
            case b1 => exact in_n (by omega) (by omega)
            case c2 => rw [ck]; exact hc
            case b3 => intro _ g; rw [ck, eq32, eq32, ho] at g; rw [ck]; exact (hj g).2
            case c11 => intros; rw [ck]; exact hf
            case h12 => intro _ _ _ _ _ r q; exact rr r q
            case k13 => intro _ _ _ _ _ r q; simp at q
            all_goals (intros; first | exact ⟨rfl, rfl⟩ | (exfalso; simp only [lt32, le32, eq32, lt64, le64, eq64, Int32.reduceToInt, Int64.reduceToInt, ck, ho, ha, ei, h9, h3, h8] at *; omega))
          · rw [if_neg c4] at hk
            subst hk
            apply s_X2_faultOfForm_0 (M1 := M) (M2 := M) (x101 := 1) hS h.1.1
            case b1 => exact in_n (by omega) (by omega)
            case c2 => rw [ck]; exact hc
            case b3 => intro _ g; rw [ck, eq32, eq32, ho] at g; rw [ck]; exact (hj g).2
            case c11 => intros; rw [ck]; exact hf
            case h12 => intro _ _ _ _ _ r q; exact rr r q
            case k14 =>
              intro _ _ _ _ g q
              rw [ck, eq32, ho] at g
              have g' : dO D i = 16 := g
              by_cases e : 0 ≤ dA D i ∧ dA D i < dc D
              · rw [if_pos e] at q; simp at q
              · exact absurd ⟨g', e⟩ c4
            case k5 => intro _ g g2; exfalso; rw [ck, eq32, eq32, ho] at g; exact g2 (by rw [ck, eq32, h8]; exact hj' g)
            all_goals (intros; first | exact ⟨rfl, rfl⟩ | (exfalso; simp only [lt32, le32, eq32, lt64, le64, eq64, Int32.reduceToInt, Int64.reduceToInt, ck, ho, ha, ei, h9, h3, h8] at *; omega))
    exact key _ rfl
  · rw [if_neg hok] at hc
    have e : ff D i = 1 := by unfold ff; rw [if_neg hok]
    rw [e]
    apply s_X2_faultOfForm_0 (M1 := M) (M2 := M) (x101 := 0) (o111 := none) hS h.1.1
    case b1 => exact in_n (by omega) (by omega)
    case c2 => rw [ck]; exact hc
    case k16 => exact fun _ => ⟨rfl, rfl⟩
    all_goals (intro g; exact absurd rfl g)
/-! the first fault of a row -/
def fsc (f : Nat → Int) : Nat → Int × Int
  | 0 => (0, -1)
  | k + 1 => if (fsc f k).1 = 0 then (if f k = 0 then (0, -1) else (f k, k)) else fsc f k
theorem fsc_none {f : Nat → Int} : ∀ {k : Nat}, (∀ i, i < k → f i = 0) → fsc f k = (0, -1)
  | 0, _ => rfl
  | k + 1, h => by
    have := fsc_none (f := f) (k := k) (fun i hi => h i (by omega))
    rw [fsc, this, if_pos rfl, if_pos (h k (by omega))]
theorem fsc_at {f : Nat → Int} {k : Nat} (h : ∀ i, i < k → f i = 0) (hk : f k ≠ 0) : ∀ (d : Nat), fsc f (k + 1 + d) = (f k, (k : Int))
  | 0 => by
    show fsc f (k + 1) = _
    rw [fsc, fsc_none h, if_pos rfl, if_neg hk]
  | d + 1 => by
    have := fsc_at h hk d
    show fsc f (k + 1 + d + 1) = _
    rw [fsc, this, if_neg hk]
theorem fsc_zero {f : Nat → Int} : ∀ {n : Nat}, (fsc f n).1 = 0 → ∀ i, i < n → f i = 0
  | 0, _, i, hi => by omega
  | n + 1, h, i, hi => by
    unfold fsc at h
    split at h
    · rename_i e
      split at h
      · rename_i e2
        by_cases z : i = n
        · rw [z]; exact e2
        · exact fsc_zero e i (by omega)
      · exact absurd h (by assumption)
    · exact absurd h (by assumption)
theorem ff_r (i : Nat) : 0 ≤ ff D i ∧ ff D i ≤ 4 := by
  unfold ff
  repeat' split
  all_goals omega
def wF (M : AM) (m : Nat) (f : Int × Int) : AM := if f.1 = 0 then M else wrI (wrI M m 8 (iI f.1)) m 9 (iI f.2)
theorem l_ffof {m : Nat} {mr : Nat → Nat} {M : AM} (hS : St M) (h : MC M m D) (hp : PC M mr D) (hP : PLi D m (dn D) M) : ∀ (f k : Nat), dn D - k = f → k ≤ dn D → (∀ i, i < k → ff D i = 0) → E K_X2_findFaultOfForm 2 [some (aR (some 7)), some (aR (some m)), some (aI (nI k)), none] [] M none (wF M m (fsc (ff D) (dn D))) := by
  have hn := h.1.2.2
  intro f
  induction f with
  | zero =>
    intro k hf hk hz
    have e : k = dn D := by omega
    subst e
    have hg : mI M m 7 ≤ nI (dn D) := by rw [h.1.2.1, le32]; omega
    apply s_X2_findFaultOfForm_2 (M1 := M) (M2 := M) (x102 := 0) hS h.1.1
    case k1 => intro _; unfold wF; rw [fsc_none hz, if_pos rfl]; exact ⟨rfl, rfl⟩
    case c2 => exact fun g => absurd hg g
    case k3 => exact fun g => absurd hg g
    case c4 => exact fun g => absurd hg g
    case k5 => exact fun g => absurd hg g
  | succ f ih =>
    intro k hf hk hz
    have hk' : k < dn D := by omega
    have hg : ¬ mI M m 7 ≤ nI k := by rw [h.1.2.1, le32, ci _ (by omega), ci _ (by omega)]; omega
    have hr := ff_r (D := D) k
    have e0 : iI (ff D k) = 0 ↔ ff D k = 0 := by rw [eq32, iI_t (by omega) (by omega)]; exact Iff.rfl
    apply s_X2_findFaultOfForm_2 (M2 := wrI (wrI M m 8 (iI (ff D k))) m 9 (nI k)) hS h.1.1
    case k1 => exact fun g => absurd g hg
    case c2 => exact fun _ => v_faultOfForm hS h hp hP hk'
    case k3 =>
      intro _ g
      rw [e0] at g
      have := ih (k + 1) (by omega) (by omega) (fun i hi => (Nat.lt_succ_iff_lt_or_eq.mp hi).elim (hz i) (fun z => z ▸ g))
      rw [show nI k + 1 = nI (k + 1) from nI_1 k]
      exact this.fg ⟨Or.inr rfl, Or.inr rfl, Or.inr rfl, Or.inl rfl, trivial⟩
    case c4 => intro _ _; exact v_fail hS h.1.1 _ _
    case k5 =>
      intro _ g
      rw [e0] at g
      have := fsc_at hz g (dn D - k - 1)
      rw [show k + 1 + (dn D - k - 1) = dn D by omega] at this
      unfold wF
      rw [this, if_neg g, nI_i (by omega)]
      exact ⟨rfl, rfl⟩
theorem v_ffof {m : Nat} {mr : Nat → Nat} {M : AM} (hS : St M) (h : MC M m D) (hp : PC M mr D) (hP : PLi D m (dn D) M) : Ev K_X2_findFaultOfForm [aR (some 7), aR (some m)] M none (wF M m (fsc (ff D) (dn D))) :=
  s_X2_findFaultOfForm_0 hS h.1.1 (l_ffof hS h hp hP _ 0 rfl (by omega) (fun i hi => by omega))
end FORM
