/-! ===== PURE: the class's Checker ===== -/
section CHK
variable {D : DD}
/-- a Method object that holds the METHOD D -/
def MC (M : AM) (m : Nat) (D : DD) : Prop := Mw M m (dn D) ∧ (∀ i, i < dn D → (mI M (m + 1) i).toInt = dO D i ∧ (mJ M (m + 2) i).toInt = dA D i) ∧ mI M m 1 = nI (dR D) ∧ mI M m 2 = nI (dL D) ∧ dR D ≤ 1 ∧ dL D ≤ 16
theorem MC.ag {S : Nat → Nat → Prop} {M M' : AM} {m : Nat} (h : MC M m D) (a : Ag S M M') (h0 : ¬ S m 7) (h1 : ¬ S m 1) (h2 : ¬ S m 2) (h3 : ∀ i, ¬ S (m + 1) i) (h4 : ∀ i, ¬ S (m + 2) i) : MC M' m D :=
  ⟨⟨a.mt h.1.1, (a.i h0).trans h.1.2.1, h.1.2.2⟩, fun i hi => ⟨by rw [a.i (h3 i)]; exact (h.2.1 i hi).1, by rw [a.j (h4 i)]; exact (h.2.1 i hi).2⟩, (a.i h1).trans h.2.2.1, (a.i h2).trans h.2.2.2.1, h.2.2.2.2⟩
def Spl (m : Nat) : Nat → Nat → Prop := fun r _ => r = 8 ∨ r = 9 ∨ r = 10 ∨ r = m + 3
theorem MC.spl {M M' : AM} {m : Nat} (h : MC M m D) (a : Ag (Spl m) M M') : MC M' m D := by
  have := h.1.1.1
  refine h.ag a ?_ ?_ ?_ (fun i => ?_) (fun i => ?_) <;> (unfold Spl; omega)
def PLi (D : DD) (m k : Nat) (M : AM) : Prop := (∀ i, i < k → (mI M 8 i).toInt = ins D i ∧ (mI M 9 i).toInt = dep D i ∧ (mI M (m + 3) i).toInt = mat D k i) ∧ ∀ l t, (l :: t) <:+ stk D k → mI M 10 t.length = nI l
theorem PLi.other {m k : Nat} {M : AM} (hm : 58 ≤ m) (h : PLi D m k M) (hs : stk D (k + 1) = stk D k) (hz : mat D (k + 1) = mat D k) (hd : dep D k < 2 ^ 31) {x : Int32} (hx : x.toInt = ins D k) : PLi D m (k + 1) (wrI (wrI (wrI M (m + 3) k (-1)) 9 k (nI (dep D k))) 8 k x) := by
  have ed := ci _ hd
  have ms := mat_self (D := D) (k := k) (i := k) (Nat.le_refl k)
  refine ⟨fun i hi => ?_, fun l t ht => ?_⟩
  · by_cases e : i = k
    · subst e
      rw [hz]
      refine ⟨by rw [wrI_s]; exact hx, by rw [wrI_r (by omega), wrI_s]; exact ed, ?_⟩
      rw [wrI_r (by omega), wrI_r (by omega), wrI_s, ms]; rfl
    · have := h.1 i (by omega)
      rw [hz, wrI_j e, wrI_j e, wrI_j e, wrI_j e, wrI_j e, wrI_j e, wrI_j e, wrI_j e, wrI_j e]
      exact this
  · rw [wrI_r (by omega), wrI_r (by omega), wrI_r (by omega)]
    exact h.2 l t (by rw [← hs]; exact ht)
theorem PLi.push {m k : Nat} {M : AM} (hm : 58 ≤ m) (h : PLi D m k M) (h14 : dO D k = 14) (hd : dep D k < 2 ^ 31) {x : Int32} (hx : x.toInt = ins D k) : PLi D m (k + 1) (wrI (wrI (wrI (wrI M (m + 3) k (-1)) 9 k (nI (dep D k))) 8 k x) 10 (dep D k) (nI k)) := by
  have ed := ci _ hd
  have ms := mat_self (D := D) (k := k) (i := k) (Nat.le_refl k)
  have hs : stk D (k + 1) = k :: stk D k := by rw [stk, if_pos h14]
  have hz : mat D (k + 1) = mat D k := by rw [mat, if_neg (by omega)]
  refine ⟨fun i hi => ?_, fun l t ht => ?_⟩
  · by_cases e : i = k
    · subst e
      simp (disch := omega) only [wrI_s, wrI_r, wrI_j, hz, ms, hx, ed]
      exact ⟨trivial, trivial, rfl⟩
    · simp (disch := omega) only [wrI_s, wrI_r, wrI_j, hz]
      exact h.1 i (by omega)
  · rw [hs] at ht
    rcases List.suffix_cons_iff.mp ht with e | e
    · injection e with e1 e2
      subst e1 e2
      exact wrI_s
    · have hl : t.length < dep D k := by
        have := e.length_le
        simp at this
        exact this
      simp (disch := omega) only [wrI_s, wrI_r, wrI_j]
      exact h.2 l t e
theorem PLi.pop {m k l : Nat} {t : List Nat} {M : AM} (hm : 58 ≤ m) (h : PLi D m k M) (h15 : dO D k = 15) (hk : k < 120) (hd : dep D k < 2 ^ 31) (hl : stk D k = l :: t) {x : Int32} (hx : x.toInt = ins D k) : PLi D m (k + 1) (wrI (wrI (wrI (wrI (wrI M (m + 3) k (-1)) 9 k (nI (dep D k))) 8 k x) (m + 3) k (nI l)) (m + 3) l (nI k)) := by
  have ed := ci _ hd
  have hlt := stk_cons k hl
  have hs : stk D (k + 1) = t := by rw [stk, if_neg (by omega), if_pos h15, hl]; rfl
  have hz : mat D (k + 1) = up1 (up1 (mat D k) k l) l k := by rw [mat, if_pos h15, hl]
  have el := ci l (by omega)
  have ek := ci k (by omega)
  refine ⟨fun i hi => ?_, fun l' t' ht => ?_⟩
  · rw [hz]
    simp only [up1]
    by_cases e : i = k
    · subst e
      rw [if_neg (by omega), if_pos rfl]
      simp (disch := omega) only [wrI_s, wrI_r, wrI_j, wrJ_s, wrJ_r, wrJ_j, wrI_J, wrJ_I, wrR_I, wrR_J, hx, ed, el]
      exact ⟨trivial, trivial, trivial⟩
    · have := h.1 i (by omega)
      by_cases e2 : i = l
      · subst e2
        rw [if_pos rfl]
        simp (disch := omega) only [wrI_s, wrI_r, wrI_j, wrJ_s, wrJ_r, wrJ_j, wrI_J, wrJ_I, wrR_I, wrR_J, ek, this.1, this.2.1]
        exact ⟨trivial, trivial, trivial⟩
      · rw [if_neg e2, if_neg e]
        simp (disch := omega) only [wrI_s, wrI_r, wrI_j, wrJ_s, wrJ_r, wrJ_j, wrI_J, wrJ_I, wrR_I, wrR_J]
        exact this
  · simp (disch := omega) only [wrI_s, wrI_r, wrI_j, wrJ_s, wrJ_r, wrJ_j, wrI_J, wrJ_I, wrR_I, wrR_J]
    refine h.2 l' t' ?_
    rw [hl]
    rw [hs] at ht
    exact ht.trans (List.suffix_cons l t)
theorem wI_ag {S : Nat → Nat → Prop} {M : AM} {r j : Nat} {x : Int32} (k : S r j) : Ag S M (wrI M r j x) := Ag.rf.wI k
theorem l_pairLoops {m : Nat} : ∀ (f k : Nat) (M : AM), dn D - k = f → k ≤ dn D → St M → MC M m D → PLi D m k M → ∃ M', E K_X2_pairLoops 4 [some (aR (some 7)), some (aR (some m)), some (aI (nI (dep D k))), some (aI (nI k))] [] M none M' ∧ Ag (Spl m) M M' ∧ PLi D m (dn D) M' := by
  intro f
  induction f with
  | zero =>
    intro k M hf hk hS h hP
    have e : k = dn D := by omega
    subst e
    have hn := h.1.2.2
    refine ⟨M, ?_, Ag.rf, hP⟩
    have hg : mI M m 7 ≤ nI (dn D) := by rw [h.1.2.1, le32]; omega
    apply s_X2_pairLoops_4 hS h.1.1
    case k1 => exact fun _ => ⟨rfl, rfl⟩
    all_goals (intros; contradiction)
  | succ f ih =>
    intro k M hf hk hS h hP
    have hn := h.1.2.2
    have hm := h.1.1.1
    have hk' : k < dn D := by omega
    have hd := dep_le (D := D) k
    have hdd : dep D k < 2 ^ 31 := by omega
    have hg : ¬ mI M m 7 ≤ nI k := by rw [h.1.2.1, le32, ci _ (by omega), ci _ (by omega)]; omega
    have ho := (h.2.1 k hk').1
    have ck := cl_n (n := k) (by omega)
    have cd := cl_n (n := dep D k) (by omega)
    have e1 : nI k + 1 = nI (k + 1) := nI_1 k
    have ed1 : nI (dep D k) + 1 = nI (dep D k + 1) := nI_1 _
    have b2 : vp_in (nI k) 120 := in_n (by omega) (by omega)
    have o14 : mI M (m + 1) k = 14 ↔ dO D k = 14 := by rw [eq32, ho]; exact Iff.rfl
    have o15 : mI M (m + 1) k = 15 ↔ dO D k = 15 := by rw [eq32, ho]; exact Iff.rfl
    have rl : nI (dep D k) ≤ 0 ↔ dep D k = 0 := by rw [le32, ci _ hdd]; show (dep D k : Int) ≤ 0 ↔ _; omega
    have rd : ∀ (d x : Int32), mI (wrI (wrI (wrI M (m + 3) k (-1)) 9 k d) 8 k x) (m + 1) k = mI M (m + 1) k := fun d x => by simp (disch := omega) only [wrI_s, wrI_r, wrI_j, wrJ_s, wrJ_r, wrJ_j, wrI_J, wrJ_I, wrR_I, wrR_J]
    by_cases h14 : dO D k = 14
    · have hd1 : dep D (k + 1) = dep D k + 1 := by unfold dep; rw [stk, if_pos h14]; rfl
      have fin : ∀ x : Int32, x.toInt = ins D k → ∃ M', E K_X2_pairLoops 4 [some (aR (some 7)), some (aR (some m)), some (aI (nI (dep D k + 1))), some (aI (nI (k + 1)))] [] (wrI (wrI (wrI (wrI M (m + 3) k (-1)) 9 k (nI (dep D k))) 8 k x) 10 (dep D k) (nI k)) none M' ∧ Ag (Spl m) M M' ∧ PLi D m (dn D) M' := fun x hx => by
        have hA : Ag (Spl m) M (wrI (wrI (wrI (wrI M (m + 3) k (-1)) 9 k (nI (dep D k))) 8 k x) 10 (dep D k) (nI k)) := (((Ag.rf.wI (by unfold Spl; omega)).wI (by unfold Spl; omega)).wI (by unfold Spl; omega)).wI (by unfold Spl; omega)
        obtain ⟨M', hE, hA', hP2⟩ := ih (k + 1) _ (by omega) (by omega) (hA.st hS) (h.spl hA) (hP.push hm h14 hdd hx)
        rw [hd1] at hE
        exact ⟨M', hE, hA.tr hA', hP2⟩
      cases hs : stk D k with
      | nil =>
        have d0 : dep D k = 0 := by unfold dep; rw [hs]; rfl
        obtain ⟨M', hE, hA, hP'⟩ := fin (-1) (by unfold ins; rw [hs]; rfl)
        refine ⟨M', ?_, hA, hP'⟩
        apply s_X2_pairLoops_4 hS h.1.1
        case k9 => intros; rw [ck, cd, ed1, e1]; exact hE
        case b8 => intros; exact in_n (by omega) (by omega)
        case b2 => exact fun _ => b2
        all_goals (clear hE hA hP' fin ih hP h hS; intros; exfalso; simp only [ck, rd, o14, o15, rl, hg] at * <;> omega)
      | cons l t => 
        have d0 : dep D k = t.length + 1 := by unfold dep; rw [hs]; rfl
        have ho := hP.2 l t (by rw [hs]; exact List.suffix_refl _)
        have em := nI_s1 (n := dep D k) (by omega)
        have hl := stk_cons k hs
        have eo : mI (wrI M (m + 3) k (-1)) 10 (nI (dep D k) - 1).toNatClampNeg = nI l := by
          rw [em, cl_n (by omega)]
          simp (disch := omega) only [wrI_s, wrI_r, wrI_j, wrJ_s, wrJ_r, wrJ_j, wrI_J, wrJ_I, wrR_I, wrR_J]
          rw [d0]
          exact ho
        obtain ⟨M', hE, hA, hP'⟩ := fin (nI l) (by unfold ins; rw [hs]; exact ci _ (by omega))
        refine ⟨M', ?_, hA, hP'⟩
        apply s_X2_pairLoops_4 hS h.1.1
        case k17 => intros; rw [ck] at *; rw [eo, cd, ed1, e1]; exact hE
        case b16 => intros; exact in_n (by omega) (by omega)
        case b10 => intros; rw [em]; exact in_n (by omega) (by omega)
        case b2 => exact fun _ => b2
        all_goals (clear hE hA hP' fin ih hP h hS; intros; exfalso; simp only [ck, rd, o14, o15, rl, hg] at * <;> omega)
    · have hz : dO D k ≠ 15 ∨ stk D k = [] → stk D (k + 1) = stk D k ∧ mat D (k + 1) = mat D k := fun z => by
        rw [stk, mat, if_neg h14]
        by_cases h15 : dO D k = 15
        · rw [if_pos h15, if_pos h15]
          rcases z with z | z
          · exact absurd h15 z
          · rw [z]; exact ⟨rfl, rfl⟩
        · rw [if_neg h15, if_neg h15]; exact ⟨rfl, rfl⟩
      have fin : ∀ x : Int32, x.toInt = ins D k → dO D k ≠ 15 ∨ stk D k = [] → ∃ M', E K_X2_pairLoops 4 [some (aR (some 7)), some (aR (some m)), some (aI (nI (dep D k))), some (aI (nI (k + 1)))] [] (wrI (wrI (wrI M (m + 3) k (-1)) 9 k (nI (dep D k))) 8 k x) none M' ∧ Ag (Spl m) M M' ∧ PLi D m (dn D) M' := fun x hx hq => by
        have hA : Ag (Spl m) M (wrI (wrI (wrI M (m + 3) k (-1)) 9 k (nI (dep D k))) 8 k x) := ((Ag.rf.wI (by unfold Spl; omega)).wI (by unfold Spl; omega)).wI (by unfold Spl; omega)
        obtain ⟨M', hE, hA', hP2⟩ := ih (k + 1) _ (by omega) (by omega) (hA.st hS) (h.spl hA) (hP.other hm (hz hq).1 (hz hq).2 hdd hx)
        have : dep D (k + 1) = dep D k := by unfold dep; rw [(hz hq).1]
        rw [this] at hE
        exact ⟨M', hE, hA.tr hA', hP2⟩
      cases hs : stk D k with
      | nil =>
        have d0 : dep D k = 0 := by unfold dep; rw [hs]; rfl
        obtain ⟨M', hE, hA, hP'⟩ := fin (-1) (by unfold ins; rw [hs]; rfl) (Or.inr hs)
        refine ⟨M', ?_, hA, hP'⟩
        apply s_X2_pairLoops_4 hS h.1.1
        case k3 => intros; rw [ck, e1]; exact hE
        case k4 => intros; rw [ck, e1]; exact hE
        case b2 => exact fun _ => b2
        all_goals (clear hE hA hP' fin ih hP h hS; intros; exfalso; simp only [ck, rd, o14, o15, rl, hg] at * <;> omega)
      | cons l t =>
        have d0 : dep D k = t.length + 1 := by unfold dep; rw [hs]; rfl
        have ho := hP.2 l t (by rw [hs]; exact List.suffix_refl _)
        have em := nI_s1 (n := dep D k) (by omega)
        have em' := nI_m1 (n := dep D k) (by omega)
        have hl := stk_cons k hs
        have eo : ∀ x, mI (wrI M (m + 3) k x) 10 (nI (dep D k) - 1).toNatClampNeg = nI l := fun x => by
          rw [em, cl_n (by omega)]
          simp (disch := omega) only [wrI_s, wrI_r, wrI_j, wrJ_s, wrJ_r, wrJ_j, wrI_J, wrJ_I, wrR_I, wrR_J]
          rw [d0]
          exact ho
        by_cases h15 : dO D k = 15
        · have hA : Ag (Spl m) M (wrI (wrI (wrI (wrI (wrI M (m + 3) k (-1)) 9 k (nI (dep D k))) 8 k (nI l)) (m + 3) k (nI l)) (m + 3) l (nI k)) := ((((Ag.rf.wI (by unfold Spl; omega)).wI (by unfold Spl; omega)).wI (by unfold Spl; omega)).wI (by unfold Spl; omega)).wI (by unfold Spl; omega)
          obtain ⟨M', hE, hA', hP2⟩ := ih (k + 1) _ (by omega) (by omega) (hA.st hS) (h.spl hA) (hP.pop hm h15 (by omega) hdd hs (by unfold ins; rw [hs]; exact ci _ (by omega)))
          have : dep D (k + 1) = dep D k - 1 := by unfold dep; rw [stk, if_neg h14, if_pos h15, hs]; rfl
          rw [this] at hE
          refine ⟨M', ?_, hA.tr hA', hP2⟩
          have ew : mI (wrI (wrI (wrI (wrI M (m + 3) k (-1)) 9 k (nI (dep D k))) 8 k (nI l)) (m + 3) k (nI l)) 10 (nI (dep D k) - 1).toNatClampNeg = nI l := by
            rw [em, cl_n (by omega)]
            simp (disch := omega) only [wrI_s, wrI_r, wrI_j, wrJ_s, wrJ_r, wrJ_j, wrI_J, wrJ_I, wrR_I, wrR_J]
            rw [d0]
            exact ho
          have cl := cl_n (n := l) (by omega)
          apply s_X2_pairLoops_4 hS h.1.1
          case k15 =>
            intros
            rw [em', ← em, ck, eo, ew, cl, e1, em]
            exact hE
          case b14 =>
            intros
            rw [em', ← em, ck, eo, ew]
            exact in_n (by omega) (by omega)
          case b13 => intros; rw [em']; exact in_n (by omega) (by omega)
          case b10 => intros; rw [em]; exact in_n (by omega) (by omega)
          case b2 => exact fun _ => b2
          all_goals (clear hE hA hA' hP2 ih hP h hS; intros; exfalso; simp only [ck, rd, o14, o15, rl, hg] at * <;> omega)
        · obtain ⟨M', hE, hA, hP'⟩ := fin (nI l) (by unfold ins; rw [hs]; exact ci _ (by omega)) (Or.inl h15)
          refine ⟨M', ?_, hA, hP'⟩
          apply s_X2_pairLoops_4 hS h.1.1
          case k11 => intros; rw [ck] at *; rw [eo, e1]; exact hE
          case b10 => intros; rw [em]; exact in_n (by omega) (by omega)
          case b2 => exact fun _ => b2
          all_goals (clear hE hA hP' fin ih hP h hS; intros; exfalso; simp only [ck, rd, o14, o15, rl, hg] at * <;> omega)
theorem v_pairLoops {M : AM} {m : Nat} (hS : St M) (h : MC M m D) : ∃ M', Ev K_X2_pairLoops [aR (some 7), aR (some m)] M none M' ∧ Ag (Spl m) M M' ∧ PLi D m (dn D) M' := by
  obtain ⟨M', hE, h2⟩ := l_pairLoops (D := D) (m := m) _ 0 M rfl (by omega) hS h ⟨fun i hi => by omega, fun l t ht => by have := ht.length_le; simp [stk] at this⟩
  exact ⟨M', s_X2_pairLoops_0 hS h.1.1 hE, h2⟩
end CHK
