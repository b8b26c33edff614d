/-! ===== PURE: findHeights, inspect, refresh ===== -/
section INS
variable {D : DD}
def h0f : Nat → Int := fun j => if j = 0 then 0 else -1
def hp (D : DD) : Nat → (Nat → Int) × Int × Int
  | 0 => (h0f, 0, -1)
  | k + 1 => if (hp D k).2.1 = 0 then (if (hp D k).1 k < 0 then hp D k else if hk D k (hp D k).1 = 0 then (hn D k (hp D k).1, 0, -1) else ((hp D k).1, hk D k (hp D k).1, k)) else hp D k
def chk (D : DD) : Int × Int := if (fsc (ff D) (dn D)).1 = 0 then (if dn D = 0 then (9, 0) else (hp D (dn D)).2) else fsc (ff D) (dn D)
def HH (D : DD) : Nat → Int := (hp D (dn D)).1
theorem hk_r (i : Nat) (hh : Nat → Int) : 0 ≤ hk D i hh ∧ hk D i hh ≤ 9 := by
  unfold hk
  repeat' split
  all_goals omega
theorem hk0 {i : Nat} {hh : Nat → Int} (h : hk D i hh = 0) : tk D i ≤ hh i ∧ bhd D i hh ≤ 100 ∧ ¬ oth D hh (onw D i) (bhd D i hh) ∧ (dO D i = 12 ∨ dO D i = 13 → ¬ oth D hh (dA D i) (bhd D i hh)) ∧ (dO D i = 15 → hh (mat D (dn D) i).toNat = hh i) ∧ (dO D i = 17 → hh i ≤ dR D) ∧ onw D i < dn D := by
  unfold hk at h
  by_cases c1 : hh i < tk D i
  · rw [if_pos c1] at h; omega
  rw [if_neg c1] at h
  by_cases c2 : 100 < bhd D i hh
  · rw [if_pos c2] at h; omega
  rw [if_neg c2] at h
  by_cases c3 : oth D hh (onw D i) (bhd D i hh) ∨ ((dO D i = 12 ∨ dO D i = 13) ∧ oth D hh (dA D i) (bhd D i hh)) ∨ (dO D i = 15 ∧ hh (mat D (dn D) i).toNat ≠ hh i)
  · rw [if_pos c3] at h; omega
  rw [if_neg c3] at h
  by_cases c4 : dO D i = 17 ∧ dR D < hh i
  · rw [if_pos c4] at h; omega
  rw [if_neg c4] at h
  by_cases c5 : dn D ≤ onw D i
  · rw [if_pos c5] at h; omega
  refine ⟨by omega, by omega, fun z => c3 (Or.inl z), fun z1 z2 => c3 (Or.inr (Or.inl ⟨z1, z2⟩)), fun z => ?_, fun z => ?_, by omega⟩
  · by_cases e : hh (mat D (dn D) i).toNat = hh i
    · exact e
    · exact absurd (Or.inr (Or.inr ⟨z, e⟩)) c3
  · by_cases e : hh i ≤ dR D
    · exact e
    · exact absurd ⟨z, by omega⟩ c4
theorem up1_r {hh : Nat → Int} {t : Nat} {b : Int} (hR : hhR D hh) (hb : -1 ≤ b ∧ b ≤ 100) : hhR D (up1 hh t b) := fun j hj => by
  simp only [up1]
  split
  · exact hb
  · exact hR j hj
theorem hn_r {i : Nat} {hh : Nat → Int} (hd : Ds D) (hf : ff D i = 0) (hR : hhR D hh) (h : hk D i hh = 0) : hhR D (hn D i hh) := by
  have h1 := hk0 h
  have h2 := h1.1
  have h3 := h1.2.1
  have := tk_r hd hf
  have := gv_r hd hf
  have hb : -1 ≤ bhd D i hh ∧ bhd D i hh ≤ 100 := by unfold bhd at *; omega
  clear h1
  unfold hn
  split
  · refine up1_r ?_ hb
    split
    · exact up1_r hR hb
    · exact hR
  · split
    · exact up1_r hR hb
    · exact hR
theorem hp_r (hd : Ds D) (hf : ∀ i, i < dn D → ff D i = 0) : ∀ k, k ≤ dn D → hhR D (hp D k).1
  | 0, _ => fun j _ => by show -1 ≤ h0f j ∧ h0f j ≤ 100; unfold h0f; split <;> omega
  | k + 1, h => by
    have ih := hp_r hd hf k (by omega)
    unfold hp
    split
    · split
      · exact ih
      · split
        · exact hn_r hd (hf k (by omega)) ih (by assumption)
        · exact ih
    · exact ih
theorem hp_stop {k : Nat} (h0 : (hp D k).2.1 ≠ 0) : ∀ d, hp D (k + d) = hp D k
  | 0 => rfl
  | d + 1 => by
    have := hp_stop h0 d
    show hp D (k + d + 1) = _
    rw [hp, this, if_neg h0]
theorem v_fill {a N : Nat} {x : Int32} {M : AM} (ha : Lv M a 11) (hN : (mS M a).2 = N) (hN2 : N < 2 ^ 31) : ∃ M', Ev K_J7_fill_53178 [aR (some a), aI x] M none M' ∧ Ag (fun r _ => r = a) M M' ∧ ∀ i, i < N → mI M' a i = x := by
  have key : ∀ (f k : Nat) (M : AM), Lv M a 11 → (mS M a).2 = N → N - k = f → k ≤ N → (∀ i, i < k → mI M a i = x) → ∃ M', E K_J7_fill_53178 5 [some (aR (some a)), some (aI x), some (aI (nI k)), some (aI (nI N))] [] M none M' ∧ Ag (fun r _ => r = a) M M' ∧ ∀ i, i < N → mI M' a i = x := by
    intro f
    induction f with
    | zero =>
      intro k M ha hN hf hk hi
      have e : k = N := by omega
      subst e
      refine ⟨M, ?_, Ag.rf, hi⟩
      apply s_J7_fill_53178_5 ha
      case k1 => exact fun _ => ⟨rfl, rfl⟩
      all_goals (intro g; exact absurd (le32.mpr (Int.le_refl _)) g)
    | succ f ih =>
      intro k M ha hN hf hk hi
      have hA : Ag (fun r _ => r = a) M (wrI M a k x) := Ag.rf.wI rfl
      obtain ⟨M', hE, hA', hI⟩ := ih (k + 1) (wrI M a k x) (ha.sh hA.sh) hN (by omega) (by omega) (fun i hi' => by
        by_cases e : i = k
        · rw [e, wrI_s]
        · rw [wrI_j e]; exact hi i (by omega))
      refine ⟨M', ?_, hA.tr hA', hI⟩
      apply s_J7_fill_53178_5 ha
      case k1 => intro g; rw [le32, ci _ (by omega), ci _ (by omega)] at g; omega
      case b2 => intro _; rw [hN]; exact in_n (by omega) (by omega)
      case k3 => intro _; rw [cl_n (by omega), nI_1]; exact hE
  obtain ⟨M', hE, h2⟩ := key N 0 M ha hN (by omega) (by omega) (fun i hi => by omega)
  refine ⟨M', ?_, h2⟩
  apply s_J7_fill_53178_0 ha
  rw [hN]
  exact hE
def S5 (m : Nat) : Nat → Nat → Prop := fun r j => r = m + 4 ∨ (r = m ∧ (j = 8 ∨ j = 9))
theorem MC.s5 {M M' : AM} {m : Nat} (h : MC M m D) (a : Ag (S5 m) M M') : MC M' m D := by
  refine h.ag a ?_ ?_ ?_ (fun i => ?_) (fun i => ?_) <;> (unfold S5; omega)
theorem S4.s5 {M M' : AM} {m : Nat} (a : Ag (S4 m) M M') : Ag (S5 m) M M' := a.mo (fun r j h => Or.inl h)
theorem PC.ag {S : Nat → Nat → Prop} {M M' : AM} {mr : Nat → Nat} (h : PC M mr D) (a : Ag S M M') (h0 : ¬ S 4 2) (h1 : ∀ j, j < dc D → ¬ S (mr j) 0 ∧ ¬ S (mr j) 1) : PC M' mr D :=
  ⟨⟨(a.i h0).trans h.1.1, h.1.2.1, fun j hj => ⟨by rw [a.r]; exact (h.1.2.2.1 j hj).1, a.mt (h.1.2.2.1 j hj).2⟩, h.1.2.2.2⟩, fun j hj => ⟨(a.i (h1 j hj).1).trans (h.2 j hj).1, (a.i (h1 j hj).2).trans (h.2 j hj).2.1, (h.2 j hj).2.2⟩⟩
theorem PC.gap {M : AM} {mr : Nat → Nat} (h : PC M mr D) {i j : Nat} (hi : i < dc D) (hj : j < dc D) : mr i = mr j ∨ mr i + 5 ≤ mr j ∨ mr j + 5 ≤ mr i := by
  rcases Nat.lt_trichotomy i j with e | e | e
  · exact Or.inr (Or.inl (h.1.2.2.2 i j hi hj e))
  · rw [e]; exact Or.inl rfl
  · exact Or.inr (Or.inr (h.1.2.2.2 j i hj hi e))
theorem PLi.ag {S : Nat → Nat → Prop} {M M' : AM} {m k : Nat} (h : PLi D m k M) (a : Ag S M M') (h8 : ∀ i, ¬ S 8 i ∧ ¬ S 9 i ∧ ¬ S 10 i ∧ ¬ S (m + 3) i) : PLi D m k M' :=
  ⟨fun i hi => ⟨by rw [a.i (h8 i).1]; exact (h.1 i hi).1, by rw [a.i (h8 i).2.1]; exact (h.1 i hi).2.1, by rw [a.i (h8 i).2.2.2]; exact (h.1 i hi).2.2⟩, fun l t ht => by rw [a.i (h8 _).2.2.1]; exact h.2 l t ht⟩
theorem PC.s5 {M M' : AM} {mr : Nat → Nat} {m j : Nat} (h : PC M mr D) (hj : j < dc D) (hm : m = mr j) (a : Ag (S5 m) M M') : PC M' mr D := by
  have h58 := (h.1.2.2.1 j hj).2.1
  refine h.ag a (by unfold S5; omega) (fun k hk => ?_)
  have := h.gap hk hj
  unfold S5
  omega
theorem PLi.s5 {M M' : AM} {m k : Nat} (h : PLi D m k M) (hm : 58 ≤ m) (a : Ag (S5 m) M M') : PLi D m k M' := h.ag a (fun i => by unfold S5; omega)
theorem HT.fail {M : AM} {m : Nat} {hh : Nat → Int} {x y : Int32} (h : HT M m D hh) : HT (wrI (wrI M m 8 x) m 9 y) m D hh := fun i hi => by simp (disch := omega) only [wrI_s, wrI_r, wrI_j, wrJ_s, wrJ_r, wrJ_j, wrI_J, wrJ_I, wrR_I, wrR_J]; exact h i hi
theorem l_heights {m j : Nat} {mr : Nat → Nat} (hj : j < dc D) (hm : m = mr j) (hff : ∀ i, i < dn D → ff D i = 0) : ∀ (f k : Nat) (M : AM), dn D - k = f → k ≤ dn D → St M → MC M m D → PC M mr D → PLi D m (dn D) M → HT M m D (hp D k).1 → (hp D k).2 = (0, -1) → mI M m 8 = 0 → mI M m 9 = -1 →
    ∃ M', E K_X2_findHeights 32 [some (aR (some 7)), some (aR (some m)), some (aI (nI k)), none] [] M none M' ∧ Ag (S5 m) M M' ∧ mI M' m 8 = iI (hp D (dn D)).2.1 ∧ mI M' m 9 = iI (hp D (dn D)).2.2 ∧ ((hp D (dn D)).2.1 = 0 → HT M' m D (hp D (dn D)).1) := by
  intro f
  induction f with
  | zero =>
    intro k M hf hkn hS h hpc hP hH h0 h8 h9
    have e : k = dn D := by omega
    subst e
    have hN := h.1.2.2
    refine ⟨M, ?_, Ag.rf, by rw [h0]; exact h8, by rw [h0]; exact h9, fun _ => hH⟩
    have hg : mI M m 7 ≤ nI (dn D) := by rw [h.1.2.1, le32]; omega
    apply s_X2_findHeights_32 (M1 := M) (M2 := M) (x103 := 0) hS h.1.1
    case k1 => exact fun _ => ⟨rfl, rfl⟩
    all_goals (intro g; exact absurd hg g)
  | succ f ih =>
    intro k M hf hkn hS h hpc hP hH h0 h8 h9
    have hN := h.1.2.2
    have hk' : k < dn D := by omega
    have hd := h.ds hpc
    have hR := hp_r hd hff k (by omega)
    have hRk := hR k hk'
    have hg : ¬ mI M m 7 ≤ nI k := by rw [h.1.2.1, le32, ci _ (by omega), ci _ (by omega)]; omega
    have ck := cl_n (n := k) (by omega)
    have e1 : nI k + 1 = nI (k + 1) := nI_1 k
    have hHk := hH k hk'
    have h01 : (hp D k).2.1 = 0 := by rw [h0]
    by_cases c : (hp D k).1 k < 0
    · have es : hp D (k + 1) = hp D k := by rw [hp, if_pos h01, if_pos c]
      obtain ⟨M', hE, hr⟩ := ih (k + 1) M (by omega) (by omega) hS h hpc hP (by rw [es]; exact hH) (by rw [es]; exact h0) h8 h9
      refine ⟨M', ?_, hr⟩
      apply s_X2_findHeights_32 (M1 := M) (M2 := M) (x103 := 0) hS h.1.1
      case k1 => exact fun g => absurd g hg
      case b2 => exact fun _ => in_n (by omega) (by omega)
      case k3 => intros; rw [e1]; exact hE.fg ⟨Or.inr rfl, Or.inr rfl, Or.inr rfl, Or.inl rfl, trivial⟩
      all_goals (clear hE hr; intros; exfalso; simp only [lt32, le32, eq32, lt64, le64, eq64, Int32.reduceToInt, Int64.reduceToInt, ck, hHk] at *; omega)
    · obtain ⟨M1, hE1, hA1, hH1⟩ := v_foh hS h hpc hP hH hR hk' (by omega) (hff k hk')
      have hr := hk_r (D := D) k (hp D k).1
      have ek := iI_t (k := hk D k (hp D k).1) (by omega) (by omega)
      have a5 := S4.s5 hA1
      have hS1 := a5.st hS
      have h1 := h.s5 a5
      have z0 : iI (hk D k (hp D k).1) = 0 ↔ hk D k (hp D k).1 = 0 := by rw [eq32, ek]; exact Iff.rfl
      have h81 : mI M1 m 8 = 0 := by rw [hA1.i (by unfold S4; omega)]; exact h8
      have h91 : mI M1 m 9 = -1 := by rw [hA1.i (by unfold S4; omega)]; exact h9
      by_cases c2 : hk D k (hp D k).1 = 0
      · have es : hp D (k + 1) = (hn D k (hp D k).1, 0, -1) := by rw [hp, if_pos h01, if_neg c, if_pos c2]
        obtain ⟨M', hE, hA', hr'⟩ := ih (k + 1) M1 (by omega) (by omega) hS1 h1 (hpc.s5 hj hm a5) (hP.s5 h.1.1.1 a5) (by rw [es]; exact hH1 c2) (by rw [es]) h81 h91
        refine ⟨M', ?_, a5.tr hA', hr'⟩
        apply s_X2_findHeights_32 (M1 := M1) (M2 := M) (x103 := iI (hk D k (hp D k).1)) hS h.1.1
        case k1 => exact fun g => absurd g hg
        case b2 => exact fun _ => in_n (by omega) (by omega)
        case k3 => intro _ g; rw [ck, eq32, hHk] at g; have g : (hp D k).1 k = -1 := g; omega
        case c4 => intros; exact hE1
        case k5 => intros; rw [e1]; exact hE.fg ⟨Or.inr rfl, Or.inr rfl, Or.inr rfl, Or.inl rfl, trivial⟩
        case c6 => intro _ _ g; exact absurd (z0.mpr c2) g
        case k7 => intro _ _ g; exact absurd (z0.mpr c2) g
      · have es : hp D (k + 1) = ((hp D k).1, hk D k (hp D k).1, (k : Int)) := by rw [hp, if_pos h01, if_neg c, if_neg c2]
        have est := hp_stop (D := D) (k := k + 1) (by rw [es]; exact c2) (dn D - (k + 1))
        rw [show k + 1 + (dn D - (k + 1)) = dn D by omega, es] at est
        rw [est]
        have hA2 : Ag (S5 m) M1 (wrI (wrI M1 m 8 (iI (hk D k (hp D k).1))) m 9 (nI k)) := (Ag.rf.wI (Or.inr ⟨rfl, Or.inl rfl⟩)).wI (Or.inr ⟨rfl, Or.inr rfl⟩)
        refine ⟨_, ?_, a5.tr hA2, by simp (disch := omega) only [wrI_s, wrI_r, wrI_j, wrJ_s, wrJ_r, wrJ_j, wrI_J, wrJ_I, wrR_I, wrR_J], by rw [wrI_s, nI_i (by omega)], fun z => absurd z c2⟩
        apply s_X2_findHeights_32 (M1 := M1) (M2 := wrI (wrI M1 m 8 (iI (hk D k (hp D k).1))) m 9 (nI k)) (x103 := iI (hk D k (hp D k).1)) hS h.1.1
        case k1 => exact fun g => absurd g hg
        case b2 => exact fun _ => in_n (by omega) (by omega)
        case k3 => intro _ g; rw [ck, eq32, hHk] at g; have g : (hp D k).1 k = -1 := g; omega
        case c4 => intros; exact hE1
        case k5 => intro _ _ g; exact absurd (z0.mp g) c2
        case c6 => intros; exact v_fail hS1 h1.1.1 _ _
        case k7 => intros; exact ⟨rfl, rfl⟩
theorem v_findHeights {m j : Nat} {mr : Nat → Nat} {M : AM} (hj : j < dc D) (hm : m = mr j) (hff : ∀ i, i < dn D → ff D i = 0) (hS : St M) (h : MC M m D) (hpc : PC M mr D) (hP : PLi D m (dn D) M) (h8 : mI M m 8 = 0) (h9 : mI M m 9 = -1) :
    ∃ M', Ev K_X2_findHeights [aR (some 7), aR (some m)] M none M' ∧ Ag (S5 m) M M' ∧ mI M' m 8 = iI (if dn D = 0 then (9, 0) else (hp D (dn D)).2).1 ∧ mI M' m 9 = iI (if dn D = 0 then (9, 0) else (hp D (dn D)).2).2 ∧ (dn D ≠ 0 → (hp D (dn D)).2.1 = 0 → HT M' m D (hp D (dn D)).1) := by
  have hN := h.1.2.2
  obtain ⟨M1, hE1, hA1, hI1⟩ := v_fill (x := -1) h.1.1.l4 h.1.1.n4 (by omega)
  have a5 : Ag (S5 m) M M1 := hA1.mo (fun r j z => Or.inl z)
  have h1 := h.s5 a5
  have hS1 := a5.st hS
  by_cases e : dn D = 0
  · rw [if_pos e]
    have hA2 : Ag (S5 m) M1 (wrI (wrI M1 m 8 9) m 9 0) := (Ag.rf.wI (Or.inr ⟨rfl, Or.inl rfl⟩)).wI (Or.inr ⟨rfl, Or.inr rfl⟩)
    refine ⟨_, ?_, a5.tr hA2, by simp (disch := omega) only [wrI_s, wrI_r, wrI_j, wrJ_s, wrJ_r, wrJ_j, wrI_J, wrJ_I, wrR_I, wrR_J]; rfl, by rw [wrI_s]; rfl, fun z => absurd e z⟩
    apply s_X2_findHeights_0 (M1 := M1) (M2 := wrI (wrI M1 m 8 9) m 9 0) hS h.1.1
    case c1 => exact hE1
    case c4 => intro _; exact v_fail hS1 h1.1.1 _ _
    case k5 => intro _; exact ⟨rfl, rfl⟩
    all_goals (intro g; exact absurd (by rw [h1.1.2.1, e]; rfl) g)
  · rw [if_neg e]
    have hA2 : Ag (S5 m) M1 (wrI M1 (m + 4) 0 0) := Ag.rf.wI (Or.inl rfl)
    have hA := a5.tr hA2
    have h81 : mI (wrI M1 (m + 4) 0 0) m 8 = 0 := by simp (disch := omega) only [wrI_s, wrI_r, wrI_j, wrJ_s, wrJ_r, wrJ_j, wrI_J, wrJ_I, wrR_I, wrR_J]; rw [hA1.i (by omega)]; exact h8
    have h91 : mI (wrI M1 (m + 4) 0 0) m 9 = -1 := by simp (disch := omega) only [wrI_s, wrI_r, wrI_j, wrJ_s, wrJ_r, wrJ_j, wrI_J, wrJ_I, wrR_I, wrR_J]; rw [hA1.i (by omega)]; exact h9
    have hHT : HT (wrI M1 (m + 4) 0 0) m D (hp D 0).1 := fun i hi => by
      show _ = h0f i
      unfold h0f
      by_cases z : i = 0
      · rw [z, wrI_s, if_pos rfl]; rfl
      · rw [wrI_j z, if_neg z, hI1 i (by omega)]; rfl
    obtain ⟨M', hE, hA', hr⟩ := l_heights hj hm hff _ 0 _ rfl (by omega) (hA.st hS) (h.s5 hA) (hpc.s5 hj hm hA) (hP.s5 h.1.1.1 hA) hHT rfl h81 h91
    refine ⟨M', ?_, hA.tr hA', hr.1, hr.2.1, fun _ => hr.2.2⟩
    apply s_X2_findHeights_0 (M1 := M1) (M2 := M1) hS h.1.1
    case c1 => exact hE1
    case b2 => intro _; exact in_n (n := 0) (by omega) (by omega)
    case k3 => intro _; exact hE
    all_goals (intro g; rw [h1.1.2.1, eq32, ci _ (by omega)] at g; have g : (dn D : Int) = 0 := g; omega)
/-- what was found of the METHOD D stands in its object -/
def CG (M : AM) (m : Nat) (D : DD) : Prop := mI M m 8 = iI (chk D).1 ∧ mI M m 9 = iI (chk D).2 ∧ ((chk D).1 = 0 → ∀ i, i < dn D → (mI M (m + 4) i).toInt = HH D i ∧ (mI M (m + 3) i).toInt = mat D (dn D) i)
def SI (m : Nat) : Nat → Nat → Prop := fun r j => r = 8 ∨ r = 9 ∨ r = 10 ∨ r = m + 3 ∨ r = m + 4 ∨ (r = m ∧ (j = 8 ∨ j = 9))
theorem MC.si {M M' : AM} {m : Nat} (h : MC M m D) (a : Ag (SI m) M M') : MC M' m D := by
  have := h.1.1.1
  refine h.ag a ?_ ?_ ?_ (fun i => ?_) (fun i => ?_) <;> (unfold SI; omega)
theorem PC.si {M M' : AM} {mr : Nat → Nat} {m j : Nat} (h : PC M mr D) (hj : j < dc D) (hm : m = mr j) (a : Ag (SI m) M M') : PC M' mr D := by
  have h58 := (h.1.2.2.1 j hj).2.1
  refine h.ag a (by unfold SI; omega) (fun k hk => ?_)
  have := h.gap hk hj
  have := (h.1.2.2.1 k hk).2.1
  unfold SI
  omega
theorem v_inspect {m j : Nat} {mr : Nat → Nat} {M : AM} (hj : j < dc D) (hm : m = mr j) (hS : St M) (h : MC M m D) (hpc : PC M mr D) : ∃ M', Ev K_X2_inspect [aR (some 7), aR (some m)] M none M' ∧ Ag (SI m) M M' ∧ CG M' m D := by
  have h58 := h.1.1.1
  have a1 : Ag (SI m) M (wrI (wrI M m 8 0) m 9 (-1)) := (Ag.rf.wI (by unfold SI; omega)).wI (by unfold SI; omega)
  have c1 := v_fail hS h.1.1 0 (-1)
  have hS1 := a1.st hS
  have h1 := h.si a1
  have hp1 := hpc.si hj hm a1
  obtain ⟨M2, c2, a2, hP⟩ := v_pairLoops hS1 h1
  have a2' : Ag (SI m) _ M2 := a2.mo (fun r j z => by unfold Spl at z; unfold SI; omega)
  have hS2 := a2.st hS1
  have h2 := h1.si a2'
  have hp2 := hp1.si hj hm a2'
  have e8 : mI M2 m 8 = 0 := by rw [a2.i (by unfold Spl; omega)]; simp (disch := omega) only [wrI_s, wrI_r, wrI_j, wrJ_s, wrJ_r, wrJ_j, wrI_J, wrJ_I, wrR_I, wrR_J]
  have e9 : mI M2 m 9 = -1 := by rw [a2.i (by unfold Spl; omega)]; simp (disch := omega) only [wrI_s, wrI_r, wrI_j, wrJ_s, wrJ_r, wrJ_j, wrI_J, wrJ_I, wrR_I, wrR_J]
  have c3 := v_ffof hS2 h2 hp2 hP
  by_cases z : (fsc (ff D) (dn D)).1 = 0
  · have e3 : wF M2 m (fsc (ff D) (dn D)) = M2 := by unfold wF; rw [if_pos z]
    rw [e3] at c3
    have c4 := v_isSound hS2 h2.1.1
    rw [if_pos e8] at c4
    obtain ⟨M5, c5, a5, r8, r9, rh⟩ := v_findHeights hj hm (fsc_zero z) hS2 h2 hp2 hP e8 e9
    have a5' : Ag (SI m) M2 M5 := a5.mo (fun r j z => by unfold S5 at z; unfold SI; omega)
    have ech : chk D = if dn D = 0 then (9, 0) else (hp D (dn D)).2 := by unfold chk; rw [if_pos z]
    refine ⟨M5, ?_, (a1.tr a2').tr a5', by rw [ech]; exact r8, by rw [ech]; exact r9, fun q i hi => ?_⟩
    · apply s_X2_inspect_0 (M3 := M2) (M4 := M2) (M5 := M5) (x101 := 1) hS h.1.1 c1 c2 c3 c4
      case k5 => intro g; exact absurd g (by decide)
      case c6 => exact fun _ => c5
      case k7 => exact fun _ => ⟨rfl, rfl⟩
    · rw [ech, if_neg (by omega)] at q
      refine ⟨rh (by omega) q i hi, ?_⟩
      rw [a5.i (by unfold S5; omega)]
      exact (hP.1 i hi).2.2
  · have e3 : wF M2 m (fsc (ff D) (dn D)) = wrI (wrI M2 m 8 (iI (fsc (ff D) (dn D)).1)) m 9 (iI (fsc (ff D) (dn D)).2) := by unfold wF; rw [if_neg z]
    rw [e3] at c3
    have a3 : Ag (SI m) M2 (wrI (wrI M2 m 8 (iI (fsc (ff D) (dn D)).1)) m 9 (iI (fsc (ff D) (dn D)).2)) := (Ag.rf.wI (by unfold SI; omega)).wI (by unfold SI; omega)
    have ech : chk D = fsc (ff D) (dn D) := by unfold chk; rw [if_neg z]
    have fr : 0 ≤ (fsc (ff D) (dn D)).1 ∧ (fsc (ff D) (dn D)).1 ≤ 4 := by
      generalize dn D = n
      induction n with
      | zero => exact ⟨Int.le_refl _, by show (0 : Int) ≤ 4; omega⟩
      | succ n ih =>
        have := ff_r (D := D) n
        unfold fsc
        repeat' split
        · exact ⟨Int.le_refl _, by show (0 : Int) ≤ 4; omega⟩
        · exact this
        · exact ih
    have ez := iI_t (k := (fsc (ff D) (dn D)).1) (by omega) (by omega)
    have c4 := v_isSound (a3.st hS2) (a3.mt h2.1.1)
    rw [if_neg (by rw [show mI (wrI (wrI M2 m 8 (iI (fsc (ff D) (dn D)).1)) m 9 (iI (fsc (ff D) (dn D)).2)) m 8 = iI (fsc (ff D) (dn D)).1 by simp (disch := omega) only [wrI_s, wrI_r, wrI_j, wrJ_s, wrJ_r, wrJ_j, wrI_J, wrJ_I, wrR_I, wrR_J], eq32, ez]; exact z)] at c4
    refine ⟨_, ?_, (a1.tr a2').tr a3, by rw [ech]; simp (disch := omega) only [wrI_s, wrI_r, wrI_j, wrJ_s, wrJ_r, wrJ_j, wrI_J, wrJ_I, wrR_I, wrR_J], by rw [ech]; simp (disch := omega) only [wrI_s, wrI_r, wrI_j, wrJ_s, wrJ_r, wrJ_j, wrI_J, wrJ_I, wrR_I, wrR_J], fun q => absurd (by rw [← ech]; exact q) z⟩
    apply s_X2_inspect_0 (M3 := wrI (wrI M2 m 8 (iI (fsc (ff D) (dn D)).1)) m 9 (iI (fsc (ff D) (dn D)).2)) (M4 := wrI (wrI M2 m 8 (iI (fsc (ff D) (dn D)).1)) m 9 (iI (fsc (ff D) (dn D)).2)) (M5 := M) (x101 := 0) hS h.1.1 c1 c2 c3 c4
    case k5 => intro g; exact ⟨rfl, rfl⟩
    all_goals (intro g; exact absurd rfl g)
end INS
