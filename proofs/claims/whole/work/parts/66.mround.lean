/-! ===== PURE: the reference's faulty and circular ones ===== -/
theorem ix32 (a b : Nat) : (32 : Int32) * nI a + nI b = nI (32 * a + b) := by
  show nI 32 * nI a + nI b = _
  rw [nI_mul, nI_add]
theorem cx32 {a b : Nat} (ha : a < 32) (hb : b < 32) : ((32 : Int32) * nI a + nI b).toNatClampNeg = 32 * a + b := by rw [ix32, cl_n (by omega)]
theorem bx32 {a b : Nat} (ha : a < 32) (hb : b < 32) : vp_in ((32 : Int32) * nI a + nI b) 1024 := by rw [ix32]; exact in_n (by omega) (by omega)
section RND
variable {P : PG} {s : Nat}
def S41 : Nat → Nat → Prop := fun r _ => r = 41
theorem l_an158 : ∀ (f k : Nat) (M : AM) (x : Int32), pc P - k = f → k ≤ pc P → St M → AX M P → R40 M P s → (x = 0 ∨ x = 1) → (x = 1 ↔ ∃ b, b < k ∧ Rch P s b ∧ ¬ Sd (DP P b)) → (∀ b, b < k → (mI M 41 b = 0 ∨ mI M 41 b = 1) ∧ (mI M 41 b = 1 ↔ Rch P s b ∧ ¬ Sd (DP P b))) →
    ∃ M1 x1, Ag S41 M M1 ∧ (x1 = 0 ∨ x1 = 1) ∧ (x1 = 1 ↔ ∃ b, b < pc P ∧ Rch P s b ∧ ¬ Sd (DP P b)) ∧ (∀ b, b < pc P → (mI M1 41 b = 0 ∨ mI M1 41 b = 1) ∧ (mI M1 41 b = 1 ↔ Rch P s b ∧ ¬ Sd (DP P b))) ∧ (∀ b, pc P ≤ b → mI M1 41 b = mI M 41 b) ∧
    (∀ (v : Option AV) (M' : AM), E K_X7_analyseFrom 158 [some (aR (some 26)), some (aI (nI s)), some (aI x1), some (aI 0), some (aI (nI (pc P))), none] [] M1 v M' → E K_X7_analyseFrom 158 [some (aR (some 26)), some (aI (nI s)), some (aI x), some (aI 0), some (aI (nI k)), none] [] M v M') := by
  intro f
  induction f with
  | zero =>
    intro k M x hf hk hS h hR hx hx2 h41
    have e : k = pc P := by omega
    subst e
    exact ⟨M, x, Ag.rf, hx, hx2, h41, fun _ _ => rfl, fun _ _ z => z⟩
  | succ f ih =>
    intro k M x hf hk hS h hR hx hx2 h41
    have hpc := h.1.2.1
    have hk' : k < pc P := by omega
    have hg : ¬ mI M 26 4 ≤ nI k := by rw [h.1.1, le32, ci _ (by omega), ci _ (by omega)]; omega
    have ck := cl_n (n := k) (by omega)
    have hs2 := (h.snd hk').2
    have r1 := hR.2 k (by omega)
    have r0 := hR.1.n (b := k) (by omega)
    have st : ∀ w : Int32, (w = 0 ∨ w = 1) → (w = 1 ↔ Rch P s k ∧ ¬ Sd (DP P k)) → ∃ M1 x1, Ag S41 M M1 ∧ (x1 = 0 ∨ x1 = 1) ∧ (x1 = 1 ↔ ∃ b, b < pc P ∧ Rch P s b ∧ ¬ Sd (DP P b)) ∧ (∀ b, b < pc P → (mI M1 41 b = 0 ∨ mI M1 41 b = 1) ∧ (mI M1 41 b = 1 ↔ Rch P s b ∧ ¬ Sd (DP P b))) ∧ (∀ b, pc P ≤ b → mI M1 41 b = mI M 41 b) ∧
        (∀ (v : Option AV) (M' : AM), E K_X7_analyseFrom 158 [some (aR (some 26)), some (aI (nI s)), some (aI x1), some (aI 0), some (aI (nI (pc P))), none] [] M1 v M' → E K_X7_analyseFrom 158 [some (aR (some 26)), some (aI (nI s)), some (aI (x ||| mI (wrI M 41 k w) 41 k)), some (aI 0), some (aI (nI (k + 1))), none] [] (wrI M 41 k w) v M') := fun w hw1 hw2 => by
      have a : Ag S41 M (wrI M 41 k w) := Ag.rf.wI rfl
      have hk1 : pc P - (k + 1) = f := by clear hx2; omega
      have xw : (x ||| w = 0 ∨ x ||| w = 1) ∧ (x ||| w = 1 ↔ x = 1 ∨ w = 1) := by rcases hx with z | z <;> rcases hw1 with q | q <;> rw [z, q] <;> decide
      rw [wrI_s]
      obtain ⟨M1, x1, a1, q1, q2, q3, q4, q5⟩ := ih (k + 1) (wrI M 41 k w) (x ||| w) hk1 hk' (a.st hS) (h.ag a (fun r i z => by unfold S41 at z; omega)) ⟨fun b hb => by rw [wrI_r (by omega)]; exact hR.1 b hb, fun b hb => by rw [wrI_r (by omega)]; exact hR.2 b hb⟩ xw.1 (by
          rw [xw.2, hx2, hw2]
          constructor
          · rintro (⟨b, z⟩ | z)
            · exact ⟨b, by omega, z.2⟩
            · exact ⟨k, by omega, z⟩
          · rintro ⟨b, z1, z2⟩
            by_cases e : b = k
            · rw [e] at z2; exact Or.inr z2
            · exact Or.inl ⟨b, by omega, z2⟩) (fun b hb => by
          by_cases e : b = k
          · rw [e, wrI_s]; exact ⟨hw1, hw2⟩
          · rw [wrI_j e]; exact h41 b (by omega))
      exact ⟨M1, x1, a.tr a1, q1, q2, q3, fun b hb => by rw [q4 b hb, wrI_j (by omega)], q5⟩
    by_cases c : Rch P s k ∧ ¬ Sd (DP P k)
    · obtain ⟨M1, x1, a1, q1, q2, q3, q4, q5⟩ := st 1 (Or.inr rfl) ⟨fun _ => c, fun _ => rfl⟩
      refine ⟨M1, x1, a1, q1, q2, q3, q4, fun v M' z => ?_⟩
      apply s_X7_analyseFrom_158 (M1 := M) (M2 := M) (x103 := 0) (x105 := 0) hS
      case b6 => intros; exact in_n (by omega) (by omega)
      case k7 => intro _ g; rw [ck] at g; exact absurd g (r0.mpr (r1.mpr c.1))
      case k8 => intro _ _ g; rw [ck] at g; exact absurd (hs2.mp g) c.2
      case k9 => intros; rw [ck, nI_1]; exact q5 v M' z
      all_goals (intro g; exact absurd g hg)
    · obtain ⟨M1, x1, a1, q1, q2, q3, q4, q5⟩ := st 0 (Or.inl rfl) ⟨fun z => absurd z (by decide), fun z => absurd z c⟩
      refine ⟨M1, x1, a1, q1, q2, q3, q4, fun v M' z => ?_⟩
      apply s_X7_analyseFrom_158 (M1 := M) (M2 := M) (x103 := 0) (x105 := 0) hS
      case b6 => intros; exact in_n (by omega) (by omega)
      case k7 => intros; rw [ck, nI_1]; exact q5 v M' z
      case k8 => intros; rw [ck, nI_1]; exact q5 v M' z
      case k9 => intro _ g g2; rw [ck] at g g2; exact absurd ⟨r1.mp (r0.mp g), fun z => g2 (hs2.mpr z)⟩ c
      all_goals (intro g; exact absurd g hg)
/-- calls from what is reached -/
def CLr (P : PG) (s a b : Nat) : Prop := Rch P s a ∧ CL P a b
def S49 : Nat → Nat → Prop := fun r _ => r = 49
def E49 (M : AM) (a b : Nat) (R : Prop) : Prop := (mI M 49 (32 * a + b) = 0 ∨ mI M 49 (32 * a + b) = 1) ∧ (mI M 49 (32 * a + b) = 1 ↔ R)
theorem E49.n {M : AM} {a b : Nat} {R : Prop} (h : E49 M a b R) : mI M 49 (32 * a + b) = 0 ↔ ¬ R := by
  rcases h.1 with z | z
  · exact ⟨fun _ r => by rw [h.2.mpr r] at z; exact absurd z (by decide), fun _ => z⟩
  · exact ⟨fun w => by rw [z] at w; exact absurd w (by decide), fun w => absurd (h.2.mp z) w⟩
theorem E49.iff {M : AM} {a b : Nat} {R R' : Prop} (h : E49 M a b R) (i : R ↔ R') : E49 M a b R' := ⟨h.1, h.2.trans i⟩
theorem AX.s49 {M M' : AM} (h : AX M P) (a : Ag S49 M M') : AX M' P := h.ag a (fun r i z => by unfold S49 at z; omega)
theorem R40.ag {S : Nat → Nat → Prop} {M M' : AM} (h : R40 M P s) (a : Ag S M M') (hs : ∀ i, ¬ S 40 i) : R40 M' P s := ⟨fun b hb => by rw [a.i (hs b)]; exact h.1 b hb, fun b hb => by rw [a.i (hs b)]; exact h.2 b hb⟩
theorem l_r12 {m : Nat} (hm : m < pc P) (hf0 : ¬ Fau P s) : ∀ (f k : Nat) (M : AM), pc P - k = f → k ≤ pc P → St M → AX M P → R40 M P s → (∀ a b, a < pc P → b < pc P → (a < m ∨ (a = m ∧ b < k)) → E49 M a b (CLr P s a b)) →
    ∃ M1, Ag S49 M M1 ∧ (∀ a b, a < pc P → b < pc P → a < m + 1 → E49 M1 a b (CLr P s a b)) ∧ (∀ (v : Option AV) (M' : AM), E K_X7_isRound 2 [some (aR (some 26)), some (aI (nI (m + 1))), none, none] [] M1 v M' → E K_X7_isRound 12 [some (aR (some 26)), some (aI (nI m)), some (aI (nI k)), none] [] M v M') := by
  intro f
  induction f with
  | zero =>
    intro k M hf hk hS h hR hE
    have e : k = pc P := by omega
    subst e
    have hg : mI M 26 4 ≤ nI (pc P) := by rw [h.1.1, le32]; omega
    refine ⟨M, Ag.rf, fun a b ha hb hab => hE a b ha hb (by omega), fun v M' z => ?_⟩
    apply s_X7_isRound_12 (M1 := M) (x103 := 0) hS
    case k1 => intros; rw [nI_1]; exact z.fg ⟨Or.inr rfl, Or.inr rfl, Or.inl rfl, Or.inr rfl, trivial⟩
    all_goals (intro g; exact absurd hg g)
  | succ f ih =>
    intro k M hf hk hS h hR hE
    have hpc := h.1.2.1
    have hk' : k < pc P := by omega
    have hg : ¬ mI M 26 4 ≤ nI k := by rw [h.1.1, le32, ci _ (by omega), ci _ (by omega)]; omega
    have cm := cl_n (n := m) (by omega)
    have ck := cx32 (a := m) (b := k) (by omega) (by omega)
    have r1 := hR.2 m (by omega)
    have r0 := hR.1.n (b := m) (by omega)
    have st : ∀ w : Int32, (w = 0 ∨ w = 1) → (w = 1 ↔ CLr P s m k) → ∃ M1, Ag S49 M M1 ∧ (∀ a b, a < pc P → b < pc P → a < m + 1 → E49 M1 a b (CLr P s a b)) ∧ (∀ (v : Option AV) (M' : AM), E K_X7_isRound 2 [some (aR (some 26)), some (aI (nI (m + 1))), none, none] [] M1 v M' → E K_X7_isRound 12 [some (aR (some 26)), some (aI (nI m)), some (aI (nI (k + 1))), none] [] (wrI M 49 (32 * m + k) w) v M') := fun w hw1 hw2 => by
      have a : Ag S49 M (wrI M 49 (32 * m + k) w) := Ag.rf.wI rfl
      obtain ⟨M1, a1, q1, q2⟩ := ih (k + 1) _ (by omega) (by omega) (a.st hS) (h.s49 a) (hR.ag a (fun i => by unfold S49; omega)) (fun a' b' ha hb hab => by
        unfold E49
        by_cases e : a' = m ∧ b' = k
        · rw [e.1, e.2, wrI_s]; exact ⟨hw1, hw2⟩
        · rw [wrI_j (by omega)]; exact hE a' b' ha hb (by omega))
      exact ⟨M1, a.tr a1, q1, q2⟩
    by_cases r : Rch P s m
    · have sd : Sd (DP P m) := Classical.byContradiction (fun z => hf0 ⟨m, r, z⟩)
      obtain ⟨b, hb1, hb2⟩ := v_calls7 hm hk' sd hS h
      by_cases c : CL P m k
      · obtain ⟨M1, a1, q1, q2⟩ := st 1 (Or.inr rfl) ⟨fun _ => ⟨r, c⟩, fun _ => rfl⟩
        refine ⟨M1, a1, q1, fun v M' z => ?_⟩
        apply s_X7_isRound_12 (M1 := M) (x103 := b) hS
        case k1 => intro g; exact absurd g hg
        case b2 => intros; exact in_n (by omega) (by omega)
        case b3 => intros; exact bx32 (by omega) (by omega)
        case k4 => intro _ g; rw [cm] at g; exact absurd g (r0.mpr (r1.mpr r))
        case c5 => intros; exact hb1
        case b6 => intros; exact bx32 (by omega) (by omega)
        case k7 => intro _ _ g; exact absurd c (hb2.mp g)
        case b8 => intros; exact bx32 (by omega) (by omega)
        case k9 => intros; rw [ck, nI_1]; exact q2 v M' z
      · obtain ⟨M1, a1, q1, q2⟩ := st 0 (Or.inl rfl) ⟨fun z => absurd z (by decide), fun z => absurd z.2 c⟩
        refine ⟨M1, a1, q1, fun v M' z => ?_⟩
        apply s_X7_isRound_12 (M1 := M) (x103 := b) hS
        case k1 => intro g; exact absurd g hg
        case b2 => intros; exact in_n (by omega) (by omega)
        case b3 => intros; exact bx32 (by omega) (by omega)
        case k4 => intro _ g; rw [cm] at g; exact absurd g (r0.mpr (r1.mpr r))
        case c5 => intros; exact hb1
        case b6 => intros; exact bx32 (by omega) (by omega)
        case k7 => intros; rw [ck, nI_1]; exact q2 v M' z
        case b8 => intros; exact bx32 (by omega) (by omega)
        case k9 => intro _ _ g; exact absurd (hb2.mpr c) g
    · obtain ⟨M1, a1, q1, q2⟩ := st 0 (Or.inl rfl) ⟨fun z => absurd z (by decide), fun z => absurd z.1 r⟩
      refine ⟨M1, a1, q1, fun v M' z => ?_⟩
      apply s_X7_isRound_12 (M1 := M) (x103 := 0) hS
      case k1 => intro g; exact absurd g hg
      case b2 => intros; exact in_n (by omega) (by omega)
      case b3 => intros; exact bx32 (by omega) (by omega)
      case k4 => intros; rw [ck, nI_1]; exact q2 v M' z
      case b6 => intros; exact bx32 (by omega) (by omega)
      case b8 => intros; exact bx32 (by omega) (by omega)
      all_goals (intro _ g; rw [cm] at g; exact absurd (r1.mp (r0.mp g)) r)
theorem l_r2 (hf0 : ¬ Fau P s) : ∀ (f m : Nat) (M : AM), pc P - m = f → m ≤ pc P → St M → AX M P → R40 M P s → (∀ a b, a < pc P → b < pc P → a < m → E49 M a b (CLr P s a b)) →
    ∃ M1, Ag S49 M M1 ∧ (∀ a b, a < pc P → b < pc P → E49 M1 a b (CLr P s a b)) ∧ (∀ (v : Option AV) (M' : AM), E K_X7_isRound 68 [some (aR (some 26)), some (aI 0), none, none] [] M1 v M' → E K_X7_isRound 2 [some (aR (some 26)), some (aI (nI m)), none, none] [] M v M') := by
  intro f
  induction f with
  | zero =>
    intro m M hf hm hS h hR hE
    have e : m = pc P := by omega
    subst e
    have hg : mI M 26 4 ≤ nI (pc P) := by rw [h.1.1, le32]; omega
    refine ⟨M, Ag.rf, fun a b ha hb => hE a b ha hb ha, fun v M' z => ?_⟩
    apply s_X7_isRound_2 hS
    case k1 => intros; exact z
    case k2 => intro g; exact absurd hg g
  | succ f ih =>
    intro m M hf hm hS h hR hE
    have hpc := h.1.2.1
    have hg : ¬ mI M 26 4 ≤ nI m := by rw [h.1.1, le32, ci _ (by omega), ci _ (by omega)]; omega
    obtain ⟨M1, a1, q1, q2⟩ := l_r12 (m := m) (by omega) hf0 _ 0 M rfl (by omega) hS h hR (fun a b ha hb hab => hE a b ha hb (by omega))
    obtain ⟨M2, a2, r1, r2⟩ := ih (m + 1) M1 (by omega) (by omega) (a1.st hS) (h.s49 a1) (hR.ag a1 (fun i => by unfold S49; omega)) q1
    refine ⟨M2, a1.tr a2, r1, fun v M' z => ?_⟩
    apply s_X7_isRound_2 hS
    case k1 => intro g; exact absurd g hg
    case k2 => intros; exact q2 v M' (r2 v M' z)
theorem l_r88 {R : Nat → Nat → Prop} {u m : Nat} (hu : u < pc P) (hm : m < pc P) : ∀ (f k : Nat) (M : AM), pc P - k = f → k ≤ pc P → St M → AX M P → (∀ a b, a < pc P → b < pc P → (a < m ∨ (a = m ∧ b < k)) → E49 M a b (cloR R (u + 1) a b)) → (∀ a b, a < pc P → b < pc P → ¬ (a < m ∨ (a = m ∧ b < k)) → E49 M a b (cloR R u a b)) →
    ∃ M1, Ag S49 M M1 ∧ (∀ a b, a < pc P → b < pc P → a < m + 1 → E49 M1 a b (cloR R (u + 1) a b)) ∧ (∀ a b, a < pc P → b < pc P → ¬ a < m + 1 → E49 M1 a b (cloR R u a b)) ∧ (∀ (v : Option AV) (M' : AM), E K_X7_isRound 78 [some (aR (some 26)), some (aI (nI u)), some (aI (nI (m + 1))), none] [] M1 v M' → E K_X7_isRound 88 [some (aR (some 26)), some (aI (nI u)), some (aI (nI m)), some (aI (nI k))] [] M v M') := by
  intro f
  induction f with
  | zero =>
    intro k M hf hk hS h h1 h2
    have e : k = pc P := by omega
    subst e
    have hg : mI M 26 4 ≤ nI (pc P) := by rw [h.1.1, le32]; omega
    refine ⟨M, Ag.rf, fun a b ha hb hab => h1 a b ha hb (by omega), fun a b ha hb hab => h2 a b ha hb (by omega), fun v M' z => ?_⟩
    apply s_X7_isRound_88 hS
    case k1 => intros; rw [nI_1]; exact z.fg ⟨Or.inr rfl, Or.inr rfl, Or.inr rfl, Or.inl rfl, trivial⟩
    all_goals (intro g; exact absurd hg g)
  | succ f ih =>
    intro k M hf hk hS h h1 h2
    have hpc := h.1.2.1
    have hk' : k < pc P := by omega
    have hg : ¬ mI M 26 4 ≤ nI k := by rw [h.1.1, le32, ci _ (by omega), ci _ (by omega)]; omega
    have cmk := cx32 (a := m) (b := k) (by omega) (by omega)
    have cmu := cx32 (a := m) (b := u) (by omega) (by omega)
    have cuk := cx32 (a := u) (b := k) (by omega) (by omega)
    have emk := h2 m k hm hk' (by omega)
    have emu : E49 M m u (cloR R u m u) := by
      by_cases c : u < k
      · exact (h1 m u hm hu (by omega)).iff cloR_col
      · exact h2 m u hm hu (by omega)
    have euk : E49 M u k (cloR R u u k) := by
      by_cases c : u < m ∨ (u = m ∧ k < k)
      · exact (h1 u k hu hk' c).iff cloR_row
      · exact h2 u k hu hk' c
    have st : ∀ w : Int32, (w = 0 ∨ w = 1) → (w = 1 ↔ cloR R (u + 1) m k) → ∃ M1, Ag S49 M M1 ∧ (∀ a b, a < pc P → b < pc P → a < m + 1 → E49 M1 a b (cloR R (u + 1) a b)) ∧ (∀ a b, a < pc P → b < pc P → ¬ a < m + 1 → E49 M1 a b (cloR R u a b)) ∧ (∀ (v : Option AV) (M' : AM), E K_X7_isRound 78 [some (aR (some 26)), some (aI (nI u)), some (aI (nI (m + 1))), none] [] M1 v M' → E K_X7_isRound 88 [some (aR (some 26)), some (aI (nI u)), some (aI (nI m)), some (aI (nI (k + 1)))] [] (wrI M 49 (32 * m + k) w) v M') := fun w hw1 hw2 => by
      have a : Ag S49 M (wrI M 49 (32 * m + k) w) := Ag.rf.wI rfl
      obtain ⟨M1, a1, q1, q2, q3⟩ := ih (k + 1) _ (by omega) (by omega) (a.st hS) (h.s49 a) (fun a' b' ha hb hab => by
        unfold E49
        by_cases e : a' = m ∧ b' = k
        · rw [e.1, e.2, wrI_s]; exact ⟨hw1, hw2⟩
        · rw [wrI_j (by omega)]; exact h1 a' b' ha hb (by omega)) (fun a' b' ha hb hab => by
        unfold E49
        rw [wrI_j (by omega)]; exact h2 a' b' ha hb (by omega))
      exact ⟨M1, a.tr a1, q1, q2, q3⟩
    have o0 : (mI M 49 (32 * m + k) ||| 0 : Int32) = mI M 49 (32 * m + k) := by rcases emk.1 with z | z <;> rw [z] <;> decide
    have o1 : (mI M 49 (32 * m + k) ||| 1 : Int32) = 1 := by rcases emk.1 with z | z <;> rw [z] <;> decide
    by_cases c : cloR R u m u ∧ cloR R u u k
    · obtain ⟨M1, a1, q1, q2, q3⟩ := st 1 (Or.inr rfl) ⟨fun _ => Or.inr c, fun _ => rfl⟩
      refine ⟨M1, a1, q1, q2, fun v M' z => ?_⟩
      apply s_X7_isRound_88 hS
      case k1 => intro g; exact absurd g hg
      case b2 => intros; exact bx32 (by omega) (by omega)
      case b3 => intros; exact bx32 (by omega) (by omega)
      case z4 => intro _ g; rw [cmu] at g; exact absurd c.1 (emu.n.mp g)
      case k5 => intro _ g; rw [cmu] at g; exact absurd c.1 (emu.n.mp g)
      case b6 => intros; exact bx32 (by omega) (by omega)
      case z7 => intro _ _ g; rw [cuk] at g; exact absurd c.2 (euk.n.mp g)
      case k8 => intro _ _ g; rw [cuk] at g; exact absurd c.2 (euk.n.mp g)
      case z9 => intros; rw [cmk, o1]; exact Or.inr rfl
      case k10 => intros; rw [cmk, o1, nI_1]; exact q3 v M' z
    · obtain ⟨M1, a1, q1, q2, q3⟩ := st (mI M 49 (32 * m + k)) emk.1 (by rw [emk.2]; exact ⟨Or.inl, fun z => z.elim id (fun z => absurd z c)⟩)
      refine ⟨M1, a1, q1, q2, fun v M' z => ?_⟩
      apply s_X7_isRound_88 hS
      case k1 => intro g; exact absurd g hg
      case b2 => intros; exact bx32 (by omega) (by omega)
      case b3 => intros; exact bx32 (by omega) (by omega)
      case z4 => intros; rw [cmk, o0]; exact emk.1
      case k5 => intros; rw [cmk, o0, nI_1]; exact q3 v M' z
      case b6 => intros; exact bx32 (by omega) (by omega)
      case z7 => intros; rw [cmk, o0]; exact emk.1
      case k8 => intros; rw [cmk, o0, nI_1]; exact q3 v M' z
      case z9 => intros; rw [cmk, o1]; exact Or.inr rfl
      case k10 =>
        intro _ g g2
        rw [cmu] at g
        rw [cuk] at g2
        exact absurd ⟨Classical.byContradiction (fun z => g (emu.n.mpr z)), Classical.byContradiction (fun z => g2 (euk.n.mpr z))⟩ c
theorem l_r78 {R : Nat → Nat → Prop} {u : Nat} (hu : u < pc P) : ∀ (f m : Nat) (M : AM), pc P - m = f → m ≤ pc P → St M → AX M P → (∀ a b, a < pc P → b < pc P → a < m → E49 M a b (cloR R (u + 1) a b)) → (∀ a b, a < pc P → b < pc P → ¬ a < m → E49 M a b (cloR R u a b)) →
    ∃ M1, Ag S49 M M1 ∧ (∀ a b, a < pc P → b < pc P → E49 M1 a b (cloR R (u + 1) a b)) ∧ (∀ (v : Option AV) (M' : AM), E K_X7_isRound 68 [some (aR (some 26)), some (aI (nI (u + 1))), none, none] [] M1 v M' → E K_X7_isRound 78 [some (aR (some 26)), some (aI (nI u)), some (aI (nI m)), none] [] M v M') := by
  intro f
  induction f with
  | zero =>
    intro m M hf hm hS h h1 h2
    have e : m = pc P := by omega
    subst e
    have hg : mI M 26 4 ≤ nI (pc P) := by rw [h.1.1, le32]; omega
    refine ⟨M, Ag.rf, fun a b ha hb => h1 a b ha hb ha, fun v M' z => ?_⟩
    apply s_X7_isRound_78 hS
    case k1 => intros; rw [nI_1]; exact z.fg ⟨Or.inr rfl, Or.inr rfl, Or.inl rfl, Or.inr rfl, trivial⟩
    case k2 => intro g; exact absurd hg g
  | succ f ih =>
    intro m M hf hm hS h h1 h2
    have hpc := h.1.2.1
    have hg : ¬ mI M 26 4 ≤ nI m := by rw [h.1.1, le32, ci _ (by omega), ci _ (by omega)]; omega
    obtain ⟨M1, a1, q1, q2, q3⟩ := l_r88 (R := R) hu (m := m) (by omega) _ 0 M rfl (by omega) hS h (fun a b ha hb hab => h1 a b ha hb (by omega)) (fun a b ha hb hab => h2 a b ha hb (by omega))
    obtain ⟨M2, a2, r1, r2⟩ := ih (m + 1) M1 (by omega) (by omega) (a1.st hS) (h.s49 a1) q1 q2
    refine ⟨M2, a1.tr a2, r1, fun v M' z => ?_⟩
    apply s_X7_isRound_78 hS
    case k1 => intro g; exact absurd g hg
    case k2 => intros; exact q3 v M' (r2 v M' z)
theorem l_r68 {R : Nat → Nat → Prop} : ∀ (f u : Nat) (M : AM), pc P - u = f → u ≤ pc P → St M → AX M P → (∀ a b, a < pc P → b < pc P → E49 M a b (cloR R u a b)) →
    ∃ M1, Ag S49 M M1 ∧ (∀ a b, a < pc P → b < pc P → E49 M1 a b (cloR R (pc P) a b)) ∧ (∀ (v : Option AV) (M' : AM), E K_X7_isRound 165 [some (aR (some 26)), some (aI 0), some (aI 0), none] [] M1 v M' → E K_X7_isRound 68 [some (aR (some 26)), some (aI (nI u)), none, none] [] M v M') := by
  intro f
  induction f with
  | zero =>
    intro u M hf hu hS h h1
    have e : u = pc P := by omega
    subst e
    have hg : mI M 26 4 ≤ nI (pc P) := by rw [h.1.1, le32]; omega
    refine ⟨M, Ag.rf, h1, fun v M' z => ?_⟩
    apply s_X7_isRound_68 hS
    case k1 => intros; exact z
    case k2 => intro g; exact absurd hg g
  | succ f ih =>
    intro u M hf hu hS h h1
    have hpc := h.1.2.1
    have hg : ¬ mI M 26 4 ≤ nI u := by rw [h.1.1, le32, ci _ (by omega), ci _ (by omega)]; omega
    obtain ⟨M1, a1, q1, q2⟩ := l_r78 (R := R) (u := u) (by omega) _ 0 M rfl (by omega) hS h (fun a b ha hb hab => by omega) (fun a b ha hb _ => h1 a b ha hb)
    obtain ⟨M2, a2, r1, r2⟩ := ih (u + 1) M1 (by omega) (by omega) (a1.st hS) (h.s49 a1) q1
    refine ⟨M2, a1.tr a2, r1, fun v M' z => ?_⟩
    apply s_X7_isRound_68 hS
    case k1 => intro g; exact absurd g hg
    case k2 => intros; exact q2 v M' (r2 v M' z)
theorem CZr {a b : Nat} (ha : Rch P s a) : cloR (CLr P s) (pc P) a b ↔ CZ P a b := by
  constructor
  · exact fun z => cloR_in (Q := CZ P) (fun a b q => cloR_dir _ q.2) (fun a b c q1 q2 => q1.tr q2) _ z
  · intro z
    have lt : ∀ a b, cloR (CLr P s) (pc P) a b → b < pc P := fun a b q => (cloR_in (Q := fun a b => a < pc P ∧ b < pc P) (fun a b q => q.2.lt) (fun a b c q1 q2 => ⟨q1.1, q2.2⟩) _ q).2
    have := cloR_in (R := CL P) (Q := fun a b => Rch P s a → (Rch P s b ∧ cloR (CLr P s) (pc P) a b)) (fun a b q r => ⟨r.step (cloR_dir _ q), cloR_dir _ ⟨r, q⟩⟩) (fun a b c q1 q2 r => ⟨(q2 (q1 r).1).1, cloR_tr _ b (lt a b (q1 r).2) (q1 r).2 (q2 (q1 r).1).2⟩) (pc P) z
    exact (this ha).2
def S42 : Nat → Nat → Prop := fun r _ => r = 42
theorem l_r165 : ∀ (f k : Nat) (M : AM) (x : Int32), pc P - k = f → k ≤ pc P → St M → AX M P → R40 M P s → (∀ a b, a < pc P → b < pc P → E49 M a b (cloR (CLr P s) (pc P) a b)) → (x = 0 ∨ x = 1) → (x = 1 ↔ ∃ b, b < k ∧ Rch P s b ∧ CZ P b b) → (∀ b, b < k → (mI M 42 b = 0 ∨ mI M 42 b = 1) ∧ (mI M 42 b = 1 ↔ Rch P s b ∧ CZ P b b)) →
    ∃ M1 x1, E K_X7_isRound 165 [some (aR (some 26)), some (aI x), some (aI (nI k)), none] [] M (some (aI x1)) M1 ∧ Ag S42 M M1 ∧ (x1 = 0 ∨ x1 = 1) ∧ (x1 = 1 ↔ ∃ b, b < pc P ∧ Rch P s b ∧ CZ P b b) ∧ (∀ b, b < pc P → (mI M1 42 b = 0 ∨ mI M1 42 b = 1) ∧ (mI M1 42 b = 1 ↔ Rch P s b ∧ CZ P b b)) ∧ (∀ b, pc P ≤ b → mI M1 42 b = mI M 42 b) := by
  intro f
  induction f with
  | zero =>
    intro k M x hf hk hS h hR hE hx hx2 h42
    have e : k = pc P := by omega
    subst e
    have hg : mI M 26 4 ≤ nI (pc P) := by rw [h.1.1, le32]; omega
    refine ⟨M, x, ?_, Ag.rf, hx, hx2, h42, fun _ _ => rfl⟩
    apply s_X7_isRound_165 hS
    case k1 => intros; exact ⟨rfl, rfl⟩
    case z2 => intros; exact hx
    all_goals (intro g; exact absurd hg g)
  | succ f ih =>
    intro k M x hf hk hS h hR hE hx hx2 h42
    have hpc := h.1.2.1
    have hk' : k < pc P := by omega
    have hg : ¬ mI M 26 4 ≤ nI k := by rw [h.1.1, le32, ci _ (by omega), ci _ (by omega)]; omega
    have ck := cl_n (n := k) (by omega)
    have ckk := cx32 (a := k) (b := k) (by omega) (by omega)
    have r1 := hR.2 k (by omega)
    have r0 := hR.1.n (b := k) (by omega)
    have ekk := hE k k hk' hk'
    have st : ∀ w : Int32, (w = 0 ∨ w = 1) → (w = 1 ↔ Rch P s k ∧ CZ P k k) → ∃ M1 x1, E K_X7_isRound 165 [some (aR (some 26)), some (aI (x ||| mI (wrI M 42 k w) 42 k)), some (aI (nI (k + 1))), none] [] (wrI M 42 k w) (some (aI x1)) M1 ∧ Ag S42 M M1 ∧ (x1 = 0 ∨ x1 = 1) ∧ (x1 = 1 ↔ ∃ b, b < pc P ∧ Rch P s b ∧ CZ P b b) ∧ (∀ b, b < pc P → (mI M1 42 b = 0 ∨ mI M1 42 b = 1) ∧ (mI M1 42 b = 1 ↔ Rch P s b ∧ CZ P b b)) ∧ (∀ b, pc P ≤ b → mI M1 42 b = mI M 42 b) := fun w hw1 hw2 => by
      have a : Ag S42 M (wrI M 42 k w) := Ag.rf.wI rfl
      have hk1 : pc P - (k + 1) = f := by clear hx2; omega
      have xw : (x ||| w = 0 ∨ x ||| w = 1) ∧ (x ||| w = 1 ↔ x = 1 ∨ w = 1) := by rcases hx with z | z <;> rcases hw1 with q | q <;> rw [z, q] <;> decide
      rw [wrI_s]
      obtain ⟨M1, x1, q0, a1, q1, q2, q3, q4⟩ := ih (k + 1) (wrI M 42 k w) (x ||| w) hk1 hk' (a.st hS) (h.ag a (fun r i z => by unfold S42 at z; omega)) (hR.ag a (fun i => by unfold S42; omega)) (fun a' b' ha hb => by unfold E49; rw [wrI_r (by omega)]; exact hE a' b' ha hb) xw.1 (by
          rw [xw.2, hx2, hw2]
          constructor
          · rintro (⟨b, z⟩ | z)
            · exact ⟨b, by omega, z.2⟩
            · exact ⟨k, by omega, z⟩
          · rintro ⟨b, z1, z2⟩
            by_cases e : b = k
            · rw [e] at z2; exact Or.inr z2
            · exact Or.inl ⟨b, by omega, z2⟩) (fun b hb => by
          by_cases e : b = k
          · rw [e, wrI_s]; exact ⟨hw1, hw2⟩
          · rw [wrI_j e]; exact h42 b (by omega))
      exact ⟨M1, x1, q0, a.tr a1, q1, q2, q3, fun b hb => by rw [q4 b hb, wrI_j (by omega)]⟩
    by_cases c : Rch P s k ∧ CZ P k k
    · obtain ⟨M1, x1, q0, qr⟩ := st 1 (Or.inr rfl) ⟨fun _ => c, fun _ => rfl⟩
      refine ⟨M1, x1, ?_, qr⟩
      apply s_X7_isRound_165 hS
      case k1 => intro g; exact absurd g hg
      case z2 => intro g; exact absurd g hg
      case b3 => intros; exact in_n (by omega) (by omega)
      case k4 => intro _ g; rw [ck] at g; exact absurd g (r0.mpr (r1.mpr c.1))
      case b5 => intros; exact bx32 (by omega) (by omega)
      case k6 => intro _ _ g; rw [ckk] at g; exact absurd ((CZr c.1).mpr c.2) (ekk.n.mp g)
      case k7 => intros; rw [ck, nI_1]; exact q0
    · obtain ⟨M1, x1, q0, qr⟩ := st 0 (Or.inl rfl) ⟨fun z => absurd z (by decide), fun z => absurd z c⟩
      refine ⟨M1, x1, ?_, qr⟩
      apply s_X7_isRound_165 hS
      case k1 => intro g; exact absurd g hg
      case z2 => intro g; exact absurd g hg
      case b3 => intros; exact in_n (by omega) (by omega)
      case k4 => intros; rw [ck, nI_1]; exact q0
      case b5 => intros; exact bx32 (by omega) (by omega)
      case k6 => intros; rw [ck, nI_1]; exact q0
      case k7 =>
        intro _ g g2
        rw [ck] at g
        rw [ckk] at g2
        have hr := r1.mp (r0.mp g)
        exact absurd ⟨hr, (CZr hr).mp (Classical.byContradiction (fun z => g2 (ekk.n.mpr z)))⟩ c
def S4249 : Nat → Nat → Prop := fun r _ => r = 42 ∨ r = 49
theorem v_isRound {M : AM} (hf0 : ¬ Fau P s) (hS : St M) (h : AX M P) (hR : R40 M P s) : ∃ M1 x, Ev K_X7_isRound [aR (some 26)] M (some (aI x)) M1 ∧ Ag S4249 M M1 ∧ (x = 0 ∨ x = 1) ∧ (x = 1 ↔ ∃ b, b < pc P ∧ Rch P s b ∧ CZ P b b) ∧ (∀ b, b < pc P → (mI M1 42 b = 0 ∨ mI M1 42 b = 1) ∧ (mI M1 42 b = 1 ↔ Rch P s b ∧ CZ P b b)) ∧ (∀ b, pc P ≤ b → mI M1 42 b = mI M 42 b) ∧ (∀ a b, a < pc P → b < pc P → E49 M1 a b (cloR (CLr P s) (pc P) a b)) := by
  have up : ∀ {M M1 : AM}, Ag S49 M M1 → Ag S4249 M M1 := fun a => a.mo (fun r i z => Or.inr z)
  obtain ⟨M1, a1, e1, k1⟩ := l_r2 hf0 _ 0 M rfl (by omega) hS h hR (fun a b _ _ q => by omega)
  have h1 := h.s49 a1
  obtain ⟨M2, a2, e2, k2⟩ := l_r68 (R := CLr P s) _ 0 M1 rfl (by omega) (a1.st hS) h1 e1
  have a12 := a1.tr a2
  obtain ⟨M3, x, q0, a3, q1, q2, q3, q4⟩ := l_r165 (s := s) _ 0 M2 0 rfl (by omega) (a12.st hS) (h1.s49 a2) (hR.ag a12 (fun i => by unfold S49; omega)) e2 (Or.inl rfl) ⟨fun z => absurd z (by decide), fun ⟨b, z, _⟩ => by omega⟩ (fun b hb => by omega)
  refine ⟨M3, x, s_X7_isRound_0 hS (k1 _ _ (k2 _ _ q0)), (up a12).tr (a3.mo (fun r i z => Or.inl z)), q1, q2, q3, fun b hb => ?_, fun a b ha hb => ?_⟩
  · rw [q4 b hb, a12.i (by unfold S49; omega)]
  · unfold E49
    rw [a3.i (by unfold S42; omega)]
    exact e2 a b ha hb
end RND
