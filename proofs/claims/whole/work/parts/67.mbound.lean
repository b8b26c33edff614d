/-! ===== PURE: the reference's boundAll and analyse ===== -/
section MB
variable {P : PG} {ct : Nat → Nat} {s : Nat}
def CM2 (M : AM) (ct : Nat → Nat) : Prop := ∀ k, k < 18 → mJ M 33 k = sJ (some (ct k))
def S4348 : Nat → Nat → Prop := fun r _ => 43 ≤ r ∧ r ≤ 48
/-- what holds while the reference counts: B has its bounds -/
def BA (M : AM) (P : PG) (ct : Nat → Nat) (s f : Nat) : Prop :=
  AX M P ∧ R40 M P s ∧ CM2 M ct ∧ (∀ a b, a < pc P → b < pc P → E49 M a b (cloR (CLr P s) (pc P) a b)) ∧ (∀ b, b < 32 → mI M 43 b = 0 ∨ mI M 43 b = 1) ∧ (∀ b, b < 32 → mI M 43 b = 1 → Rch P s b ∧ StB P ct f b ∧ mJ M 45 b = sJ ((TFS P ct f).1 b) ∧ mJ M 44 b = jJ ((TFS P ct f).2 b)) ∧ f ≤ cnt (fun b => mI M 43 b = 1) (pc P)
theorem BA.f {M : AM} {f : Nat} (h : BA M P ct s f) : f ≤ 32 := by
  have h1 := h.2.2.2.2.2.2
  have h2 := cnt_le (W := fun b => mI M 43 b = 1) (pc P)
  have h3 := h.1.1.2.1
  omega
theorem v_bound7 {M : AM} {m f : Nat} (hm : m < pc P) (hb : Bdd P s) (hS : St M) (h : BA M P ct s f) (hr : Rch P s m) (hn : mI M 43 m = 0) (hq : ∀ b, CZ P m b → mI M 43 b = 1) : ∃ M1, Ev K_X7_boundOne [aR (some 26), aI (nI m)] M none M1 ∧ Ag S4348 M M1 ∧ BA M1 P ct s (f + 1) ∧ (∀ b, b ≠ m → mI M1 43 b = mI M 43 b) ∧ mI M1 43 m = 1 := by
  have hf := h.f
  obtain ⟨h1, h2, h3, h4, h5, h6, h7⟩ := h
  have hpc := h1.1.2.1
  have hM := h1.1.2.2 m hm
  have hsd := (hb m hr).1
  have hd := h1.ds hm
  have hG := (h1.2 m hm).2.2 hsd
  have call : ∀ i, i < dn (DP P m) → 0 ≤ HH (DP P m) i → dO (DP P m) i = 16 → CL P m (dA (DP P m) i).toNat := fun i q1 q2 q3 => by
    have fc := ffc (hsd.ff q1) q3
    exact ⟨hm, hsd, i, q1, q2, q3, by show pa P m i = ((dA (DP P m) i).toNat : Int); have : dA (DP P m) i = pa P m i := rfl; omega⟩
  have done : ∀ c, CL P m c → StB P ct f c ∧ mJ M 45 c = sJ ((TFS P ct f).1 c) ∧ mJ M 44 c = jJ ((TFS P ct f).2 c) := fun c q => by
    have hc := q.lt.2
    exact (h6 c (by omega) (hq c (cloR_dir _ q))).2
  obtain ⟨M1, c1, a1, r45, r44, r43⟩ := v_boundOne (ct := ct) (T := (TFS P ct f).1) (S := (TFS P ct f).2) (B := 118 * f) hsd hd hS hM hG.2 hG.1 h3 (fun i q1 q2 q3 => ⟨(done _ (call i q1 q2 q3)).2.1, (done _ (call i q1 q2 q3)).1.1⟩) ⟨by omega, fun i q1 q2 q3 => ⟨(done _ (call i q1 q2 q3)).2.2, (done _ (call i q1 q2 q3)).1.2.1⟩⟩
  have a1' : Ag S4348 M M1 := a1.mo (fun r i z => by unfold SB1 at z; unfold S4348; omega)
  have n43 : ∀ b, b ≠ m → mI M1 43 b = mI M 43 b := fun b e => a1.i (by unfold SB1; omega)
  have hst : StB P ct (f + 1) m := StB.step hm hsd hd (fun c q => (done c q).1)
  refine ⟨M1, c1, a1', ⟨h1.ag a1' (fun r i z => by unfold S4348 at z; omega), h2.ag a1' (fun i => by unfold S4348; omega), fun k hk => by rw [a1.j (by unfold SB1; omega)]; exact h3 k hk, fun a b ha hb' => by unfold E49; rw [a1.i (by unfold SB1; omega)]; exact h4 a b ha hb', fun b hb' => ?_, fun b hb' q => ?_, ?_⟩, n43, r43⟩
  · by_cases e : b = m
    · rw [e]; exact Or.inr r43
    · rw [n43 b e]; exact h5 b hb'
  · by_cases e : b = m
    · rw [e]
      exact ⟨hr, hst, r45, r44⟩
    · rw [n43 b e] at q
      have o := h6 b hb' q
      have z := o.2.1.2.2 (f + 1) (by omega)
      refine ⟨o.1, o.2.1.mono (by omega), ?_, ?_⟩
      · rw [a1.j (by unfold SB1; omega), z.1]; exact o.2.2.1
      · rw [a1.j (by unfold SB1; omega), z.2]; exact o.2.2.2
  · have : cnt (fun b => mI M 43 b = 1) (pc P) < cnt (fun b => mI M1 43 b = 1) (pc P) := cnt_lt _ (fun j _ z => by
      by_cases e : j = m
      · rw [e]; exact r43
      · rw [n43 j e]; exact z) ⟨m, hm, r43, fun z => by rw [hn] at z; exact absurd z (by decide)⟩
    omega
/-- a pass from M0 has come to M, before m -/
def BP (P : PG) (ct : Nat → Nat) (s : Nat) (M0 M : AM) (x : Int32) (m : Nat) : Prop :=
  St M ∧ (∃ f, BA M P ct s f) ∧ Ag S4348 M0 M ∧ (∀ b, b < 32 → mI M0 43 b = 1 → mI M 43 b = 1) ∧ (x = 0 ∨ x = 1) ∧ (x ≠ 0 → ∃ b, b < pc P ∧ ¬ mI M0 43 b = 1 ∧ mI M 43 b = 1) ∧ (x = 0 → ∀ m', m' < m → Rch P s m' → mI M 43 m' = 0 → ∃ b, CZ P m' b ∧ ¬ mI M 43 b = 1)
theorem l_ba45 {m : Nat} {M0 M : AM} {x : Int32} (hm : m < pc P) (hb : Bdd P s) (hp : BP P ct s M0 M x m) : ∀ (g k : Nat) (y : Int32), pc P - k = g → k ≤ pc P → (y = 0 ∨ y = 1) → (y = 1 ↔ (Rch P s m ∧ mI M 43 m = 0) ∧ ∀ b, b < k → cloR (CLr P s) (pc P) m b → mI M 43 b = 1) →
    ∃ M1 x1, BP P ct s M0 M1 x1 (m + 1) ∧ ∀ w M', E K_X7_boundAll 10 [some (aR (some 26)), some (aI x1), some (aI (nI (m + 1))), none, none] [] M1 w M' → E K_X7_boundAll 45 [some (aR (some 26)), some (aI x), some (aI (nI m)), some (aI y), some (aI (nI k))] [] M w M' := by
  obtain ⟨hS, ⟨f, h⟩, p3, p4, p5, p6, p7⟩ := hp
  have hpc := h.1.1.2.1
  have fg : ∀ (x : Int32) (a b : Option AV), FG [some (aR (some 26)), some (aI x), some (aI (nI (m + 1))), none, none] [some (aR (some 26)), some (aI x), some (aI (nI (m + 1))), a, b] := fun x a b => ⟨Or.inr rfl, Or.inr rfl, Or.inr rfl, Or.inl rfl, Or.inl rfl, trivial⟩
  -- not ready
  have skip : (Rch P s m → mI M 43 m = 0 → ∃ b, CZ P m b ∧ ¬ mI M 43 b = 1) → BP P ct s M0 M x (m + 1) := fun q => ⟨hS, ⟨f, h⟩, p3, p4, p5, p6, fun z m' hm' r n => by
    by_cases e : m' = m
    · rw [e] at r n ⊢; exact q r n
    · exact p7 z m' (by omega) r n⟩
  intro g
  induction g with
  | zero =>
    intro k y hg hk hy hy2
    have e : k = pc P := by omega
    subst e
    have hgg : mI M 26 4 ≤ nI (pc P) := by rw [h.1.1.1, le32]; omega
    rcases hy with hy | hy
    · refine ⟨M, x, skip (fun r n => ?_), fun w M' z => ?_⟩
      · apply Classical.byContradiction
        intro w
        have : y = 1 := hy2.mpr ⟨⟨r, n⟩, fun b _ q => Classical.byContradiction (fun z => w ⟨b, (CZr r).mp q, z⟩)⟩
        rw [hy] at this
        exact absurd this (by decide)
      · apply s_X7_boundAll_45 (M1 := M) (M2 := M) hS
        case k1 => intros; rw [nI_1]; exact z.fg (fg _ _ _)
        case c2 => intro _ q; exact absurd hy q
        case k3 => intro _ q; exact absurd hy q
        all_goals (intro q; exact absurd hgg q)
    · have q := hy2.mp hy
      obtain ⟨M1, c1, a1, b1, n1, m1⟩ := v_bound7 hm hb hS h q.1.1 q.1.2 (fun b z => q.2 b z.lt.2 ((CZr q.1.1).mpr z))
      refine ⟨M1, 1, ⟨a1.st hS, ⟨_, b1⟩, p3.tr a1, fun b hb' z => ?_, Or.inr rfl, fun _ => ⟨m, hm, fun z => ?_, m1⟩, fun z => absurd z (by decide)⟩, fun w M' z => ?_⟩
      · by_cases e : b = m
        · rw [e]; exact m1
        · rw [n1 b e]; exact p4 b hb' z
      · have := p4 m (by omega) z
        rw [q.1.2] at this
        exact absurd this (by decide)
      · have y1 : ¬ y = 0 := fun z => by rw [hy] at z; exact absurd z (by decide)
        apply s_X7_boundAll_45 (M1 := M1) (M2 := M) hS
        case k1 => intro _ q; exact absurd q y1
        case c2 => intros; exact c1
        case k3 => intros; rw [nI_1]; exact z.fg (fg _ _ _)
        all_goals (intro q; exact absurd hgg q)
  | succ g ih =>
    intro k y hg hk hy hy2
    have hk' : k < pc P := by clear hy2; omega
    have hgg : ¬ mI M 26 4 ≤ nI k := by rw [h.1.1.1, le32, ci _ (by clear hy2; omega), ci _ (by clear hy2; omega)]; clear hy2; omega
    have h32m : m < 32 := by clear hy2; omega
    have h32k : k < 32 := by clear hy2; omega
    have ck := cl_n (n := k) (by clear hy2; omega)
    have cmk := cx32 (a := m) (b := k) h32m h32k
    have emk := h.2.2.2.1 m k hm hk'
    have e43 := h.2.2.2.2.1 k h32k
    rcases hy with hy | hy
    · -- it ends at once
      have y0 : y = 0 := hy
      refine ⟨M, x, skip (fun r n => ?_), fun w M' z => ?_⟩
      · apply Classical.byContradiction
        intro w
        have : y = 1 := hy2.mpr ⟨⟨r, n⟩, fun b _ q => Classical.byContradiction (fun z => w ⟨b, (CZr r).mp q, z⟩)⟩
        rw [hy] at this
        exact absurd this (by decide)
      · apply s_X7_boundAll_45 (M1 := M) (M2 := M) hS
        case k4 => intros; rw [nI_1]; exact z.fg (fg _ _ _)
        case c5 => intro _ _ q; exact absurd y0 q
        case k6 => intro _ _ q; exact absurd y0 q
        case b7 => intro _ q; exact absurd y0 q
        case k8 => intro _ q; exact absurd y0 q
        case b9 => intro _ q; exact absurd y0 q
        case k10 => intro _ q; exact absurd y0 q
        case k11 => intro _ q; exact absurd y0 q
        all_goals (intro q; exact absurd q hgg)
    · have y1 : ¬ y = 0 := fun z => by rw [hy] at z; exact absurd z (by decide)
      have q := hy2.mp hy
      by_cases c : cloR (CLr P s) (pc P) m k ∧ ¬ mI M 43 k = 1
      · obtain ⟨M1, x1, r1, r2⟩ := ih (k + 1) 0 (by clear hy2; omega) hk' (Or.inl rfl) ⟨fun z => absurd z (by decide), fun z => absurd (z.2 k (Nat.lt_succ_self k) c.1) c.2⟩
        refine ⟨M1, x1, r1, fun w M' z => ?_⟩
        apply s_X7_boundAll_45 (M1 := M) (M2 := M) hS
        case k4 => intro _ q; exact absurd q y1
        case c5 => intro _ q; exact absurd q y1
        case k6 => intro _ q; exact absurd q y1
        case b7 => intros; exact bx32 h32m h32k
        case k8 => intro _ _ g; rw [cmk] at g; exact absurd c.1 (emk.n.mp g)
        case b9 => intros; exact in_n h32k (by decide)
        case k10 => intros; rw [nI_1]; exact r2 w M' z
        case k11 => intro _ _ _ g; rw [ck] at g; exact absurd (e43.elim (fun w => absurd w g) id) c.2
        all_goals (intro q; exact absurd q hgg)
      · have hy2' : (1 : Int32) = 1 ↔ (Rch P s m ∧ mI M 43 m = 0) ∧ ∀ b, b < k + 1 → cloR (CLr P s) (pc P) m b → mI M 43 b = 1 := ⟨fun _ => ⟨q.1, fun b hb' z => (Nat.lt_succ_iff_lt_or_eq.mp hb').elim (fun w => q.2 b w z) (fun e => by rw [e] at z ⊢; exact Classical.byContradiction (fun w => c ⟨z, w⟩))⟩, fun _ => rfl⟩
        obtain ⟨M1, x1, r1, r2⟩ := ih (k + 1) 1 (by clear hy2; omega) hk' (Or.inr rfl) hy2'
        refine ⟨M1, x1, r1, fun w M' z => ?_⟩
        apply s_X7_boundAll_45 (M1 := M) (M2 := M) hS
        case k4 => intro _ q; exact absurd q y1
        case c5 => intro _ q; exact absurd q y1
        case k6 => intro _ q; exact absurd q y1
        case b7 => intros; exact bx32 h32m h32k
        case k8 => intros; rw [nI_1]; exact r2 w M' z
        case b9 => intros; exact in_n h32k (by decide)
        case k10 =>
          intro _ _ g g2
          rw [cmk] at g
          rw [ck] at g2
          exact absurd ⟨Classical.byContradiction (fun z => g (emk.n.mpr z)), fun z => by rw [g2] at z; exact absurd z (by decide)⟩ c
        case k11 => intros; rw [nI_1]; exact r2 w M' z
        all_goals (intro q; exact absurd q hgg)
theorem l_ba10 {M0 : AM} (hb : Bdd P s) : ∀ (g m : Nat) (M : AM) (x : Int32), pc P - m = g → m ≤ pc P → BP P ct s M0 M x m → ∃ M1 x1, BP P ct s M0 M1 x1 (pc P) ∧ ∀ w M', E K_X7_boundAll 2 [some (aR (some 26)), some (aI x1), none, none, none] [] M1 w M' → E K_X7_boundAll 10 [some (aR (some 26)), some (aI x), some (aI (nI m)), none, none] [] M w M' := by
  intro g
  induction g with
  | zero =>
    intro m M x hg hm hp
    have e : m = pc P := by omega
    subst e
    obtain ⟨f, h⟩ := hp.2.1
    have hgg : mI M 26 4 ≤ nI (pc P) := by rw [h.1.1.1, le32]; omega
    refine ⟨M, x, hp, fun w M' z => ?_⟩
    apply s_X7_boundAll_10 hp.1
    case k1 => intros; exact z.fg ⟨Or.inr rfl, Or.inr rfl, Or.inl rfl, Or.inr rfl, Or.inr rfl, trivial⟩
    all_goals (intro q; exact absurd hgg q)
  | succ g ih =>
    intro m M x hg hm hp
    have hp0 := hp
    obtain ⟨hS, ⟨f, h⟩, _⟩ := hp0
    have hpc := h.1.1.2.1
    have hgg : ¬ mI M 26 4 ≤ nI m := by rw [h.1.1.1, le32, ci _ (by omega), ci _ (by omega)]; omega
    have cm := cl_n (n := m) (by omega)
    have r1 := h.2.1.2 m (by omega)
    have r0 := h.2.1.1.n (b := m) (by omega)
    have e43 := h.2.2.2.2.1 m (by omega)
    by_cases c : Rch P s m ∧ mI M 43 m = 0
    · obtain ⟨M1, x1, q1, q2⟩ := l_ba45 (m := m) (by omega) hb hp _ 0 1 rfl (by omega) (Or.inr rfl) ⟨fun _ => ⟨c, fun b hb' => by omega⟩, fun _ => rfl⟩
      obtain ⟨M2, x2, t1, t2⟩ := ih (m + 1) M1 x1 (by omega) (by omega) q1
      refine ⟨M2, x2, t1, fun w M' z => ?_⟩
      apply s_X7_boundAll_10 hS
      case k1 => intro q; exact absurd q hgg
      case b2 => intros; exact in_n (by omega) (by omega)
      case k3 => intro _ q; rw [cm] at q; exact absurd q (r0.mpr (r1.mpr c.1))
      case k4 => intro _ _ q; rw [cm] at q; exact absurd c.2 q
      case k5 => intros; exact q2 w M' (t2 w M' z)
    · obtain ⟨M1, x1, q1, q2⟩ := l_ba45 (m := m) (by omega) hb hp _ 0 0 rfl (by omega) (Or.inl rfl) ⟨fun z => absurd z (by decide), fun z => absurd z.1 c⟩
      obtain ⟨M2, x2, t1, t2⟩ := ih (m + 1) M1 x1 (by omega) (by omega) q1
      refine ⟨M2, x2, t1, fun w M' z => ?_⟩
      apply s_X7_boundAll_10 hS
      case k1 => intro q; exact absurd q hgg
      case b2 => intros; exact in_n (by omega) (by omega)
      case k3 => intros; exact q2 w M' (t2 w M' z)
      case k4 => intros; exact q2 w M' (t2 w M' z)
      case k5 => intro _ q q2; rw [cm] at q q2; exact absurd ⟨r1.mp (r0.mp q), q2⟩ c
/-- all that is reached has its bounds -/
def BZ (M : AM) (P : PG) (ct : Nat → Nat) (s : Nat) : Prop := ∃ f, BA M P ct s f ∧ ∀ b, Rch P s b → mI M 43 b = 1
theorem ba_end {M : AM} {f : Nat} (hsp : s < pc P) (hb : Bdd P s) (h : BA M P ct s f) (hc : ∀ m', m' < pc P → Rch P s m' → mI M 43 m' = 0 → ∃ b, CZ P m' b ∧ ¬ mI M 43 b = 1) : ∀ b, Rch P s b → mI M 43 b = 1 := fun b hr => by
  apply Classical.byContradiction
  intro w
  have hpc := h.1.1.2.1
  obtain ⟨j0, w0, m0⟩ := min_ex (Q := CZ P) (pc P) (fun b => Rch P s b ∧ ¬ mI M 43 b = 1) (fun j z => z.1.lt hsp) ⟨b, hr, w⟩ (fun j z => (hb j z.1).2) (fun a b c _ z1 z2 => z1.tr z2)
  have hj := w0.1.lt hsp
  have e43 := h.2.2.2.2.1 j0 (by omega)
  obtain ⟨b', q1, q2⟩ := hc j0 hj w0.1 (e43.elim id (fun z => absurd z w0.2))
  exact m0 b' ⟨w0.1.step q1, q2⟩ q1
theorem l_ba2 (hsp : s < pc P) (hb : Bdd P s) : ∀ (n : Nat) (M : AM) (x : Int32) (f : Nat), cnt (fun b => ¬ mI M 43 b = 1) (pc P) = n → St M → BA M P ct s f → (x = 0 → ∀ b, Rch P s b → mI M 43 b = 1) → ∃ M1, Ag S4348 M M1 ∧ BZ M1 P ct s ∧ ∀ w M', E K_X7_boundAll 119 [some (aR (some 26)), some (aI 0), some (aI 0), some (aI 0), none] [] M1 w M' → E K_X7_boundAll 2 [some (aR (some 26)), some (aI x), none, none, none] [] M w M' := by
  intro n
  induction n using Nat.strongRecOn with
  | ind n ih =>
    intro M x f hn hS h hx
    have hpc := h.1.1.2.1
    by_cases c : x = 0
    · subst c
      refine ⟨M, Ag.rf, ⟨f, h, hx rfl⟩, fun w M' z => ?_⟩
      apply s_X7_boundAll_2 hS
      case k1 => intros; exact z
      case k2 => intro q; exact absurd rfl q
    · obtain ⟨M1, x1, q1, q2⟩ := l_ba10 (M0 := M) hb _ 0 M 0 rfl (by omega) ⟨hS, ⟨f, h⟩, Ag.rf, fun b _ z => z, Or.inl rfl, fun z => absurd rfl z, fun _ m' hm' => by omega⟩
      obtain ⟨hS1, ⟨f1, h1⟩, a1, p4, p5, p6, p7⟩ := q1
      by_cases d : x1 = 0
      · have hend := ba_end hsp hb h1 (p7 d)
        subst d
        refine ⟨M1, a1, ⟨f1, h1, hend⟩, fun w M' z => ?_⟩
        apply s_X7_boundAll_2 hS
        case k1 => intro q; exact absurd q c
        case k2 =>
          intro _
          refine q2 w M' ?_
          apply s_X7_boundAll_2 hS1
          case k1 => intros; exact z
          case k2 => intro q; exact absurd rfl q
      · have hlt : cnt (fun b => ¬ mI M1 43 b = 1) (pc P) < n := by
          rw [← hn]
          obtain ⟨b, hb0, hb1, hb2⟩ := p6 d
          exact cnt_lt _ (fun j hj z w => z (p4 j (by omega) w)) ⟨b, hb0, hb1, fun z => z hb2⟩
        obtain ⟨M2, a2, t1, t2⟩ := ih _ hlt M1 x1 f1 rfl hS1 h1 (fun z => absurd z d)
        refine ⟨M2, a1.tr a2, t1, fun w M' z => ?_⟩
        apply s_X7_boundAll_2 hS
        case k1 => intro q; exact absurd q c
        case k2 => intros; exact q2 w M' (t2 w M' z)
theorem l_ba119 {M : AM} {f : Nat} (hS : St M) (h : BA M P ct s f) : ∀ (g k : Nat) (x : Int32), pc P - k = g → k ≤ pc P → (x = 0 ∨ x = 1) → (x = 0 ↔ ∀ b, b < k → mI M 43 b = 1 → mJ M 45 b ≠ -2) → ∃ r : Int32, E K_X7_boundAll 119 [some (aR (some 26)), some (aI 0), some (aI x), some (aI (nI k)), none] [] M (some (aI r)) M ∧ (r = 0 ∨ r = 3) ∧ (r = 0 ↔ ∀ b, b < pc P → mI M 43 b = 1 → mJ M 45 b ≠ -2) := by
  have hpc := h.1.1.2.1
  have hf := h.f
  intro g
  induction g with
  | zero =>
    intro k x hg hk hx hx2
    have e : k = pc P := by clear hx2; omega
    subst e
    have hgg : mI M 26 4 ≤ nI (pc P) := by rw [h.1.1.1, le32]; exact Int.le_refl _
    rcases hx with hx | hx
    · refine ⟨0, ?_, Or.inl rfl, ⟨fun _ => hx2.mp hx, fun _ => rfl⟩⟩
      apply s_X7_boundAll_119 hS
      case k1 => intros; exact ⟨rfl, rfl⟩
      case k2 => intro _ q; exact absurd hx q
      all_goals (intro q; exact absurd hgg q)
    · have x1 : ¬ x = 0 := fun z => by rw [hx] at z; exact absurd z (by decide)
      refine ⟨3, ?_, Or.inr rfl, ⟨fun z => absurd z (by decide), fun z => absurd (hx2.mpr z) x1⟩⟩
      apply s_X7_boundAll_119 hS
      case k1 => intro _ q; exact absurd q x1
      case k2 => intros; exact ⟨rfl, rfl⟩
      all_goals (intro q; exact absurd hgg q)
  | succ g ih =>
    intro k x hg hk hx hx2
    have hk' : k < pc P := by clear hx2; omega
    have hk1 : pc P - (k + 1) = g := by clear hx2; omega
    have h32 : k < 32 := by clear hx2; omega
    have hgg : ¬ mI M 26 4 ≤ nI k := by rw [h.1.1.1, le32, ci _ (by clear hx2; omega), ci _ (by clear hx2; omega)]; clear hx2; omega
    have ck := cl_n (n := k) (by clear hx2; omega)
    have e43 := h.2.2.2.2.1 k h32
    have st : ∀ w : Int32, (w = 0 ∨ w = 1) → (w = 0 ↔ (mI M 43 k = 1 → mJ M 45 k ≠ -2)) → ∃ r : Int32, E K_X7_boundAll 119 [some (aR (some 26)), some (aI 0), some (aI (x ||| w)), some (aI (nI (k + 1))), none] [] M (some (aI r)) M ∧ (r = 0 ∨ r = 3) ∧ (r = 0 ↔ ∀ b, b < pc P → mI M 43 b = 1 → mJ M 45 b ≠ -2) := fun w hw1 hw2 => by
      have xw : (x ||| w = 0 ∨ x ||| w = 1) ∧ (x ||| w = 0 ↔ x = 0 ∧ w = 0) := by rcases hx with z | z <;> rcases hw1 with q | q <;> rw [z, q] <;> decide
      refine ih (k + 1) (x ||| w) hk1 hk' xw.1 ?_
      rw [xw.2, hx2, hw2]
      constructor
      · intro z b hb'
        exact (Nat.lt_succ_iff_lt_or_eq.mp hb').elim (z.1 b) (fun e => by rw [e]; exact z.2)
      · exact fun z => ⟨fun b hb' => z b (Nat.lt_succ_of_lt hb'), z k (Nat.lt_succ_self k)⟩
    have n44 : mI M 43 k = 1 → ¬ mJ M 44 k = -2 := fun q => by
      have o := h.2.2.2.2.2.1 k h32 q
      have b1 := o.2.1.2.1
      rw [o.2.2.2, eq64, jJ_t (by clear hx2; omega) (by clear hx2; omega)]
      show ¬ (((TFS P ct f).2 k : Nat) : Int) = -2
      clear hx2
      omega
    by_cases c : mI M 43 k = 1
    · have c0 : ¬ mI M 43 k = 0 := fun z => by rw [c] at z; exact absurd z (by decide)
      by_cases d : mJ M 45 k = -2
      · obtain ⟨r, q0, qr⟩ := st 1 (Or.inr rfl) ⟨fun z => absurd z (by decide), fun z => absurd d (z c)⟩
        refine ⟨r, ?_, qr⟩
        apply s_X7_boundAll_119 hS
        case b3 => intros; exact in_n h32 (by decide)
        case k4 => intro _ q; rw [ck] at q; exact absurd q c0
        case k5 => intro _ _ q; rw [ck] at q; exact absurd q (n44 c)
        case k6 => intro _ _ _ q; rw [ck] at q; exact absurd d q
        case k7 => intros; rw [nI_1]; exact q0
        all_goals (intro q; exact absurd q hgg)
      · obtain ⟨r, q0, qr⟩ := st 0 (Or.inl rfl) ⟨fun _ _ => d, fun _ => rfl⟩
        refine ⟨r, ?_, qr⟩
        apply s_X7_boundAll_119 hS
        case b3 => intros; exact in_n h32 (by decide)
        case k4 => intro _ q; rw [ck] at q; exact absurd q c0
        case k5 => intro _ _ q; rw [ck] at q; exact absurd q (n44 c)
        case k6 => intros; rw [nI_1]; exact q0
        case k7 => intro _ _ _ q; rw [ck] at q; exact absurd q d
        all_goals (intro q; exact absurd q hgg)
    · obtain ⟨r, q0, qr⟩ := st 0 (Or.inl rfl) ⟨fun _ z => absurd z c, fun _ => rfl⟩
      refine ⟨r, ?_, qr⟩
      apply s_X7_boundAll_119 hS
      case b3 => intros; exact in_n h32 (by decide)
      case k4 => intros; rw [nI_1]; exact q0
      case k5 => intro _ q; rw [ck] at q; exact absurd (e43.elim (fun w => absurd w q) id) c
      case k6 => intro _ q; rw [ck] at q; exact absurd (e43.elim (fun w => absurd w q) id) c
      case k7 => intro _ q; rw [ck] at q; exact absurd (e43.elim (fun w => absurd w q) id) c
      all_goals (intro q; exact absurd q hgg)
/-- what the reference's analyse leaves -/
def AnM (M : AM) (P : PG) (ct : Nat → Nat) (s : Nat) (r : Int32) : Prop :=
  (∀ b, b < 32 → (mI M 40 b = 0 ∨ mI M 40 b = 1) ∧ (mI M 40 b = 1 ↔ Rch P s b)) ∧ (∀ b, b < 32 → (mI M 41 b = 0 ∨ mI M 41 b = 1) ∧ (mI M 41 b = 1 ↔ Rch P s b ∧ ¬ Sd (DP P b))) ∧ (∀ b, b < 32 → (mI M 42 b = 0 ∨ mI M 42 b = 1) ∧ (mI M 42 b = 1 ↔ ¬ Fau P s ∧ Rch P s b ∧ CZ P b b)) ∧ (∀ b, b < 32 → (mI M 43 b = 0 ∨ mI M 43 b = 1) ∧ (mI M 43 b = 1 ↔ Bdd P s ∧ Rch P s b)) ∧ (Fau P s → r = 1) ∧ (¬ Fau P s → Cir P s → r = 2) ∧ (Bdd P s → ∃ f, f ≤ 2000 ∧ (∀ j, Rch P s j → StB P ct f j ∧ mJ M 45 j = sJ ((TFS P ct f).1 j) ∧ mJ M 44 j = jJ ((TFS P ct f).2 j)) ∧ (r = 0 ∨ r = 3) ∧ (r = 0 ↔ ∀ j, Rch P s j → mJ M 45 j ≠ -2))
def S3449 : Nat → Nat → Prop := fun r _ => 34 ≤ r ∧ r ≤ 49
theorem v_analyseFrom7 {M : AM} (hsp : s < pc P) (hS : St M) (hR : RM M P) (hct : CM2 M ct) : ∃ M' r, Ev K_X7_analyseFrom [aR (some 26), aI (nI s)] M (some (aI r)) M' ∧ Ag S3449 M M' ∧ AnM M' P ct s r := by
  have hpc := hR.2.1
  obtain ⟨M0, c0, a0, g0⟩ := v_examineAll hS hR
  have u0 : Ag S3449 M M0 := a0.mo (fun r i z => by unfold SXA at z; unfold S3449; omega)
  have hS0 := a0.st hS
  have x0 : AX M0 P := ⟨hR.ag a0 (fun i => by unfold SXA; omega), g0⟩
  obtain ⟨M1, a1, r1, k1⟩ := l_an6 (s := s) (by omega) _ 0 M0 rfl (by omega) hS0 (fun b hb => by omega)
  have u1 : Ag S3449 M M1 := u0.tr (a1.mo (fun r i z => by unfold S4043 at z; unfold S3449; omega))
  have x1 : AX M1 P := x0.ag a1 (fun r i z => by unfold S4043 at z; omega)
  have hS1 := u1.st hS
  have e40 : ∀ b, b < 32 → (mI M1 40 b = 1 ↔ b = s) := fun b hb => by
    rw [(r1 b hb).1]
    by_cases e : b = s
    · rw [if_pos e]; exact ⟨fun _ => e, fun _ => rfl⟩
    · rw [if_neg e]; exact ⟨fun z => absurd z (by decide), fun z => absurd z e⟩
  obtain ⟨M2, a2, x2, r2, k2⟩ := l_an59 (P := P) (s := s) _ M1 1 rfl hS1 x1 (fun b hb => by rw [(r1 b hb).1]; by_cases z : b = s <;> simp [z]) ((e40 s (by omega)).mpr rfl) hsp (fun b hb z => Or.inl ((e40 b hb).mp z)) (fun z => absurd z (by decide))
  have u2 : Ag S3449 M M2 := u1.tr (a2.mo (fun r i z => by unfold S40 at z; unfold S3449; omega))
  have hS2 := u2.st hS
  obtain ⟨M3, y, a3, y1, y2, r3, r3', k3⟩ := l_an158 (P := P) (s := s) _ 0 M2 0 rfl (by omega) hS2 x2 r2 (Or.inl rfl) ⟨fun z => absurd z (by decide), fun ⟨b, z, _⟩ => by omega⟩ (fun b hb => by omega)
  have u3 : Ag S3449 M M3 := u2.tr (a3.mo (fun r i z => by unfold S41 at z; unfold S3449; omega))
  have hS3 := u3.st hS
  have x3 : AX M3 P := x2.ag a3 (fun r i z => by unfold S41 at z; omega)
  have R3 : R40 M3 P s := r2.ag a3 (fun i => by unfold S41; omega)
  have e26 : mI M3 26 4 ≤ nI (pc P) := by rw [x3.1.1, le32]; exact Int.le_refl _
  have y3 : y = 1 ↔ Fau P s := by
    rw [y2]
    exact ⟨fun ⟨b, _, z⟩ => ⟨b, z⟩, fun ⟨b, z⟩ => ⟨b, z.1.lt hsp, z⟩⟩
  -- the rows that are settled
  have s40 : ∀ {M' : AM}, (∀ b, mI M' 40 b = mI M3 40 b) → ∀ b, b < 32 → (mI M' 40 b = 0 ∨ mI M' 40 b = 1) ∧ (mI M' 40 b = 1 ↔ Rch P s b) := fun q b hb => by rw [q b]; exact ⟨R3.1 b hb, R3.2 b hb⟩
  have s41 : ∀ b, b < 32 → (mI M3 41 b = 0 ∨ mI M3 41 b = 1) ∧ (mI M3 41 b = 1 ↔ Rch P s b ∧ ¬ Sd (DP P b)) := fun b hb => by
    by_cases c : b < pc P
    · exact r3 b c
    · have e : mI M3 41 b = 0 := by rw [r3' b (by omega), a2.i (by unfold S40; omega)]; exact (r1 b hb).2.1
      rw [e]
      exact ⟨Or.inl rfl, fun z => absurd z (by decide), fun z => absurd (z.1.lt hsp) c⟩
  have z42 : ∀ b, b < 32 → mI M3 42 b = 0 := fun b hb => by rw [a3.i (by unfold S41; omega), a2.i (by unfold S40; omega)]; exact (r1 b hb).2.2.1
  have z43 : ∀ b, b < 32 → mI M3 43 b = 0 := fun b hb => by rw [a3.i (by unfold S41; omega), a2.i (by unfold S40; omega)]; exact (r1 b hb).2.2.2
  have run : ∀ (v : Option AV) (M' : AM), E K_X7_analyseFrom 158 [some (aR (some 26)), some (aI (nI s)), some (aI y), some (aI 0), some (aI (nI (pc P))), none] [] M3 v M' → Ev K_X7_analyseFrom [aR (some 26), aI (nI s)] M v M' := fun v M' z => s_X7_analyseFrom_0 hS c0 (k1 _ _ (k2 _ _ (k3 _ _ z)))
  by_cases cf : Fau P s
  · have y1' : ¬ y = 0 := fun z => by rw [y3.mpr cf] at z; exact absurd z (by decide)
    have nB : ¬ Bdd P s := fun z => (Bdd_iff.mp z).1 cf
    refine ⟨M3, 1, run _ _ ?_, u3, s40 (fun _ => rfl), s41, fun b hb => ?_, fun b hb => ?_, fun _ => rfl, fun z => absurd cf z, fun z => absurd z nB⟩
    · apply s_X7_analyseFrom_158 (M1 := M3) (M2 := M3) (x103 := 0) (x105 := 0) hS3
      case c1 => intro _ q; exact absurd q y1'
      case c2 => intro _ q; exact absurd q y1'
      case k3 => intro _ q; exact absurd q y1'
      case k4 => intro _ q; exact absurd q y1'
      case k5 => intros; exact ⟨rfl, rfl⟩
      all_goals (intro q; exact absurd e26 q)
    · rw [z42 b hb]; exact ⟨Or.inl rfl, fun z => absurd z (by decide), fun z => absurd cf z.1⟩
    · rw [z43 b hb]; exact ⟨Or.inl rfl, fun z => absurd z (by decide), fun z => absurd z.1 nB⟩
  · have y0 : y = 0 := y1.elim id (fun z => absurd (y3.mp z) cf)
    obtain ⟨M4, t, c4, a4, t1, t2, r4, r4', e4⟩ := v_isRound cf hS3 x3 R3
    have u4 : Ag S3449 M M4 := u3.tr (a4.mo (fun r i z => by unfold S4249 at z; unfold S3449; omega))
    have hS4 := u4.st hS
    have n4 : ∀ r i, r ≠ 42 → r ≠ 49 → mI M4 r i = mI M3 r i := fun r i h1 h2 => a4.i (by unfold S4249; omega)
    have s42 : ∀ b, b < 32 → (mI M4 42 b = 0 ∨ mI M4 42 b = 1) ∧ (mI M4 42 b = 1 ↔ ¬ Fau P s ∧ Rch P s b ∧ CZ P b b) := fun b hb => by
      by_cases c : b < pc P
      · exact ⟨(r4 b c).1, by rw [(r4 b c).2]; exact ⟨fun z => ⟨cf, z⟩, fun z => z.2⟩⟩
      · rw [r4' b (by omega), z42 b hb]
        exact ⟨Or.inl rfl, fun z => absurd z (by decide), fun z => absurd (z.2.1.lt hsp) c⟩
    have t3 : t = 1 ↔ Cir P s := by
      rw [t2]
      exact ⟨fun ⟨b, _, z⟩ => ⟨b, z⟩, fun ⟨b, z⟩ => ⟨b, z.1.lt hsp, z⟩⟩
    by_cases cc : Cir P s
    · have t0 : ¬ t = 0 := fun z => by rw [t3.mpr cc] at z; exact absurd z (by decide)
      have nB : ¬ Bdd P s := fun z => (Bdd_iff.mp z).2 cc
      refine ⟨M4, 2, run _ _ ?_, u4, s40 (fun b => n4 40 b (by omega) (by omega)), fun b hb => by rw [n4 41 b (by omega) (by omega)]; exact s41 b hb, s42, fun b hb => ?_, fun z => absurd z cf, fun _ _ => rfl, fun z => absurd z nB⟩
      · apply s_X7_analyseFrom_158 (M1 := M4) (M2 := M4) (x103 := t) (x105 := 0) hS3
        case c1 => intros; exact c4
        case c2 => intro _ _ q; exact absurd q t0
        case k3 => intro _ _ q; exact absurd q t0
        case k4 => intros; exact ⟨rfl, rfl⟩
        case k5 => intro _ q; exact absurd y0 q
        all_goals (intro q; exact absurd e26 q)
      · rw [n4 43 b (by omega) (by omega), z43 b hb]; exact ⟨Or.inl rfl, fun z => absurd z (by decide), fun z => absurd z.1 nB⟩
    · have t0 : t = 0 := t1.elim id (fun z => absurd (t3.mp z) cc)
      have hB : Bdd P s := Bdd_iff.mpr ⟨cf, cc⟩
      have b4 : BA M4 P ct s 0 := by
        refine ⟨x3.ag a4 (fun r i z => by unfold S4249 at z; omega), R3.ag a4 (fun i => by unfold S4249; omega), fun k hk => by rw [u4.j (by unfold S3449; omega)]; exact hct k hk, e4, fun b hb => ?_, fun b hb z => ?_, Nat.zero_le _⟩
        · rw [n4 43 b (by omega) (by omega), z43 b hb]; exact Or.inl rfl
        · rw [n4 43 b (by omega) (by omega), z43 b hb] at z; exact absurd z (by decide)
      obtain ⟨M5, a5, ⟨f, b5, q5⟩, k5⟩ := l_ba2 hsp hB _ M4 1 0 rfl hS4 b4 (fun z => absurd z (by decide))
      have u5 : Ag S3449 M M5 := u4.tr (a5.mo (fun r i z => by unfold S4348 at z; unfold S3449; omega))
      obtain ⟨r, e5, w1, w2⟩ := l_ba119 (u5.st hS) b5 _ 0 0 rfl (by omega) (Or.inl rfl) ⟨fun _ b hb => by omega, fun _ => rfl⟩
      have n5 : ∀ r i, r < 43 → mI M5 r i = mI M4 r i := fun r i h1 => a5.i (by unfold S4348; omega)
      have f5 := b5.f
      refine ⟨M5, r, run _ _ ?_, u5, s40 (fun b => (n5 40 b (by omega)).trans (n4 40 b (by omega) (by omega))), fun b hb => by rw [n5 41 b (by omega), n4 41 b (by omega) (by omega)]; exact s41 b hb, fun b hb => by rw [n5 42 b (by omega)]; exact s42 b hb, fun b hb => ⟨b5.2.2.2.2.1 b hb, fun z => ⟨hB, (b5.2.2.2.2.2.1 b hb z).1⟩, fun z => q5 b z.2⟩, fun z => absurd z cf, fun _ z => absurd z cc, fun _ => ⟨f, by omega, fun j hj => ?_, w1, ?_⟩⟩
      · apply s_X7_analyseFrom_158 (M1 := M4) (M2 := M5) (x103 := t) (x105 := r) hS3
        case c1 => intros; exact c4
        case c2 => intros; exact s_X7_boundAll_0 hS4 (k5 _ _ e5)
        case k3 => intros; exact ⟨rfl, rfl⟩
        case k4 => intro _ _ q; exact absurd t0 q
        case k5 => intro _ q; exact absurd y0 q
        all_goals (intro q; exact absurd e26 q)
      · have := hj.lt hsp
        exact (b5.2.2.2.2.2.1 j (by omega) (q5 j hj)).2
      · rw [w2]
        exact ⟨fun z j hj => z j (hj.lt hsp) (q5 j hj), fun z b hb q => z b (b5.2.2.2.2.2.1 b (by omega) q).1⟩
end MB
