/-! ===== PURE: calls; the class's closure ===== -/
section CALLS
variable {P : PG} {mr : Nat → Nat} {ct : Nat → Nat}
/-- METHOD m CALLS c by an INSTRUCTION that is MET -/
def CL (P : PG) (m c : Nat) : Prop := m < pc P ∧ Sd (DP P m) ∧ ∃ i, i < pn P m ∧ 0 ≤ HH (DP P m) i ∧ po P m i = 16 ∧ pa P m i = c
def CZ (P : PG) : Nat → Nat → Prop := cloR (CL P) (pc P)
theorem CL.lt {m c : Nat} (h : CL P m c) : m < pc P ∧ c < pc P := by
  obtain ⟨h1, h2, i, h3, h4, h5, h6⟩ := h
  have := ffc (h2.ff h3) h5
  have h6 : dA (DP P m) i = c := h6
  rw [h6] at this
  have h7 : dc (DP P m) = pc P := rfl
  rw [h7] at this
  exact ⟨h1, by omega⟩
theorem CZ.lt {m c : Nat} (h : CZ P m c) : m < pc P ∧ c < pc P := cloR_in (Q := fun a b => a < pc P ∧ b < pc P) (fun a b z => z.lt) (fun a b c z1 z2 => ⟨z1.1, z2.2⟩) _ h
theorem CZ.tr {a b c : Nat} (h1 : CZ P a b) (h2 : CZ P b c) : CZ P a c := cloR_tr _ b h1.lt.2 h1 h2
/-- values by fuel: TIME and STACK -/
def TFS (P : PG) (ct : Nat → Nat) : Nat → (Nat → Option Nat) × (Nat → Nat)
  | 0 => (fun _ => none, fun _ => 0)
  | f + 1 => (fun j => (FF2 (DP P j) ct (TFS P ct f).1 0).2, fun j => sbd (DP P j) (TFS P ct f).2 (pn P j))
def StB (P : PG) (ct : Nat → Nat) (f j : Nat) : Prop := (TFS P ct f).1 j ≠ none ∧ (TFS P ct f).2 j ≤ 118 * f ∧ ∀ g, f ≤ g → (TFS P ct g).1 j = (TFS P ct f).1 j ∧ (TFS P ct g).2 j = (TFS P ct f).2 j
theorem StB.mono {f g j : Nat} (h : StB P ct f j) (hg : f ≤ g) : StB P ct g j := by
  have e := h.2.2 g hg
  refine ⟨by rw [e.1]; exact h.1, by rw [e.2]; have := h.2.1; omega, fun k hk => ?_⟩
  have e2 := h.2.2 k (by omega)
  rw [e.1, e.2]
  exact e2
theorem sbd_S {D : DD} {S S' : Nat → Nat} (h : ∀ i, i < dn D → 0 ≤ HH D i → dO D i = 16 → S (dA D i).toNat = S' (dA D i).toNat) : ∀ k, k ≤ dn D → sbd D S k = sbd D S' k
  | 0, _ => rfl
  | k + 1, hk => by
    have ih := sbd_S h k (by omega)
    unfold sbd
    by_cases c : 0 ≤ HH D k
    · rw [if_pos c, if_pos c, ih]
      congr 1
      unfold scl
      by_cases o : dO D k = 16
      · rw [if_pos o, if_pos o, h k (by omega) c o]
      · rw [if_neg o, if_neg o]
    · rw [if_neg c, if_neg c, ih]
theorem StB.step {f j : Nat} (hj : j < pc P) (hs : Sd (DP P j)) (hd : Ds (DP P j)) (h : ∀ c, CL P j c → StB P ct f c) : StB P ct (f + 1) j := by
  have hc : ∀ i, i < dn (DP P j) → 0 ≤ HH (DP P j) i → dO (DP P j) i = 16 → StB P ct f (dA (DP P j) i).toNat := fun i h1 h2 h3 => by
    have fc := ffc (hs.ff h1) h3
    exact h _ ⟨hj, hs, i, h1, h2, h3, by show pa P j i = ((dA (DP P j) i).toNat : Int); have : dA (DP P j) i = pa P j i := rfl; omega⟩
  refine ⟨ff2_some hs hd (fun i h1 h2 h3 => (hc i h1 h2 h3).1), ?_, fun g hg => ?_⟩
  · have := sbd_b (S := (TFS P ct f).2) hs hd (B := 118 * f) (fun i h1 h2 h3 => (hc i h1 h2 h3).2.1) (dn (DP P j)) (Nat.le_refl _)
    show sbd (DP P j) (TFS P ct f).2 (pn P j) ≤ _
    have e : dn (DP P j) = pn P j := rfl
    rw [e] at this
    omega
  · obtain ⟨k, rfl⟩ : ∃ k, g = k + 1 := ⟨g - 1, by omega⟩
    refine ⟨?_, ?_⟩
    · show (FF2 (DP P j) ct (TFS P ct k).1 0).2 = (FF2 (DP P j) ct (TFS P ct f).1 0).2
      unfold FF2
      rw [bw_T hs.all.1 (fun i h1 h2 h3 => ((hc i h1 h2 h3).2.2 k (by omega)).1)]
    · exact sbd_S (fun i h1 h2 h3 => ((hc i h1 h2 h3).2.2 k (by omega)).2) _ (Nat.le_refl _)
/-! the class -/
theorem v_bit {M : AM} (hS : St M) (x : Int32) : Ev K_X0_bit [aI x] M (some (aI ((1 : Int32) <<< (x &&& 31)))) M := s_X0_bit_0 hS ⟨rfl, rfl⟩
theorem v_isIn {M : AM} {c : Nat} (hS : St M) (hc : c < 32) (x : Int32) : ∃ b : Int32, Ev K_X0_isIn [aI (nI c), aI x] M (some (aI b)) M ∧ (b = 0 ↔ ¬ bt x c) := by
  have key : x &&& ((1 : Int32) <<< (nI c &&& 31)) = 0 ↔ ¬ bt x c := by
    rw [bt_z]
    constructor
    · intro z q
      exact z c hc (bt_and.mpr ⟨q, (bt_bit hc hc).mpr rfl⟩)
    · intro z k hk q
      have := bt_and.mp q
      rw [bt_bit hc hk] at this
      rw [this.2] at this
      exact z this.1
  by_cases g : bt x c
  · refine ⟨1, ?_, ⟨fun z => absurd z (by decide), fun z => absurd g z⟩⟩
    apply s_X0_isIn_0 hS (v_bit hS _)
    case k2 => intro q; exact absurd g (key.mp q)
    case k3 => intros; exact ⟨rfl, rfl⟩
  · refine ⟨0, ?_, ⟨fun _ => g, fun _ => rfl⟩⟩
    apply s_X0_isIn_0 hS (v_bit hS _)
    case k2 => intros; exact ⟨rfl, rfl⟩
    case k3 => intro q; exact absurd (key.mpr g) q
/-- all METHODS are looked at -/
def AC (M : AM) (P : PG) (mr : Nat → Nat) : Prop := RC M P mr ∧ ∀ j, j < pc P → CG M (mr j) (DP P j)
theorem AC.ds {M : AM} (h : AC M P mr) {j : Nat} (hj : j < pc P) : Ds (DP P j) := (h.1.2 j hj).2.2.2.ds (h.1.pp j)
theorem chk_r (D : DD) : 0 ≤ (chk D).1 ∧ (chk D).1 ≤ 9 := by
  have fr : ∀ n, 0 ≤ (fsc (ff D) n).1 ∧ (fsc (ff D) n).1 ≤ 9 := fun n => by
    induction n with
    | zero => exact ⟨Int.le_refl _, by show (0 : Int) ≤ 9; omega⟩
    | succ n ih =>
      have := ff_r (D := D) n
      unfold fsc
      repeat' split
      · exact ⟨Int.le_refl _, by show (0 : Int) ≤ 9; omega⟩
      · exact ⟨this.1, by show ff D n ≤ 9; omega⟩
      · exact ih
  have hr : ∀ n, 0 ≤ (hp D n).2.1 ∧ (hp D n).2.1 ≤ 9 := fun n => by
    induction n with
    | zero => exact ⟨Int.le_refl _, by show (0 : Int) ≤ 9; omega⟩
    | succ n ih =>
      unfold hp
      repeat' split
      · exact ih
      · exact ⟨Int.le_refl _, by show (0 : Int) ≤ 9; omega⟩
      · exact hk_r n _
      · exact ih
  unfold chk
  repeat' split
  · exact ⟨by show (0 : Int) ≤ 9; omega, by show (9 : Int) ≤ 9; omega⟩
  · exact hr _
  · exact fr _
theorem AC.snd {M : AM} (h : AC M P mr) {j : Nat} (hj : j < pc P) : mI M (mr j) 8 = 0 ↔ Sd (DP P j) := by
  have := chk_r (DP P j)
  rw [(h.2 j hj).1, eq32, iI_t (by omega) (by omega)]
  exact Iff.rfl
theorem l_callsOf {M : AM} {m : Nat} (hm : m < pc P) (hs : Sd (DP P m)) (hS : St M) (h : AC M P mr) : ∀ (f k : Nat) (x : Int32), pn P m - k = f → k ≤ pn P m → (∀ b, b < 32 → (bt x b ↔ ∃ i, i < k ∧ 0 ≤ HH (DP P m) i ∧ po P m i = 16 ∧ pa P m i = b)) → ∃ y, E K_X0_callsOf 17 [some (aR (some 11)), some (aR (some (mr m))), some (aI x), some (aI (nI k))] [] M (some (aI y)) M ∧ ∀ b, b < 32 → (bt y b ↔ CL P m b) := by
  have hM := (h.1.2 m hm).2.2.2
  have hN : pn P m ≤ 120 := hM.1.2.2
  have hc := h.1.1.2.1
  intro f
  induction f with
  | zero =>
    intro k x hf hk hx
    have e : k = pn P m := by omega
    subst e
    refine ⟨x, ?_, fun b hb => by rw [hx b hb]; exact ⟨fun z => ⟨hm, hs, z⟩, fun z => z.2.2⟩⟩
    have hg : mI M (mr m) 7 ≤ nI (pn P m) := by rw [hM.1.2.1, le32]; exact Int.le_refl _
    apply s_X0_callsOf_17 (M1 := M) (M2 := M) (x103 := 0) (x105 := 0) hS hM.1.1
    case k1 => intros; exact ⟨rfl, rfl⟩
    all_goals (intro g; exact absurd hg g)
  | succ f ih =>
    intro k x hf hk hx
    have hk' : k < pn P m := by omega
    have hg : ¬ mI M (mr m) 7 ≤ nI k := by rw [hM.1.2.1, le32, ci _ (by show pn P m < _; omega), ci _ (by omega)]; show ¬ ((pn P m : Int) ≤ k); omega
    have ck := cl_n (n := k) (by omega)
    have ho : (mI M (mr m + 1) k).toInt = po P m k := (hM.2.1 k hk').1
    have ha : (mJ M (mr m + 2) k).toInt = pa P m k := (hM.2.1 k hk').2
    have hh := ((h.2 m hm).2.2 hs k hk').1
    have hr := hs.r (h.ds hm) (i := k) hk'
    have skip : (¬ (0 ≤ HH (DP P m) k ∧ po P m k = 16)) → ∃ y, E K_X0_callsOf 17 [some (aR (some 11)), some (aR (some (mr m))), some (aI x), some (aI (nI (k + 1)))] [] M (some (aI y)) M ∧ ∀ b, b < 32 → (bt y b ↔ CL P m b) := fun q => ih (k + 1) x (by omega) (by omega) (fun b hb => by
      rw [hx b hb]
      constructor
      · rintro ⟨i, h1, h2⟩; exact ⟨i, by omega, h2⟩
      · rintro ⟨i, h1, h2, h3, h4⟩
        by_cases e : i = k
        · subst e; exact absurd ⟨h2, h3⟩ q
        · exact ⟨i, by omega, h2, h3, h4⟩)
    have hmt := v_isMet hS hM.1 hk'
    by_cases o : po P m k = 16
    · by_cases c : 0 ≤ HH (DP P m) k
      · rw [if_neg (by rw [eq32, hh]; show ¬ HH (DP P m) k = -1; omega)] at hmt
        have fc := ffc (hs.ff hk') o
        have hda : dA (DP P m) k = pa P m k := rfl
        have hdc : dc (DP P m) = pc P := rfl
        have ea : (mJ M (mr m + 2) k).toInt32 = nI (pa P m k).toNat := by rw [x_l (by omega) (by omega), ha]
        obtain ⟨y, hE, hy⟩ := ih (k + 1) (x ||| ((1 : Int32) <<< (nI (pa P m k).toNat &&& 31))) (by omega) (by omega) (fun b hb => by
          rw [bt_or, hx b hb, bt_bit (by omega) hb]
          constructor
          · rintro (⟨i, h1, h2⟩ | h1)
            · exact ⟨i, by omega, h2⟩
            · exact ⟨k, by omega, c, o, by omega⟩
          · rintro ⟨i, h1, h2, h3, h4⟩
            by_cases e : i = k
            · subst e; right; omega
            · exact Or.inl ⟨i, by omega, h2, h3, h4⟩)
        refine ⟨y, ?_, hy⟩
        apply s_X0_callsOf_17 (M1 := M) (M2 := M) (x103 := 1) (x105 := (1 : Int32) <<< (nI (pa P m k).toNat &&& 31)) hS hM.1.1
        case k1 => intro g; exact absurd g hg
        case b2 => intros; exact in_n (by omega) (by omega)
        case k3 => intro _ g; exfalso; simp only [lt32, le32, eq32, lt64, le64, eq64, Int32.reduceToInt, Int64.reduceToInt, ck, ho] at g; omega
        case c4 => intros; exact hmt
        case k5 => intro _ _ g; exact absurd g (by decide)
        case c6 => intros; rw [ck, ea]; exact v_bit hS _
        case k7 => intros; rw [nI_1]; exact hE
      · rw [if_pos (by rw [eq32, hh]; show HH (DP P m) k = -1; omega)] at hmt
        obtain ⟨y, hE, hy⟩ := skip (fun z => c z.1)
        refine ⟨y, ?_, hy⟩
        apply s_X0_callsOf_17 (M1 := M) (M2 := M) (x103 := 0) (x105 := 0) hS hM.1.1
        case k1 => intro g; exact absurd g hg
        case b2 => intros; exact in_n (by omega) (by omega)
        case k3 => intro _ g; exfalso; simp only [lt32, le32, eq32, lt64, le64, eq64, Int32.reduceToInt, Int64.reduceToInt, ck, ho] at g; omega
        case c4 => intros; exact hmt
        case k5 => intros; rw [nI_1]; exact hE
        all_goals (intro _ _ g; exact absurd rfl g)
    · obtain ⟨y, hE, hy⟩ := skip (fun z => o z.2)
      refine ⟨y, ?_, hy⟩
      apply s_X0_callsOf_17 (M1 := M) (M2 := M) (x103 := 0) (x105 := 0) hS hM.1.1
      case k1 => intro g; exact absurd g hg
      case b2 => intros; exact in_n (by omega) (by omega)
      case k3 => intros; rw [nI_1]; exact hE
      all_goals (intro _ g; exfalso; simp only [lt32, le32, eq32, lt64, le64, eq64, Int32.reduceToInt, Int64.reduceToInt, ck, ho] at g; omega)
theorem v_callsOf {M : AM} {m : Nat} (hm : m < pc P) (hS : St M) (h : AC M P mr) : ∃ y, Ev K_X0_callsOf [aR (some 11), aR (some (mr m))] M (some (aI y)) M ∧ ∀ b, b < 32 → (bt y b ↔ CL P m b) := by
  have hM := (h.1.2 m hm).2.2.2
  have hsd := h.snd hm
  have hv := v_isSound hS hM.1.1
  by_cases hs : Sd (DP P m)
  · rw [if_pos (hsd.mpr hs)] at hv
    obtain ⟨y, hE, hy⟩ := l_callsOf hm hs hS h _ 0 0 rfl (by omega) (fun b hb => ⟨fun z => absurd z bt_0, fun ⟨i, hi, _⟩ => by omega⟩)
    refine ⟨y, ?_, hy⟩
    apply s_X0_callsOf_0 (M1 := M) (x101 := 1) hS hM.1.1
    case c1 => exact hv
    case k2 => intros; exact hE
    case k3 => intro g; exact absurd g (by decide)
  · rw [if_neg (fun z => hs (hsd.mp z))] at hv
    refine ⟨0, ?_, fun b hb => ⟨fun z => absurd z bt_0, fun z => absurd z.2.1 hs⟩⟩
    apply s_X0_callsOf_0 (M1 := M) (x101 := 0) hS hM.1.1
    case c1 => exact hv
    case k2 => intro g; exact absurd rfl g
    case k3 => intros; exact ⟨rfl, rfl⟩
def S17 : Nat → Nat → Prop := fun r _ => r = 17
theorem AC.ag {S : Nat → Nat → Prop} {M M' : AM} (h : AC M P mr) (a : Ag S M M') (hs : ∀ r i, S r i → r < 58 ∧ r ≠ 4) : AC M' P mr := by
  have hn : ∀ r i, 58 ≤ r → ¬ S r i := fun r i h1 z => by have := (hs r i z).1; omega
  refine ⟨h.1.ag a (fun z => (hs 4 2 z).2 rfl) (fun j hj => ?_), fun j hj => ?_⟩
  · have := h.1.m hj
    exact ⟨fun i _ => hn _ _ this, fun i => hn _ _ (by omega), fun i => hn _ _ (by omega)⟩
  · have := h.1.m hj
    exact (h.2 j hj).ag a (hn _ _ this) (hn _ _ this) (fun i => ⟨hn _ _ (by omega), hn _ _ (by omega)⟩)
theorem AC.s17 {M M' : AM} (h : AC M P mr) (a : Ag S17 M M') : AC M' P mr := h.ag a (fun r i z => by unfold S17 at z; omega)
theorem l_fc53 {v : Nat} (hv : v < pc P) : ∀ (f k : Nat) (M : AM), pc P - k = f → k ≤ pc P → St M → AC M P mr → (∀ a, a < k → ∀ b, b < 32 → (bt (mI M 17 a) b ↔ cloR (CL P) (v + 1) a b)) → (∀ a, k ≤ a → a < pc P → ∀ b, b < 32 → (bt (mI M 17 a) b ↔ cloR (CL P) v a b)) →
    ∃ M1, Ag S17 M M1 ∧ (∀ a, a < pc P → ∀ b, b < 32 → (bt (mI M1 17 a) b ↔ cloR (CL P) (v + 1) a b)) ∧ ∀ w M', E K_X0_followCalls 40 [some (aR (some 11)), some (aI (nI (v + 1))), none] [] M1 w M' → E K_X0_followCalls 53 [some (aR (some 11)), some (aI (nI v)), some (aI (nI k))] [] M w M' := by
  intro f
  induction f with
  | zero =>
    intro k M hf hk hS h h1 h2
    have e : k = pc P := by omega
    subst e
    have hg : mI M 4 2 ≤ nI (pc P) := by rw [h.1.1.1, le32]; omega
    refine ⟨M, Ag.rf, h1, fun w M' z => ?_⟩
    apply s_X0_followCalls_53 (M1 := M) (x102 := 0) hS
    case k1 => intros; rw [nI_1]; exact z.fg ⟨Or.inr rfl, Or.inr rfl, Or.inl rfl, trivial⟩
    all_goals (intro g; exact absurd hg g)
  | succ f ih =>
    intro k M hf hk hS h h1 h2
    have hc := h.1.1.2.1
    have hk' : k < pc P := by omega
    have hg : ¬ mI M 4 2 ≤ nI k := by rw [h.1.1.1, le32, ci _ (by omega), ci _ (by omega)]; omega
    have ck := cl_n (n := k) (by omega)
    have cv := cl_n (n := v) (by omega)
    obtain ⟨b, hb1, hb2⟩ := v_isIn (c := v) hS (by omega) (mI M 17 k)
    have hkv := h2 k (Nat.le_refl k) hk' v (by omega)
    by_cases z : bt (mI M 17 k) v
    · have a : Ag S17 M (wrI M 17 k (mI M 17 k ||| mI M 17 v)) := Ag.rf.wI rfl
      have rowv : ∀ b, b < 32 → (bt (mI M 17 v) b ↔ cloR (CL P) v v b) := fun b hb => by
        by_cases q : v < k
        · rw [h1 v q b hb]; exact cloR_row
        · exact h2 v (by omega) hv b hb
      obtain ⟨M1, a1, r1, k1⟩ := ih (k + 1) (wrI M 17 k (mI M 17 k ||| mI M 17 v)) (by omega) (by omega) (a.st hS) (h.s17 a) (fun a' ha b hb => by
          by_cases e : a' = k
          · rw [e, wrI_s, bt_or, h2 k (Nat.le_refl k) hk' b hb, rowv b hb]
            exact ⟨fun q => q.elim Or.inl (fun q => Or.inr ⟨hkv.mp z, q⟩), fun q => q.elim Or.inl (fun q => Or.inr q.2)⟩
          · rw [wrI_j e]; exact h1 a' (by omega) b hb) (fun a' ha ha2 b hb => by rw [wrI_j (by omega)]; exact h2 a' (by omega) ha2 b hb)
      refine ⟨M1, a.tr a1, r1, fun w M' q => ?_⟩
      apply s_X0_followCalls_53 (M1 := M) (x102 := b) hS
      case k1 => intro g; exact absurd g hg
      case b2 => intros; exact in_n (by omega) (by omega)
      case c3 => intros; rw [ck]; exact hb1
      case k4 => intro _ g; exact absurd z (hb2.mp g)
      case b5 => intros; exact in_n (by omega) (by omega)
      case k6 => intros; rw [ck, cv, nI_1]; exact k1 w M' q
    · obtain ⟨M1, a1, r1, k1⟩ := ih (k + 1) M (by omega) (by omega) hS h (fun a' ha b hb => by
          by_cases e : a' = k
          · rw [e, h2 k (Nat.le_refl k) hk' b hb]
            exact ⟨Or.inl, fun q => q.elim id (fun q => absurd (hkv.mpr q.1) z)⟩
          · exact h1 a' (by omega) b hb) (fun a' ha ha2 b hb => h2 a' (by omega) ha2 b hb)
      refine ⟨M1, a1, r1, fun w M' q => ?_⟩
      apply s_X0_followCalls_53 (M1 := M) (x102 := b) hS
      case k1 => intro g; exact absurd g hg
      case b2 => intros; exact in_n (by omega) (by omega)
      case c3 => intros; rw [ck]; exact hb1
      case k4 => intros; rw [nI_1]; exact k1 w M' q
      all_goals (intro _ g; exact absurd (hb2.mpr z) g)
theorem l_fc40 : ∀ (f v : Nat) (M : AM), pc P - v = f → v ≤ pc P → St M → AC M P mr → (∀ a, a < pc P → ∀ b, b < 32 → (bt (mI M 17 a) b ↔ cloR (CL P) v a b)) → ∃ M1, Ag S17 M M1 ∧ (∀ a, a < pc P → ∀ b, b < 32 → (bt (mI M1 17 a) b ↔ CZ P a b)) ∧ E K_X0_followCalls 40 [some (aR (some 11)), some (aI (nI v)), none] [] M none M1 := by
  intro f
  induction f with
  | zero =>
    intro v M hf hv hS h h1
    have e : v = pc P := by omega
    subst e
    have hg : mI M 4 2 ≤ nI (pc P) := by rw [h.1.1.1, le32]; omega
    refine ⟨M, Ag.rf, h1, ?_⟩
    apply s_X0_followCalls_40 hS
    case k1 => intros; exact ⟨rfl, rfl⟩
    case k2 => intro g; exact absurd hg g
  | succ f ih =>
    intro v M hf hv hS h h1
    have hc := h.1.1.2.1
    have hg : ¬ mI M 4 2 ≤ nI v := by rw [h.1.1.1, le32, ci _ (by omega), ci _ (by omega)]; omega
    obtain ⟨M1, a1, r1, k1⟩ := l_fc53 (v := v) (by omega) _ 0 M rfl (by omega) hS h (fun a ha => by omega) (fun a _ ha => h1 a ha)
    obtain ⟨M2, a2, r2, E2⟩ := ih (v + 1) M1 (by omega) (by omega) (a1.st hS) (h.s17 a1) r1
    refine ⟨M2, a1.tr a2, r2, ?_⟩
    apply s_X0_followCalls_40 hS
    case k1 => intro g; exact absurd g hg
    case k2 => intros; exact k1 _ _ E2
theorem l_fc2 : ∀ (f k : Nat) (M : AM), pc P - k = f → k ≤ pc P → St M → AC M P mr → (∀ a, a < k → ∀ b, b < 32 → (bt (mI M 17 a) b ↔ CL P a b)) → ∃ M1, Ag S17 M M1 ∧ (∀ a, a < pc P → ∀ b, b < 32 → (bt (mI M1 17 a) b ↔ CZ P a b)) ∧ E K_X0_followCalls 2 [some (aR (some 11)), some (aI (nI k)), none] [] M none M1 := by
  intro f
  induction f with
  | zero =>
    intro k M hf hk hS h h1
    have e : k = pc P := by omega
    subst e
    have hg : mI M 4 2 ≤ nI (pc P) := by rw [h.1.1.1, le32]; omega
    obtain ⟨M1, a1, r1, E1⟩ := l_fc40 (P := P) (mr := mr) _ 0 M rfl (by omega) hS h (fun a ha b hb => h1 a ha b hb)
    refine ⟨M1, a1, r1, ?_⟩
    apply s_X0_followCalls_2 (M1 := M) (M2 := M) (o102 := none) (x103 := 0) hS
    case k1 => intros; exact E1
    all_goals (intro g; exact absurd hg g)
  | succ f ih =>
    intro k M hf hk hS h h1
    have hc := h.1.1.2.1
    have hk' : k < pc P := by omega
    have ck := cl_n (n := k) (by omega)
    have hg : ¬ mI M 4 2 ≤ nI k := by rw [h.1.1.1, le32, ci _ (by omega), ci _ (by omega)]; omega
    obtain ⟨y, hy1, hy2⟩ := v_callsOf hk' hS h
    have a : Ag S17 M (wrI M 17 k y) := Ag.rf.wI rfl
    obtain ⟨M1, a1, r1, E1⟩ := ih (k + 1) (wrI M 17 k y) (by omega) (by omega) (a.st hS) (h.s17 a) (fun a' ha b hb => by
      by_cases e : a' = k
      · rw [e, wrI_s]; exact hy2 b hb
      · rw [wrI_j e]; exact h1 a' (by omega) b hb)
    refine ⟨M1, a.tr a1, r1, ?_⟩
    apply s_X0_followCalls_2 (M1 := M) (M2 := M) (o102 := some (mr k)) (x103 := y) hS
    case k1 => intro g; exact absurd g hg
    case c2 => intros; exact v_findn hS h.1.1 hk'
    case c3 => intros; exact hy1
    case b4 => intros; exact in_n (by omega) (by omega)
    case k5 => intros; rw [ck, nI_1]; exact E1
theorem v_followCalls {M : AM} (hS : St M) (h : AC M P mr) : ∃ M1, Ev K_X0_followCalls [aR (some 11)] M none M1 ∧ Ag S17 M M1 ∧ ∀ a, a < pc P → ∀ b, b < 32 → (bt (mI M1 17 a) b ↔ CZ P a b) := by
  obtain ⟨M1, a1, r1, E1⟩ := l_fc2 (P := P) (mr := mr) _ 0 M rfl (by omega) hS h (fun a ha => by omega)
  exact ⟨M1, s_X0_followCalls_0 hS E1, a1, r1⟩
end CALLS
