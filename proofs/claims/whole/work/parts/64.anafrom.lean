/-! ===== PURE: the class's analyse ===== -/
section AF
variable {P : PG} {mr : Nat → Nat} {ct : Nat → Nat}
def Fau (P : PG) (s : Nat) : Prop := ∃ j, Rch P s j ∧ ¬ Sd (DP P j)
def Cir (P : PG) (s : Nat) : Prop := ∃ j, Rch P s j ∧ CZ P j j
theorem Bdd_iff {s : Nat} : Bdd P s ↔ ¬ Fau P s ∧ ¬ Cir P s := by
  constructor
  · intro h
    exact ⟨fun ⟨j, h1, h2⟩ => h2 (h j h1).1, fun ⟨j, h1, h2⟩ => (h j h1).2 h2⟩
  · intro h j hj
    exact ⟨Classical.byContradiction (fun z => h.1 ⟨j, hj, z⟩), fun z => h.2 ⟨j, hj, z⟩⟩
def SAn : Nat → Nat → Prop := fun r i => (r = 11 ∧ 3 ≤ i ∧ i ≤ 6) ∨ (13 ≤ r ∧ r ≤ 17)
/-- the bounds that were counted -/
def Cnt (M : AM) (P : PG) (ct : Nat → Nat) (s f : Nat) : Prop := ∀ j, Rch P s j → StB P ct f j ∧ mJ M 14 j = sJ ((TFS P ct f).1 j) ∧ mJ M 13 j = jJ ((TFS P ct f).2 j)
def AnC (M : AM) (P : PG) (ct : Nat → Nat) (s : Nat) (r : Int32) : Prop :=
  (∀ b, bt (mI M 11 3) b ↔ Rch P s b) ∧ (∀ b, bt (mI M 11 4) b ↔ Rch P s b ∧ ¬ Sd (DP P b)) ∧ (∀ b, bt (mI M 11 5) b ↔ ¬ Fau P s ∧ Rch P s b ∧ CZ P b b) ∧ (mI M 11 6 = 0 ∨ mI M 11 6 = 1) ∧ (mI M 11 6 = 1 ↔ Bdd P s) ∧ (Fau P s → r = 1) ∧ (¬ Fau P s → Cir P s → r = 2) ∧ (Bdd P s → ∃ f, f ≤ 2000 ∧ Cnt M P ct s f ∧ (r = 0 ∨ r = 3) ∧ (r = 0 ↔ ∀ j, Rch P s j → mJ M 14 j ≠ -2))
theorem v_analyseFrom6 {M : AM} {s : Nat} (hsp : s < pc P) (hS : St M) (h1 : AC M P mr) (h2 : CO M ct) : ∃ M' r, Ev K_X0_analyseFrom [aR (some 11), aI (nI s)] M (some (aI r)) M' ∧ Ag SAn M M' ∧ AnC M' P ct s r := by
  have hc := h1.1.1.2.1
  have cs := cl_n (n := s) (by omega)
  obtain ⟨M1, c1, a1, z1⟩ := v_followCalls hS h1
  have hS1 := a1.st hS
  have h11 := h1.s17 a1
  have a1' : Ag SAn M M1 := a1.mo (fun r i z => by unfold S17 at z; unfold SAn; omega)
  have cb := v_bit hS1 (nI s)
  -- reached
  have hre : ∀ b, bt (mI M1 17 s ||| ((1 : Int32) <<< (nI s &&& 31))) b ↔ Rch P s b := fun b => by
    by_cases hb : b < 32
    · rw [bt_or, z1 s hsp b hb, bt_bit (by omega) hb]
      exact ⟨fun z => z.elim Or.inr Or.inl, fun z => z.elim Or.inr Or.inl⟩
    · constructor
      · exact fun z => absurd z (bt_hi (by omega))
      · intro z; have := z.lt hsp; omega
  generalize hW : mI M1 17 s ||| ((1 : Int32) <<< (nI s &&& 31)) = W at *
  have a2 : Ag SAn M (wrI M1 11 3 W) := a1'.wI (by unfold SAn; omega)
  have aM2 : Ag SAn M1 (wrI M1 11 3 W) := Ag.rf.wI (by unfold SAn; omega)
  have hS2 := a2.st hS
  have acn : ∀ {M' : AM}, Ag SAn M1 M' → AC M' P mr := fun a => h11.ag a (fun r i z => by unfold SAn at z; omega)
  obtain ⟨fo, c4, hfo⟩ := v_faultyOnes hS2 (acn aM2)
  have e3 : mI (wrI M1 11 3 W) 11 3 = W := wrI_s
  have hfa : ∀ b, bt (fo &&& W) b ↔ Rch P s b ∧ ¬ Sd (DP P b) := fun b => by
    rw [bt_and, hre b]
    by_cases hb : b < 32
    · rw [hfo b hb]
      exact ⟨fun z => ⟨z.2, z.1.2⟩, fun z => ⟨⟨z.1.lt hsp, z.2⟩, z.1⟩⟩
    · constructor
      · intro z; have := z.2.lt hsp; omega
      · intro z; have := z.1.lt hsp; omega
  generalize hF : fo &&& W = F at *
  have hF0 : F = 0 ↔ ¬ Fau P s := by
    rw [bt_z]
    constructor
    · rintro z ⟨j, q1, q2⟩
      exact z j (by have := q1.lt hsp; omega) ((hfa j).mpr ⟨q1, q2⟩)
    · intro z k _ q
      exact z ⟨k, ((hfa k).mp q).1, ((hfa k).mp q).2⟩
  by_cases cf : Fau P s
  · have nF : ¬ F = 0 := fun z => hF0.mp z cf
    have a3 : Ag SAn M (wrI (wrI (wrI (wrI M1 11 3 W) 11 4 F) 11 5 0) 11 6 0) := ((a2.wI (by unfold SAn; omega)).wI (by unfold SAn; omega)).wI (by unfold SAn; omega)
    refine ⟨_, 1, ?_, a3, ?_⟩
    · apply s_X0_analyseFrom_0 (M1 := M1) (M2 := M1) (M3 := wrI M1 11 3 W) (M4 := M) (M5 := M) (M6 := M) (x101 := (1 : Int32) <<< (nI s &&& 31)) (x102 := fo) (x106 := 0) (x108 := 0) (x113 := 0) hS
      case c1 => exact c1
      case b2 => exact in_n (by omega) (by omega)
      case c3 => exact cb
      case c4 => rw [cs, hW]; exact c4
      case k5 => intro _ _ g; rw [e3, hF] at g; exact absurd g nF
      case k6 => intros; rw [e3, hF]; exact ⟨rfl, rfl⟩
      case c7 => intro _ g; rw [e3, hF] at g; exact absurd g nF
      case k8 => intro _ g; rw [e3, hF] at g; exact absurd g nF
      case k9 => intro _ g; rw [e3, hF] at g; exact absurd g nF
      all_goals (intro g; rw [e3, hF] at g; exact absurd g nF)
    · have nB : ¬ Bdd P s := fun z => (Bdd_iff.mp z).1 cf
      have r3 : mI (wrI (wrI (wrI (wrI M1 11 3 W) 11 4 F) 11 5 0) 11 6 0) 11 3 = W := by simp (disch := omega) only [wrI_s, wrI_r, wrI_j, wrJ_s, wrJ_r, wrJ_j, wrI_J, wrJ_I, wrR_I, wrR_J]
      have r4 : mI (wrI (wrI (wrI (wrI M1 11 3 W) 11 4 F) 11 5 0) 11 6 0) 11 4 = F := by simp (disch := omega) only [wrI_s, wrI_r, wrI_j, wrJ_s, wrJ_r, wrJ_j, wrI_J, wrJ_I, wrR_I, wrR_J]
      have r5 : mI (wrI (wrI (wrI (wrI M1 11 3 W) 11 4 F) 11 5 0) 11 6 0) 11 5 = 0 := by simp (disch := omega) only [wrI_s, wrI_r, wrI_j, wrJ_s, wrJ_r, wrJ_j, wrI_J, wrJ_I, wrR_I, wrR_J]
      have r6 : mI (wrI (wrI (wrI (wrI M1 11 3 W) 11 4 F) 11 5 0) 11 6 0) 11 6 = 0 := by simp (disch := omega) only [wrI_s, wrI_r, wrI_j, wrJ_s, wrJ_r, wrJ_j, wrI_J, wrJ_I, wrR_I, wrR_J]
      unfold AnC
      rw [r3, r4, r5, r6]
      exact ⟨hre, hfa, fun b => ⟨fun z => absurd z bt_0, fun z => absurd cf z.1⟩, Or.inl rfl, ⟨fun z => absurd z (by decide), fun z => absurd z nB⟩, fun _ => rfl, fun z => absurd cf z, fun z => absurd z nB⟩
  · have eF : F = 0 := hF0.mpr cf
    have a4 : Ag SAn M (wrI (wrI M1 11 3 W) 11 4 F) := a2.wI (by unfold SAn; omega)
    have aM4 : Ag SAn M1 (wrI (wrI M1 11 3 W) 11 4 F) := aM2.wI (by unfold SAn; omega)
    have hS4 := a4.st hS
    have hz4 : Z17 (wrI (wrI M1 11 3 W) 11 4 F) P := fun a ha b hb => by simp (disch := omega) only [wrI_s, wrI_r, wrI_j, wrJ_s, wrJ_r, wrJ_j, wrI_J, wrJ_I, wrR_I, wrR_J]; exact z1 a ha b hb
    obtain ⟨co, c5, hco⟩ := v_circularOnes hS4 (acn aM4) hz4
    have q3 : mI (wrI (wrI M1 11 3 W) 11 4 F) 11 3 = W := by simp (disch := omega) only [wrI_s, wrI_r, wrI_j, wrJ_s, wrJ_r, wrJ_j, wrI_J, wrJ_I, wrR_I, wrR_J]
    have q4 : mI (wrI (wrI M1 11 3 W) 11 4 F) 11 4 = F := by simp (disch := omega) only [wrI_s, wrI_r, wrI_j, wrJ_s, wrJ_r, wrJ_j, wrI_J, wrJ_I, wrR_I, wrR_J]
    have hci : ∀ b, bt (co &&& W) b ↔ Rch P s b ∧ CZ P b b := fun b => by
      rw [bt_and, hre b]
      by_cases hb : b < 32
      · rw [hco b hb]
        exact ⟨fun z => ⟨z.2, z.1.2⟩, fun z => ⟨⟨z.1.lt hsp, z.2⟩, z.1⟩⟩
      · constructor
        · intro z; have := z.2.lt hsp; omega
        · intro z; have := z.1.lt hsp; omega
    generalize hC : co &&& W = C at *
    have hC0 : C = 0 ↔ ¬ Cir P s := by
      rw [bt_z]
      constructor
      · rintro z ⟨j, w1, w2⟩
        exact z j (by have := w1.lt hsp; omega) ((hci j).mpr ⟨w1, w2⟩)
      · intro z k _ q
        exact z ⟨k, ((hci k).mp q).1, ((hci k).mp q).2⟩
    by_cases cc : Cir P s
    · have nC : ¬ C = 0 := fun z => hC0.mp z cc
      have a6 : Ag SAn M (wrI (wrI (wrI (wrI M1 11 3 W) 11 4 F) 11 5 C) 11 6 0) := (a4.wI (by unfold SAn; omega)).wI (by unfold SAn; omega)
      refine ⟨_, 2, ?_, a6, ?_⟩
      · apply s_X0_analyseFrom_0 (M1 := M1) (M2 := M1) (M3 := wrI M1 11 3 W) (M4 := M) (M5 := wrI (wrI M1 11 3 W) 11 4 F) (M6 := M) (x101 := (1 : Int32) <<< (nI s &&& 31)) (x102 := fo) (x106 := 0) (x108 := co) (x113 := 0) hS
        case c1 => exact c1
        case b2 => exact in_n (by omega) (by omega)
        case c3 => exact cb
        case c4 => rw [cs, hW]; exact c4
        case k5 => intro g; rw [e3, hF] at g; exact absurd eF g
        case k6 => intro g; rw [e3, hF] at g; exact absurd eF g
        case c7 => intro g; rw [e3, hF] at g; exact absurd eF g
        case k8 => intro g; rw [e3, hF] at g; exact absurd eF g
        case k9 => intro g; rw [e3, hF] at g; exact absurd eF g
        case c10 => intros; rw [e3, hF]; exact c5
        case k11 => intro _ g; rw [q4] at g; exact absurd eF g
        case k12 => intro _ g; rw [q4] at g; exact absurd eF g
        case k13 => intros; rw [q3, hC]; exact ⟨rfl, rfl⟩
        case k14 => intro _ _ _ g; rw [q4] at g; exact absurd eF g
        all_goals (intro _ _ g; rw [q3, hC] at g; exact absurd g nC)
      · have nB : ¬ Bdd P s := fun z => (Bdd_iff.mp z).2 cc
        have r3 : mI (wrI (wrI (wrI (wrI M1 11 3 W) 11 4 F) 11 5 C) 11 6 0) 11 3 = W := by simp (disch := omega) only [wrI_s, wrI_r, wrI_j, wrJ_s, wrJ_r, wrJ_j, wrI_J, wrJ_I, wrR_I, wrR_J]
        have r4 : mI (wrI (wrI (wrI (wrI M1 11 3 W) 11 4 F) 11 5 C) 11 6 0) 11 4 = F := by simp (disch := omega) only [wrI_s, wrI_r, wrI_j, wrJ_s, wrJ_r, wrJ_j, wrI_J, wrJ_I, wrR_I, wrR_J]
        have r5 : mI (wrI (wrI (wrI (wrI M1 11 3 W) 11 4 F) 11 5 C) 11 6 0) 11 5 = C := by simp (disch := omega) only [wrI_s, wrI_r, wrI_j, wrJ_s, wrJ_r, wrJ_j, wrI_J, wrJ_I, wrR_I, wrR_J]
        have r6 : mI (wrI (wrI (wrI (wrI M1 11 3 W) 11 4 F) 11 5 C) 11 6 0) 11 6 = 0 := by simp (disch := omega) only [wrI_s, wrI_r, wrI_j, wrJ_s, wrJ_r, wrJ_j, wrI_J, wrJ_I, wrR_I, wrR_J]
        unfold AnC
        rw [r3, r4, r5, r6]
        exact ⟨hre, hfa, fun b => by rw [hci b]; exact ⟨fun z => ⟨cf, z⟩, fun z => z.2⟩, Or.inl rfl, ⟨fun z => absurd z (by decide), fun z => absurd z nB⟩, fun z => absurd z cf, fun _ _ => rfl, fun z => absurd z nB⟩
    · have eC : C = 0 := hC0.mpr cc
      have hB : Bdd P s := Bdd_iff.mpr ⟨cf, cc⟩
      have a6 : Ag SAn M (wrI (wrI (wrI (wrI M1 11 3 W) 11 4 F) 11 5 C) 11 6 1) := (a4.wI (by unfold SAn; omega)).wI (by unfold SAn; omega)
      have aM6 : Ag SAn M1 (wrI (wrI (wrI (wrI M1 11 3 W) 11 4 F) 11 5 C) 11 6 1) := (aM4.wI (by unfold SAn; omega)).wI (by unfold SAn; omega)
      have hz6 : Z17 (wrI (wrI (wrI (wrI M1 11 3 W) 11 4 F) 11 5 C) 11 6 1) P := fun a ha b hb => by simp (disch := omega) only [wrI_s, wrI_r, wrI_j, wrJ_s, wrJ_r, wrJ_j, wrI_J, wrJ_I, wrR_I, wrR_J]; exact z1 a ha b hb
      have r3 : mI (wrI (wrI (wrI (wrI M1 11 3 W) 11 4 F) 11 5 C) 11 6 1) 11 3 = W := by simp (disch := omega) only [wrI_s, wrI_r, wrI_j, wrJ_s, wrJ_r, wrJ_j, wrI_J, wrJ_I, wrR_I, wrR_J]
      have r4 : mI (wrI (wrI (wrI (wrI M1 11 3 W) 11 4 F) 11 5 C) 11 6 1) 11 4 = F := by simp (disch := omega) only [wrI_s, wrI_r, wrI_j, wrJ_s, wrJ_r, wrJ_j, wrI_J, wrJ_I, wrR_I, wrR_J]
      have r5 : mI (wrI (wrI (wrI (wrI M1 11 3 W) 11 4 F) 11 5 C) 11 6 1) 11 5 = C := by simp (disch := omega) only [wrI_s, wrI_r, wrI_j, wrJ_s, wrJ_r, wrJ_j, wrI_J, wrJ_I, wrR_I, wrR_J]
      have r6 : mI (wrI (wrI (wrI (wrI M1 11 3 W) 11 4 F) 11 5 C) 11 6 1) 11 6 = 1 := by simp (disch := omega) only [wrI_s, wrI_r, wrI_j, wrJ_s, wrJ_r, wrJ_j, wrI_J, wrJ_I, wrR_I, wrR_J]
      obtain ⟨M', x, f, c7, a7, hf, hx, hp, hx2⟩ := v_countBounds (ct := ct) hsp hB (a6.st hS) (acn aM6) (h2.ag a6 (fun i => by unfold SAn; omega)) hz6 (by rw [r3]; exact hre)
      have a7' : Ag SAn M M' := a6.tr (a7.mo (fun r i z => by unfold S1316 at z; unfold SAn; omega))
      have f11 : ∀ i, mI M' 11 i = mI (wrI (wrI (wrI (wrI M1 11 3 W) 11 4 F) 11 5 C) 11 6 1) 11 i := fun i => a7.i (by unfold S1316; omega)
      have fin : ∀ r : Int32, (r = 0 ∨ r = 3) → (r = 0 ↔ x = 1) → AnC M' P ct s r := fun r hr1 hr2 => by
        unfold AnC
        rw [f11 3, f11 4, f11 5, f11 6, r3, r4, r5, r6]
        exact ⟨hre, hfa, fun b => by rw [hci b]; exact ⟨fun z => ⟨cf, z⟩, fun z => z.2⟩, Or.inr rfl, ⟨fun _ => hB, fun _ => rfl⟩, fun z => absurd z cf, fun _ z => absurd z cc, fun _ => ⟨f, hf, hp, hr1, by rw [hr2]; exact hx2⟩⟩
      have seg : ∀ r : Int32, (x = 0 → r = 3) → (¬ x = 0 → r = 0) → Ev K_X0_analyseFrom [aR (some 11), aI (nI s)] M (some (aI r)) M' := fun r w1 w2 => by
        apply s_X0_analyseFrom_0 (M1 := M1) (M2 := M1) (M3 := wrI M1 11 3 W) (M4 := M) (M5 := wrI (wrI M1 11 3 W) 11 4 F) (M6 := M') (x101 := (1 : Int32) <<< (nI s &&& 31)) (x102 := fo) (x106 := 0) (x108 := co) (x113 := x) hS
        case c1 => exact c1
        case b2 => exact in_n (by omega) (by omega)
        case c3 => exact cb
        case c4 => rw [cs, hW]; exact c4
        case k5 => intro g; rw [e3, hF] at g; exact absurd eF g
        case k6 => intro g; rw [e3, hF] at g; exact absurd eF g
        case c7 => intro g; rw [e3, hF] at g; exact absurd eF g
        case k8 => intro g; rw [e3, hF] at g; exact absurd eF g
        case k9 => intro g; rw [e3, hF] at g; exact absurd eF g
        case c10 => intros; rw [e3, hF]; exact c5
        case k11 => intro _ g; rw [q4] at g; exact absurd eF g
        case k12 => intro _ g; rw [q4] at g; exact absurd eF g
        case k13 => intro _ _ g; rw [q3, hC] at g; exact absurd eC g
        case k14 => intro _ _ g; rw [q3, hC] at g; exact absurd eC g
        case c15 => intros; rw [q3, hC]; exact c7
        case k16 => intro _ _ _ g; rw [w1 g]; exact ⟨rfl, rfl⟩
        case k17 => intro _ _ _ g; rw [w2 g]; exact ⟨rfl, rfl⟩
      rcases hx with hx | hx
      · exact ⟨M', 3, seg 3 (fun _ => rfl) (fun z => absurd hx z), a7', fin 3 (Or.inr rfl) ⟨fun z => absurd z (by decide), fun z => by rw [hx] at z; exact absurd z (by decide)⟩⟩
      · exact ⟨M', 0, seg 0 (fun z => by rw [hx] at z; exact absurd z (by decide)) (fun _ => rfl), a7', fin 0 (Or.inl rfl) ⟨fun _ => hx, fun _ => rfl⟩⟩
end AF
