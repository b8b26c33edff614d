/-! ===== PURE: the class's Analyser ===== -/
section ANA
variable {P : PG} {mr : Nat → Nat} {ct : Nat → Nat}
theorem l_faultyOnes {M : AM} (hS : St M) (h : AC M P mr) : ∀ (f k : Nat) (x : Int32), pc P - k = f → k ≤ pc P → (∀ b, b < 32 → (bt x b ↔ b < k ∧ ¬ Sd (DP P b))) → ∃ y, E K_X0_faultyOnes 4 [some (aR (some 11)), some (aI x), some (aI (nI k)), none] [] M (some (aI y)) M ∧ ∀ b, b < 32 → (bt y b ↔ b < pc P ∧ ¬ Sd (DP P b)) := by
  have hc := h.1.1.2.1
  intro f
  induction f with
  | zero =>
    intro k x hf hk hx
    have e : k = pc P := by omega
    subst e
    have hg : mI M 4 2 ≤ nI (pc P) := by rw [h.1.1.1, le32]; omega
    refine ⟨x, ?_, hx⟩
    apply s_X0_faultyOnes_4 (M1 := M) (M2 := M) (M3 := M) (o102 := none) (x103 := 0) (x105 := 0) hS
    case k1 => intros; exact ⟨rfl, rfl⟩
    all_goals (intro g; exact absurd hg g)
  | succ f ih =>
    intro k x hf hk hx
    have hk' : k < pc P := by omega
    have hg : ¬ mI M 4 2 ≤ nI k := by rw [h.1.1.1, le32, ci _ (by omega), ci _ (by omega)]; omega
    have hM := (h.1.2 k hk').2.2.2
    have hv := v_isSound hS hM.1.1
    have hsd := h.snd hk'
    have fg : ∀ (x : Int32) (o : Option AV), FG [some (aR (some 11)), some (aI x), some (aI (nI (k + 1))), none] [some (aR (some 11)), some (aI x), some (aI (nI (k + 1))), o] := fun x o => ⟨Or.inr rfl, Or.inr rfl, Or.inr rfl, Or.inl rfl, trivial⟩
    by_cases s : Sd (DP P k)
    · rw [if_pos (hsd.mpr s)] at hv
      obtain ⟨y, hE, hy⟩ := ih (k + 1) x (by omega) (by omega) (fun b hb => by
        rw [hx b hb]
        constructor
        · exact fun z => ⟨by omega, z.2⟩
        · intro z
          refine ⟨?_, z.2⟩
          by_cases e : b = k
          · rw [e] at z; exact absurd s z.2
          · omega)
      refine ⟨y, ?_, hy⟩
      apply s_X0_faultyOnes_4 (M1 := M) (M2 := M) (M3 := M) (o102 := some (mr k)) (x103 := 1) (x105 := 0) hS
      case k1 => intro g; exact absurd g hg
      case c2 => intros; exact v_findn hS h.1.1 hk'
      case k3 => intro _ q; simp at q
      case h4 => intro _ r q; injection q with q; rw [← q]; exact hM.1.1
      case c5 => intro _ r q; injection q with q; rw [← q]; exact hv
      case k6 => intros; rw [nI_1]; exact hE.fg (fg _ _)
      all_goals (intro _ r q g; exact absurd g (by decide))
    · rw [if_neg (fun z => s (hsd.mp z))] at hv
      obtain ⟨y, hE, hy⟩ := ih (k + 1) (x ||| ((1 : Int32) <<< (nI k &&& 31))) (by omega) (by omega) (fun b hb => by
        rw [bt_or, hx b hb, bt_bit (by omega) hb]
        constructor
        · rintro (z | z)
          · exact ⟨by omega, z.2⟩
          · rw [z]; exact ⟨by omega, s⟩
        · intro z
          by_cases e : b = k
          · exact Or.inr e
          · exact Or.inl ⟨by omega, z.2⟩)
      refine ⟨y, ?_, hy⟩
      apply s_X0_faultyOnes_4 (M1 := M) (M2 := M) (M3 := M) (o102 := some (mr k)) (x103 := 0) (x105 := (1 : Int32) <<< (nI k &&& 31)) hS
      case k1 => intro g; exact absurd g hg
      case c2 => intros; exact v_findn hS h.1.1 hk'
      case k3 => intro _ q; simp at q
      case h4 => intro _ r q; injection q with q; rw [← q]; exact hM.1.1
      case c5 => intro _ r q; injection q with q; rw [← q]; exact hv
      case k6 => intro _ r q g; exact absurd rfl g
      case c7 => intros; exact v_bit hS _
      case k8 => intros; rw [nI_1]; exact hE.fg (fg _ _)
theorem v_faultyOnes {M : AM} (hS : St M) (h : AC M P mr) : ∃ y, Ev K_X0_faultyOnes [aR (some 11)] M (some (aI y)) M ∧ ∀ b, b < 32 → (bt y b ↔ b < pc P ∧ ¬ Sd (DP P b)) := by
  obtain ⟨y, hE, hy⟩ := l_faultyOnes hS h _ 0 0 rfl (by omega) (fun b hb => ⟨fun z => absurd z bt_0, fun z => by omega⟩)
  exact ⟨y, s_X0_faultyOnes_0 hS hE, hy⟩
def Z17 (M : AM) (P : PG) : Prop := ∀ a, a < pc P → ∀ b, b < 32 → (bt (mI M 17 a) b ↔ CZ P a b)
theorem l_circularOnes {M : AM} (hS : St M) (h : AC M P mr) (hz : Z17 M P) : ∀ (f k : Nat) (x : Int32), pc P - k = f → k ≤ pc P → (∀ b, b < 32 → (bt x b ↔ b < k ∧ CZ P b b)) → ∃ y, E K_X0_circularOnes 4 [some (aR (some 11)), some (aI x), some (aI (nI k))] [] M (some (aI y)) M ∧ ∀ b, b < 32 → (bt y b ↔ b < pc P ∧ CZ P b b) := by
  have hc := h.1.1.2.1
  intro f
  induction f with
  | zero =>
    intro k x hf hk hx
    have e : k = pc P := by omega
    subst e
    have hg : mI M 4 2 ≤ nI (pc P) := by rw [h.1.1.1, le32]; omega
    refine ⟨x, ?_, hx⟩
    apply s_X0_circularOnes_4 (M1 := M) (x102 := 0) hS
    case k1 => intros; exact ⟨rfl, rfl⟩
    all_goals (intro g; exact absurd hg g)
  | succ f ih =>
    intro k x hf hk hx
    have hk' : k < pc P := by omega
    have hg : ¬ mI M 4 2 ≤ nI k := by rw [h.1.1.1, le32, ci _ (by omega), ci _ (by omega)]; omega
    have ck := cl_n (n := k) (by omega)
    obtain ⟨y, hE, hy⟩ := ih (k + 1) (x ||| (mI M 17 k &&& ((1 : Int32) <<< (nI k &&& 31)))) (by omega) (by omega) (fun b hb => by
      rw [bt_or, hx b hb, bt_and, bt_bit (by omega) hb]
      constructor
      · rintro (z | z)
        · exact ⟨by omega, z.2⟩
        · rw [hz k hk' b hb] at z
          obtain ⟨z1, z2⟩ := z
          rw [z2] at z1
          rw [z2]
          exact ⟨by omega, z1⟩
      · intro z
        by_cases e : b = k
        · right
          rw [e]
          rw [e] at z
          exact ⟨(hz k hk' k (by omega)).mpr z.2, rfl⟩
        · exact Or.inl ⟨by omega, z.2⟩)
    refine ⟨y, ?_, hy⟩
    apply s_X0_circularOnes_4 (M1 := M) (x102 := (1 : Int32) <<< (nI k &&& 31)) hS
    case k1 => intro g; exact absurd g hg
    case b2 => intros; exact in_n (by omega) (by omega)
    case c3 => intros; exact v_bit hS _
    case k4 => intros; rw [ck, nI_1]; exact hE
theorem v_circularOnes {M : AM} (hS : St M) (h : AC M P mr) (hz : Z17 M P) : ∃ y, Ev K_X0_circularOnes [aR (some 11)] M (some (aI y)) M ∧ ∀ b, b < 32 → (bt y b ↔ b < pc P ∧ CZ P b b) := by
  obtain ⟨y, hE, hy⟩ := l_circularOnes hS h hz _ 0 0 rfl (by omega) (fun b hb => ⟨fun z => absurd z bt_0, fun z => by omega⟩)
  exact ⟨y, s_X0_circularOnes_0 hS hE, hy⟩
def Rch (P : PG) (s b : Nat) : Prop := b = s ∨ CZ P s b
theorem Rch.lt {s b : Nat} (hs : s < pc P) (h : Rch P s b) : b < pc P := h.elim (fun e => by rw [e]; exact hs) (fun z => z.lt.2)
theorem Rch.step {s a b : Nat} (h : Rch P s a) (q : CZ P a b) : Rch P s b := h.elim (fun e => by rw [e] at q; exact Or.inr q) (fun z => Or.inr (z.tr q))
/-- all that is reached is sound and comes not to itself -/
def Bdd (P : PG) (s : Nat) : Prop := ∀ j, Rch P s j → Sd (DP P j) ∧ ¬ CZ P j j
def S1316 : Nat → Nat → Prop := fun r _ => 13 ≤ r ∧ r ≤ 16
theorem CO.ag {S : Nat → Nat → Prop} {M M' : AM} (h : CO M ct) (a : Ag S M M') (hs : ∀ i, ¬ S 6 i) : CO M' ct := fun k hk => by rw [a.i (hs k)]; exact h k hk
theorem Z17.ag {S : Nat → Nat → Prop} {M M' : AM} (h : Z17 M P) (a : Ag S M M') (hs : ∀ i, ¬ S 17 i) : Z17 M' P := fun k hk => by rw [a.i (hs k)]; exact h k hk
/-- what holds while bounds are counted: W waits -/
def CB (M : AM) (P : PG) (mr : Nat → Nat) (ct : Nat → Nat) (s : Nat) (W : Int32) (f : Nat) (x : Int32) : Prop :=
  AC M P mr ∧ CO M ct ∧ Z17 M P ∧ (∀ b, bt W b → Rch P s b) ∧ (∀ j, Rch P s j → ¬ bt W j → StB P ct f j ∧ mJ M 14 j = sJ ((TFS P ct f).1 j) ∧ mJ M 13 j = jJ ((TFS P ct f).2 j)) ∧ (x = 0 ∨ x = 1) ∧ (x = 1 ↔ ∀ j, Rch P s j → ¬ bt W j → mJ M 14 j ≠ -2)
theorem v_process {M : AM} {s k f : Nat} {W x : Int32} (hsp : s < pc P) (hb : Bdd P s) (hS : St M) (h : CB M P mr ct s W f x) (hf : f ≤ 2000) (hW : bt W k) (hq : ∀ b, CZ P k b → ¬ bt W b) :
    ∃ M3 M4, Ev K_X1_stackOf [aR (some 12), aR (some (mr k))] M (some (aJ (jJ ((TFS P ct (f + 1)).2 k)))) M ∧ M3 = wrJ M 13 k (jJ ((TFS P ct (f + 1)).2 k)) ∧ Ev K_X1_timeOf [aR (some 12), aR (some (mr k))] M3 (some (aJ (sJ ((TFS P ct (f + 1)).1 k)))) M4 ∧ Ag S1316 M (wrJ M4 14 k (sJ ((TFS P ct (f + 1)).1 k))) ∧
    ∃ y : Int32, (y = 0 ∨ y = 1) ∧ (y = 0 ↔ sJ ((TFS P ct (f + 1)).1 k) = -2) ∧ CB (wrJ M4 14 k (sJ ((TFS P ct (f + 1)).1 k))) P mr ct s (W &&& (((1 : Int32) <<< (nI k &&& 31)) ^^^ (-1))) (f + 1) (x &&& y) := by
  obtain ⟨h1, h2, h3, h4, h5, h6, h7⟩ := h
  have hR := h4 k hW
  have hkp := hR.lt hsp
  have hc := h1.1.1.2.1
  have hsd := (hb k hR).1
  have hd := h1.ds hkp
  have hM := (h1.1.2 k hkp).2.2.2
  have call : ∀ i, i < dn (DP P k) → 0 ≤ HH (DP P k) i → dO (DP P k) i = 16 → CL P k (dA (DP P k) i).toNat := fun i q1 q2 q3 => by
    have fc := ffc (hsd.ff q1) q3
    exact ⟨hkp, hsd, i, q1, q2, q3, by show pa P k i = ((dA (DP P k) i).toNat : Int); have : dA (DP P k) i = pa P k i := rfl; omega⟩
  have done : ∀ c, CL P k c → StB P ct f c ∧ mJ M 14 c = sJ ((TFS P ct f).1 c) ∧ mJ M 13 c = jJ ((TFS P ct f).2 c) := fun c q => by
    have z : CZ P k c := cloR_dir _ q
    exact h5 c (hR.step z) (hq c z)
  have hbs : BS M (mr k) mr (DP P k) (TFS P ct f).2 (118 * f) := ⟨hM, h1.1.pp k, h1.2 k hkp, hsd, by omega, fun i q1 q2 q3 => ⟨(done _ (call i q1 q2 q3)).2.2, (done _ (call i q1 q2 q3)).1.2.1⟩⟩
  have e1 := v_stackOf hS hbs
  have a3 : Ag S1316 M (wrJ M 13 k (jJ ((TFS P ct (f + 1)).2 k))) := Ag.rf.wJ (by unfold S1316; omega)
  have h1' : AC (wrJ M 13 k (jJ ((TFS P ct (f + 1)).2 k))) P mr := h1.ag a3 (fun r i z => by unfold S1316 at z; omega)
  have hbx : BX (wrJ M 13 k (jJ ((TFS P ct (f + 1)).2 k))) (mr k) mr (DP P k) ct (TFS P ct f).1 := ⟨(h1'.1.2 k hkp).2.2.2, h1'.1.pp k, h1'.2 k hkp, hsd, h2.ag a3 (fun i => by unfold S1316; omega), fun i q1 q2 q3 => by simp (disch := omega) only [wrI_s, wrI_r, wrI_j, wrJ_s, wrJ_r, wrJ_j, wrI_J, wrJ_I, wrR_I, wrR_J]; exact (done _ (call i q1 q2 q3)).2.1⟩
  obtain ⟨M4, e2, a4⟩ := v_timeOf (a3.st hS) hbx
  have a4' : Ag S1316 M M4 := a3.tr (a4.mo (fun r i z => by unfold S1516 at z; unfold S1316; omega))
  have a5 : Ag S1316 M (wrJ M4 14 k (sJ ((TFS P ct (f + 1)).1 k))) := a4'.wJ (by unfold S1316; omega)
  have hst : StB P ct (f + 1) k := StB.step hkp hsd hd (fun c q => (done c q).1)
  refine ⟨_, M4, e1, rfl, e2, a5, ?_⟩
  have bW : ∀ b, bt (W &&& (((1 : Int32) <<< (nI k &&& 31)) ^^^ (-1))) b ↔ bt W b ∧ b ≠ k := fun b => by
    rw [bt_and]
    by_cases hb32 : b < 32
    · rw [bt_not hb32, bt_bit (by omega) hb32]
    · exact ⟨fun z => absurd z.1 (bt_hi (by omega)), fun z => absurd z.1 (bt_hi (by omega))⟩
  have e14 : ∀ j, j ≠ k → mJ (wrJ M4 14 k (sJ ((TFS P ct (f + 1)).1 k))) 14 j = mJ M 14 j := fun j hj => by
    rw [wrJ_j hj, a4.j (by unfold S1516; omega)]
    simp (disch := omega) only [wrI_s, wrI_r, wrI_j, wrJ_s, wrJ_r, wrJ_j, wrI_J, wrJ_I, wrR_I, wrR_J]
  have e13 : ∀ j, j ≠ k → mJ (wrJ M4 14 k (sJ ((TFS P ct (f + 1)).1 k))) 13 j = mJ M 13 j := fun j hj => by
    rw [wrJ_j hj, a4.j (by unfold S1516; omega), wrJ_j hj]
  have e13k : mJ (wrJ M4 14 k (sJ ((TFS P ct (f + 1)).1 k))) 13 k = jJ ((TFS P ct (f + 1)).2 k) := by
    rw [wrJ_r (by omega), a4.j (by unfold S1516; omega), wrJ_s]
  have proc : ∀ j, Rch P s j → ¬ bt (W &&& (((1 : Int32) <<< (nI k &&& 31)) ^^^ (-1))) j → StB P ct (f + 1) j ∧ mJ (wrJ M4 14 k (sJ ((TFS P ct (f + 1)).1 k))) 14 j = sJ ((TFS P ct (f + 1)).1 j) ∧ mJ (wrJ M4 14 k (sJ ((TFS P ct (f + 1)).1 k))) 13 j = jJ ((TFS P ct (f + 1)).2 j) := fun j hj hn => by
    by_cases e : j = k
    · rw [e]; exact ⟨hst, wrJ_s, e13k⟩
    · have o := h5 j hj (fun z => hn ((bW j).mpr ⟨z, e⟩))
      have q := o.1.2.2 (f + 1) (by omega)
      refine ⟨o.1.mono (by omega), ?_, ?_⟩
      · rw [e14 j e, q.1]; exact o.2.1
      · rw [e13 j e, q.2]; exact o.2.2
  have fin : ∀ y : Int32, (y = 0 ∨ y = 1) → (y = 0 ↔ sJ ((TFS P ct (f + 1)).1 k) = -2) → CB (wrJ M4 14 k (sJ ((TFS P ct (f + 1)).1 k))) P mr ct s (W &&& (((1 : Int32) <<< (nI k &&& 31)) ^^^ (-1))) (f + 1) (x &&& y) := fun y hy1 hy2 => by
    refine ⟨h1.ag a5 (fun r i z => by unfold S1316 at z; omega), h2.ag a5 (fun i => by unfold S1316; omega), h3.ag a5 (fun i => by unfold S1316; omega), fun b z => h4 b ((bW b).mp z).1, proc, ?_, ?_⟩
    · rcases h6 with z | z <;> rcases hy1 with w | w <;> rw [z, w] <;> decide
    · have xy : (x &&& y = 1) ↔ (x = 1 ∧ y = 1) := by rcases h6 with z | z <;> rcases hy1 with w | w <;> rw [z, w] <;> decide
      have y1 : y = 1 ↔ sJ ((TFS P ct (f + 1)).1 k) ≠ -2 := by
        rcases hy1 with w | w
        · constructor
          · intro z; rw [w] at z; exact absurd z (by decide)
          · intro z; exact absurd (hy2.mp w) z
        · constructor
          · intro _ z; rw [hy2.mpr z] at w; exact absurd w (by decide)
          · intro _; exact w
      rw [xy, h7, y1]
      constructor
      · intro z j hj hn
        by_cases e : j = k
        · rw [e, wrJ_s]; exact z.2
        · rw [e14 j e]; exact z.1 j hj (fun w => hn ((bW j).mpr ⟨w, e⟩))
      · intro z
        refine ⟨fun j hj hn => ?_, ?_⟩
        · by_cases e : j = k
          · rw [e] at hn; exact absurd hW hn
          · have := z j hj (fun w => hn ((bW j).mp w).1)
            rw [e14 j e] at this
            exact this
        · have := z k hR (fun w => ((bW k).mp w).2 rfl)
          rw [wrJ_s] at this
          exact this
  by_cases c : sJ ((TFS P ct (f + 1)).1 k) = -2
  · exact ⟨0, Or.inl rfl, ⟨fun _ => c, fun _ => rfl⟩, fin 0 (Or.inl rfl) ⟨fun _ => c, fun _ => rfl⟩⟩
  · exact ⟨1, Or.inr rfl, ⟨fun z => absurd z (by decide), fun z => absurd z c⟩, fin 1 (Or.inr rfl) ⟨fun z => absurd z (by decide), fun z => absurd z c⟩⟩
theorem l_cb27 {s p : Nat} (hsp : s < pc P) (hb : Bdd P s) : ∀ (g k : Nat) (M : AM) (W x : Int32) (f : Nat), pc P - k = g → k ≤ pc P → St M → CB M P mr ct s W f x → f ≤ 32 * p + k → p ≤ 32 →
    ∃ M1 W1 x1 f1, Ag S1316 M M1 ∧ CB M1 P mr ct s W1 f1 x1 ∧ f1 ≤ 32 * (p + 1) ∧ (∀ b, bt W1 b → bt W b) ∧ (∀ j, k ≤ j → bt W j → (∀ b, CZ P j b → ¬ bt W b) → ¬ bt W1 j) ∧
    ∀ w M', E K_X0_countBounds 9 [some (aR (some 11)), some (aI x1), some (aI W1), some (aI (nI (p + 1))), none, none] [] M1 w M' → E K_X0_countBounds 27 [some (aR (some 11)), some (aI x), some (aI W), some (aI (nI p)), some (aI (nI k)), none] [] M w M' := by
  intro g
  induction g with
  | zero =>
    intro k M W x f hg hk hS h hf hp
    have e : k = pc P := by omega
    subst e
    have hc := h.1.1.1.2.1
    have hgg : mI M 4 2 ≤ nI (pc P) := by rw [h.1.1.1.1, le32]; omega
    refine ⟨M, W, x, f, Ag.rf, h, by omega, fun b z => z, fun j hj hw => ?_, fun w M' z => ?_⟩
    · have := (h.2.2.2.1 j hw).lt hsp; omega
    · apply s_X0_countBounds_27 (M1 := M) (M2 := M) (M3 := M) (M4 := M) (M5 := M) (o102 := none) (x103 := 0) (x106 := 0) (x107 := 0) (x108 := 0) hS
      case k1 => intros; rw [nI_1]; exact z.fg ⟨Or.inr rfl, Or.inr rfl, Or.inr rfl, Or.inr rfl, Or.inl rfl, Or.inr rfl, trivial⟩
      all_goals (intro q; exact absurd hgg q)
  | succ g ih =>
    intro k M W x f hg hk hS h hf hp
    have hc := h.1.1.1.2.1
    have hk' : k < pc P := by omega
    have hgg : ¬ mI M 4 2 ≤ nI k := by rw [h.1.1.1.1, le32, ci _ (by omega), ci _ (by omega)]; omega
    have ck := cl_n (n := k) (by omega)
    have hM := (h.1.1.2 k hk').2.2.2
    obtain ⟨b, hb1, hb2⟩ := v_isIn (c := k) hS (by omega) W
    have fg : ∀ (x W : Int32) (o : Option AV), FG [some (aR (some 11)), some (aI x), some (aI W), some (aI (nI p)), some (aI (nI (k + 1))), none] [some (aR (some 11)), some (aI x), some (aI W), some (aI (nI p)), some (aI (nI (k + 1))), o] := fun x W o => ⟨Or.inr rfl, Or.inr rfl, Or.inr rfl, Or.inr rfl, Or.inr rfl, Or.inl rfl, trivial⟩
    have key : mI M 17 k &&& W = 0 ↔ ∀ b, CZ P k b → ¬ bt W b := by
      rw [bt_z]
      constructor
      · intro z b q w
        have := q.lt.2
        exact z b (by omega) (bt_and.mpr ⟨(h.2.2.1 k hk' b (by omega)).mpr q, w⟩)
      · intro z b hb q
        have := bt_and.mp q
        exact z b ((h.2.2.1 k hk' b hb).mp this.1) this.2
    by_cases c : bt W k ∧ ∀ b, CZ P k b → ¬ bt W b
    · obtain ⟨M3, M4, e1, e3, e2, a5, y, hy1, hy2, hcb⟩ := v_process hsp hb hS h (by omega) c.1 c.2
      subst e3
      have hS5 := a5.st hS
      obtain ⟨M1, W1, x1, f1, a1, q1, q2, q3, q4, q5⟩ := ih (k + 1) _ _ _ (f + 1) (by omega) (by omega) hS5 hcb (by omega) hp
      have bW : ∀ b, bt (W &&& (((1 : Int32) <<< (nI k &&& 31)) ^^^ (-1))) b → bt W b ∧ b ≠ k := fun b z => by
        rw [bt_and] at z
        by_cases hb32 : b < 32
        · rw [bt_not hb32, bt_bit (by omega) hb32] at z; exact z
        · exact absurd z.1 (bt_hi (by omega))
      have e14 : mJ (wrJ M4 14 k (sJ ((TFS P ct (f + 1)).1 k))) 14 k = sJ ((TFS P ct (f + 1)).1 k) := wrJ_s
      refine ⟨M1, W1, x1, f1, a5.tr a1, q1, q2, fun b z => (bW b (q3 b z)).1, fun j hj hw hn z => ?_, fun w M' z => ?_⟩
      · by_cases e : j = k
        · rw [e] at z; exact (bW k (q3 k z)).2 rfl
        · by_cases w : bt (W &&& (((1 : Int32) <<< (nI k &&& 31)) ^^^ (-1))) j
          · exact q4 j (by omega) w (fun b q w2 => hn b q (bW b w2).1) z
          · exact w (q3 j z)
      · apply s_X0_countBounds_27 (M1 := M) (M2 := M) (M3 := M) (M4 := M4) (M5 := wrJ M4 14 k (sJ ((TFS P ct (f + 1)).1 k))) (o102 := some (mr k)) (x103 := b) (x106 := jJ ((TFS P ct (f + 1)).2 k)) (x107 := sJ ((TFS P ct (f + 1)).1 k)) (x108 := (1 : Int32) <<< (nI k &&& 31)) hS
        case k1 => intro q; exact absurd q hgg
        case c2 => intros; exact v_findn hS h.1.1.1 hk'
        case k3 => intro _ q; simp at q
        case h4 => intro _ r q; injection q with q; rw [← q]; exact hM.1.1
        case c5 => intros; exact hb1
        case k6 => intro _ r q q2; exact absurd c.1 (hb2.mp q2)
        case b7 => intros; exact in_n (by omega) (by omega)
        case k8 => intro _ r q _ q2; rw [ck] at q2; exact absurd (key.mpr c.2) q2
        case c9 => intro _ r q _ _; injection q with q; rw [← q]; exact e1
        case c10 => intro _ r q _ _; injection q with q; rw [← q, ck]; exact e2
        case c11 => intros; rw [ck]; exact v_bit hS5 _
        case k12 =>
          intro _ r q _ _ q6
          have e : x &&& y = 0 := by rcases hy1 with u | u <;> rw [q6, u] <;> decide
          rw [e] at q5
          rw [nI_1]
          exact (q5 w M' z).fg (fg _ _ _)
        case k13 =>
          intro _ r q _ _ _ q6
          rw [ck, e14] at q6
          have e : x &&& y = 0 := by rcases h.2.2.2.2.2.1 with u | u <;> rw [hy2.mpr q6, u] <;> decide
          rw [e] at q5
          rw [nI_1]
          exact (q5 w M' z).fg (fg _ _ _)
        case k14 =>
          intro _ r q _ _ q7 q6
          rw [ck, e14] at q6
          have y1 : y = 1 := hy1.elim (fun e => absurd (hy2.mp e) q6) id
          have x0 : x = 1 := h.2.2.2.2.2.1.elim (fun e => absurd e q7) id
          have e : x &&& y = 1 := by rw [y1, x0] <;> decide
          rw [e] at q5
          rw [nI_1]
          exact (q5 w M' z).fg (fg _ _ _)
    · obtain ⟨M1, W1, x1, f1, a1, q1, q2, q3, q4, q5⟩ := ih (k + 1) M W x f (by omega) (by omega) hS h (by omega) hp
      refine ⟨M1, W1, x1, f1, a1, q1, q2, q3, fun j hj hw hn => ?_, fun w M' z => ?_⟩
      · by_cases e : j = k
        · rw [e] at hw hn; exact absurd ⟨hw, hn⟩ c
        · exact q4 j (by omega) hw hn
      · apply s_X0_countBounds_27 (M1 := M) (M2 := M) (M3 := M) (M4 := M) (M5 := M) (o102 := some (mr k)) (x103 := b) (x106 := 0) (x107 := 0) (x108 := 0) hS
        case k1 => intro q; exact absurd q hgg
        case c2 => intros; exact v_findn hS h.1.1.1 hk'
        case k3 => intro _ q; simp at q
        case h4 => intro _ r q; injection q with q; rw [← q]; exact hM.1.1
        case c5 => intros; exact hb1
        case k6 => intros; rw [nI_1]; exact (q5 w M' z).fg (fg _ _ _)
        case b7 => intros; exact in_n (by omega) (by omega)
        case k8 => intros; rw [nI_1]; exact (q5 w M' z).fg (fg _ _ _)
        all_goals
          intro _ r q q2 q3
          rw [ck] at q3
          have w1 : bt W k := Classical.byContradiction (fun z => q2 (hb2.mpr z))
          exact absurd ⟨w1, key.mp q3⟩ c
theorem l_cb9 {s : Nat} (hsp : s < pc P) (hb : Bdd P s) : ∀ (g p : Nat) (M : AM) (W x : Int32) (f : Nat), pc P - p = g → p ≤ pc P → St M → CB M P mr ct s W f x → f ≤ 32 * p → cnt (bt W) (pc P) ≤ pc P - p →
    ∃ M' x' f', E K_X0_countBounds 9 [some (aR (some 11)), some (aI x), some (aI W), some (aI (nI p)), none, none] [] M (some (aI x')) M' ∧ Ag S1316 M M' ∧ CB M' P mr ct s 0 f' x' ∧ f' ≤ 2000 := by
  have zero : ∀ (M : AM) (W x : Int32) (f : Nat), CB M P mr ct s W f x → (∀ j, j < pc P → ¬ bt W j) → CB M P mr ct s 0 f x := fun M W x f h hn => by
    have hn' : ∀ j, Rch P s j → ¬ bt W j := fun j hj => hn j (hj.lt hsp)
    refine ⟨h.1, h.2.1, h.2.2.1, fun b z => absurd z bt_0, fun j hj _ => h.2.2.2.2.1 j hj (hn' j hj), h.2.2.2.2.2.1, ?_⟩
    rw [h.2.2.2.2.2.2]
    exact ⟨fun z j hj _ => z j hj (hn' j hj), fun z j hj _ => z j hj bt_0⟩
  intro g
  induction g with
  | zero =>
    intro p M W x f hg hp hS h hf hcnt
    have hc := h.1.1.1.2.1
    have e : p = pc P := by omega
    subst e
    have hgg : mI M 4 2 ≤ nI (pc P) := by rw [h.1.1.1.1, le32]; omega
    refine ⟨M, x, f, ?_, Ag.rf, zero M W x f h (cnt_0 _ (by omega)), by omega⟩
    apply s_X0_countBounds_9 hS
    case k1 => intros; exact ⟨rfl, rfl⟩
    case z2 => intros; exact h.2.2.2.2.2.1
    all_goals (intro q; exact absurd hgg q)
  | succ g ih =>
    intro p M W x f hg hp hS h hf hcnt
    have hc := h.1.1.1.2.1
    have hgg : ¬ mI M 4 2 ≤ nI p := by rw [h.1.1.1.1, le32, ci _ (by omega), ci _ (by omega)]; omega
    by_cases c : W = 0
    · refine ⟨M, x, f, ?_, Ag.rf, by rw [c] at h; exact h, by omega⟩
      apply s_X0_countBounds_9 hS
      case k1 => intro q; exact absurd q hgg
      case z2 => intro q; exact absurd q hgg
      case k3 => intros; exact ⟨rfl, rfl⟩
      case z4 => intros; exact h.2.2.2.2.2.1
      case k5 => intro _ q; exact absurd c q
    · obtain ⟨M1, W1, x1, f1, a1, q1, q2, q3, q4, q5⟩ := l_cb27 (p := p) hsp hb _ 0 M W x f rfl (by omega) hS h (by omega) (by omega)
      have hne : ∃ j, bt W j := Classical.byContradiction (fun z => c (bt_z.mpr (fun k _ w => z ⟨k, w⟩)))
      obtain ⟨j0, w0, m0⟩ := min_ex (Q := CZ P) (pc P) (bt W) (fun j z => (h.2.2.2.1 j z).lt hsp) hne (fun j z => (hb j (h.2.2.2.1 j z)).2) (fun a b c _ z1 z2 => z1.tr z2)
      have hlt : cnt (bt W1) (pc P) < cnt (bt W) (pc P) := cnt_lt _ (fun j _ z => q3 j z) ⟨j0, (h.2.2.2.1 j0 w0).lt hsp, w0, q4 j0 (Nat.zero_le _) w0 (fun b z w => m0 b w z)⟩
      obtain ⟨M', x', f', hE, hA, hcb, hf'⟩ := ih (p + 1) M1 W1 x1 f1 (by omega) (by omega) (a1.st hS) q1 (by omega) (by omega)
      refine ⟨M', x', f', ?_, a1.tr hA, hcb, hf'⟩
      apply s_X0_countBounds_9 hS
      case k1 => intro q; exact absurd q hgg
      case z2 => intro q; exact absurd q hgg
      case k3 => intro _ q; exact absurd q c
      case z4 => intro _ q; exact absurd q c
      case k5 => intros; exact (q5 _ _ hE).fg ⟨Or.inr rfl, Or.inr rfl, Or.inr rfl, Or.inr rfl, Or.inr rfl, Or.inr rfl, trivial⟩
theorem v_countBounds {M : AM} {s : Nat} (hsp : s < pc P) (hb : Bdd P s) (hS : St M) (h1 : AC M P mr) (h2 : CO M ct) (h3 : Z17 M P) (h4 : ∀ b, bt (mI M 11 3) b ↔ Rch P s b) : ∃ M' x f, Ev K_X0_countBounds [aR (some 11)] M (some (aI x)) M' ∧ Ag S1316 M M' ∧ f ≤ 2000 ∧ (x = 0 ∨ x = 1) ∧ (∀ j, Rch P s j → StB P ct f j ∧ mJ M' 14 j = sJ ((TFS P ct f).1 j) ∧ mJ M' 13 j = jJ ((TFS P ct f).2 j)) ∧ (x = 1 ↔ ∀ j, Rch P s j → mJ M' 14 j ≠ -2) := by
  obtain ⟨M', x, f, hE, hA, hcb, hf⟩ := l_cb9 (ct := ct) (mr := mr) hsp hb _ 0 M (mI M 11 3) 1 0 rfl (by omega) hS ⟨h1, h2, h3, fun b z => (h4 b).mp z, fun j hj hn => absurd ((h4 j).mpr hj) hn, Or.inr rfl, ⟨fun _ j hj hn => absurd ((h4 j).mpr hj) hn, fun _ => rfl⟩⟩ (by omega) (by have := cnt_le (W := bt (mI M 11 3)) (pc P); omega)
  refine ⟨M', x, f, s_X0_countBounds_0 hS hE, hA, hf, hcb.2.2.2.2.2.1, fun j hj => hcb.2.2.2.2.1 j hj bt_0, ?_⟩
  rw [hcb.2.2.2.2.2.2]
  exact ⟨fun z j hj => z j hj bt_0, fun z j hj _ => z j hj⟩
end ANA
