/-! ===== PURE: the greatest stack, in both ===== -/
section STK
variable {D : DD} {S : Nat → Nat} {mr : Nat → Nat} {m j : Nat}
/-- what a CALL needs -/
def scl (D : DD) (S : Nat → Nat) (i : Nat) : Nat := if dO D i = 16 then dL D + (HH D i).toNat - cA D (dA D i).toNat + 2 + S (dA D i).toNat else 0
def sbd (D : DD) (S : Nat → Nat) : Nat → Nat
  | 0 => 0
  | k + 1 => if 0 ≤ HH D k then max (max (sbd D S k) (dL D + (HH D k).toNat)) (scl D S k) else sbd D S k
def sbr (D : DD) (S : Nat → Nat) : Nat → Nat
  | 0 => 0
  | k + 1 => if 0 ≤ HH D k then max (max (sbr D S k) (dL D + (if 0 < gv D k - tk D k then HH D k + (gv D k - tk D k) else HH D k).toNat)) (scl D S k) else sbr D S k
theorem sbd_le {x : Nat} : ∀ k, sbd D S k ≤ x ↔ ∀ i, i < k → 0 ≤ HH D i → dL D + (HH D i).toNat ≤ x ∧ scl D S i ≤ x
  | 0 => ⟨fun _ i hi => by omega, fun _ => Nat.zero_le _⟩
  | k + 1 => by
    have ih := sbd_le (x := x) k
    unfold sbd
    by_cases c : 0 ≤ HH D k
    · rw [if_pos c]
      constructor
      · intro z i hi h0
        by_cases e : i = k
        · rw [e]; omega
        · exact ih.mp (by omega) i (by omega) h0
      · intro z
        have := z k (by omega) c
        have := ih.mpr (fun i hi h0 => z i (by omega) h0)
        omega
    · rw [if_neg c, ih]
      constructor
      · intro z i hi h0
        by_cases e : i = k
        · rw [e] at h0; omega
        · exact z i (by omega) h0
      · exact fun z i hi h0 => z i (by omega) h0
theorem sbr_le {x : Nat} : ∀ k, sbr D S k ≤ x ↔ ∀ i, i < k → 0 ≤ HH D i → dL D + (if 0 < gv D i - tk D i then HH D i + (gv D i - tk D i) else HH D i).toNat ≤ x ∧ scl D S i ≤ x
  | 0 => ⟨fun _ i hi => by omega, fun _ => Nat.zero_le _⟩
  | k + 1 => by
    have ih := sbr_le (x := x) k
    unfold sbr
    by_cases c : 0 ≤ HH D k
    · rw [if_pos c]
      constructor
      · intro z i hi h0
        by_cases e : i = k
        · rw [e]; omega
        · exact ih.mp (by omega) i (by omega) h0
      · intro z
        have := z k (by omega) c
        have := ih.mpr (fun i hi h0 => z i (by omega) h0)
        omega
    · rw [if_neg c, ih]
      constructor
      · intro z i hi h0
        by_cases e : i = k
        · rw [e] at h0; omega
        · exact z i (by omega) h0
      · exact fun z i hi h0 => z i (by omega) h0
theorem sb_eq (hs : Sd D) (hd : Ds D) : sbr D S (dn D) = sbd D S (dn D) := by
  have key : ∀ x, sbr D S (dn D) ≤ x ↔ sbd D S (dn D) ≤ x := fun x => by
    rw [sbr_le, sbd_le]
    constructor
    · intro z i hi h0
      have := z i hi h0
      refine ⟨?_, this.2⟩
      have h1 := this.1
      split at h1 <;> omega
    · intro z i hi h0
      refine ⟨?_, (z i hi h0).2⟩
      have hff := hs.ff hi
      have fo := ffo hff
      split
      · rename_i c
        have h12 : dO D i ≠ 12 := fun o => by unfold gv tk at c; repeat' split at c <;> omega
        have h17 : dO D i ≠ 17 := fun o => by unfold gv tk at c; repeat' split at c <;> omega
        have h14 : dO D i ≠ 14 := fun o => by unfold gv tk at c; repeat' split at c <;> omega
        have mn := met_next hs hd hi h0 h12 h17 (fun o => absurd o h14)
        have := (z (i + 1) mn.1 mn.2.1).1
        rw [mn.2.2] at this
        unfold bhd at this
        rw [show HH D i + (gv D i - tk D i) = HH D i - tk D i + gv D i by omega]
        exact this
      · exact (z i hi h0).1
  have h1 := (key (sbd D S (dn D))).mpr (Nat.le_refl _)
  have h2 := (key (sbr D S (dn D))).mp (Nat.le_refl _)
  omega
theorem scl_b {B : Nat} (hs : Sd D) (hd : Ds D) {i : Nat} (hi : i < dn D) (h0 : 0 ≤ HH D i) (hS : dO D i = 16 → S (dA D i).toNat ≤ B) : scl D S i ≤ 118 + B := by
  have := hs.r hd hi
  have := hd.2.1
  unfold scl
  split
  · rename_i o
    have := hS o
    omega
  · omega
theorem sbd_b {B : Nat} (hs : Sd D) (hd : Ds D) (hS : ∀ i, i < dn D → 0 ≤ HH D i → dO D i = 16 → S (dA D i).toNat ≤ B) : ∀ k, k ≤ dn D → sbd D S k ≤ 118 + B := fun k hk => by
  rw [sbd_le]
  intro i hi h0
  have := hs.r hd (i := i) (by omega)
  have := hd.2.1
  exact ⟨by omega, scl_b hs hd (by omega) h0 (hS i (by omega) h0)⟩
theorem sbr_b {B : Nat} (hs : Sd D) (hd : Ds D) (hS : ∀ i, i < dn D → 0 ≤ HH D i → dO D i = 16 → S (dA D i).toNat ≤ B) : ∀ k, k ≤ dn D → sbr D S k ≤ 118 + B := fun k hk => by
  rw [sbr_le]
  intro i hi h0
  have := hs.r hd (i := i) (by omega)
  have := hd.2.1
  have g := (hs.g hd (by omega) h0).2.1
  refine ⟨?_, scl_b hs hd (by omega) h0 (hS i (by omega) h0)⟩
  unfold bhd at g
  split <;> omega
/-! the class -/
theorem mxJ {a b : Nat} (ha : a < 9223372036854775808) (hb : b < 9223372036854775808) : (if jJ (a : Int) < jJ (b : Int) then jJ (b : Int) else jJ (a : Int)) = jJ ((max a b : Nat) : Int) := by
  have h1 := jJ_t (k := (a : Int)) (by omega) (by omega)
  have h2 := jJ_t (k := (b : Int)) (by omega) (by omega)
  by_cases c : a < b
  · rw [if_pos (by rw [lt64, h1, h2]; omega)]
    congr 1
    omega
  · rw [if_neg (by rw [lt64, h1, h2]; omega)]
    congr 1
    omega
def BS (M : AM) (m : Nat) (mr : Nat → Nat) (D : DD) (S : Nat → Nat) (B : Nat) : Prop := MC M m D ∧ PC M mr D ∧ CG M m D ∧ Sd D ∧ B ≤ 1000000000 ∧ ∀ i, i < dn D → 0 ≤ HH D i → dO D i = 16 → mJ M 13 (dA D i).toNat = jJ (S (dA D i).toNat) ∧ S (dA D i).toNat ≤ B
theorem v_stackOfCall {M : AM} {i B : Nat} (hS : St M) (h : BS M m mr D S B) (hi : i < dn D) (h0 : 0 ≤ HH D i) : Ev K_X1_stackOfCall [aR (some 12), aR (some m), aI (nI i)] M (some (aJ (jJ (scl D S i : Nat)))) M := by
  have hN := h.1.1.2.2
  have hs := h.2.2.2.1
  have hd := h.1.ds h.2.1
  have hff := hs.ff hi
  have ck := cl_n (n := i) (by omega)
  have ho := (h.1.2.1 i hi).1
  have ha := (h.1.2.1 i hi).2
  have eh : mI M (m + 4) i = iI (HH D i) := iI_e (h.2.2.1.2.2 hs i hi).1
  have hr := hs.r hd hi
  have g := hs.g hd hi h0
  have hc := h.2.1.1.2.1
  have hL := hd.2.1
  by_cases o : dO D i = 16
  · have fc := ffc hff o
    have tkc : tk D i = cA D (dA D i).toNat := by unfold tk; rw [if_neg (by omega), if_pos o]
    have hfi := v_find hS h.2.1.1 (mJ M (m + 2) i)
    rw [ha, if_pos fc] at hfi
    obtain ⟨e13, eB⟩ := h.2.2.2.2.2 i hi h0 o
    have hB := h.2.2.2.2.1
    have hA := (h.2.1.2 (dA D i).toNat (by omega)).1
    have hA8 := (h.2.1.2 (dA D i).toNat (by omega)).2.2.1
    have t1 := g.1
    have ev : (((mI M m 2 + mI M (m + 4) i) - mI M (mr (dA D i).toNat) 0 + 2 : Int32)).toInt64 + mJ M 13 (dA D i).toNat = jJ (scl D S i : Nat) := by
      rw [h.1.2.2.2.1, eh, hA, e13, nI_i (by omega), nI_i (by omega), iI_add, iI_sub, show (2 : Int32) = iI 2 from rfl, iI_add]
      have : (iI ((dL D : Int) + HH D i - cA D (dA D i).toNat + 2)).toInt64 = jJ ((dL D : Int) + HH D i - cA D (dA D i).toNat + 2) := by rw [eq64, l2, iI_t (by omega) (by omega), jJ_t (by omega) (by omega)]
      rw [this, jJ_add]
      congr 1
      unfold scl
      rw [if_pos o]
      omega
    apply s_X1_stackOfCall_0 (M1 := M) (o102 := some (mr (dA D i).toNat)) hS h.1.1.1
    case b1 => exact in_n (by omega) (by omega)
    case k2 => intro z; exfalso; simp only [lt32, le32, eq32, lt64, le64, eq64, Int32.reduceToInt, Int64.reduceToInt, ck, ho] at z; omega
    case c3 => intros; rw [ck]; exact hfi
    case h4 => intro _ r q; injection q with q; rw [← q]; exact (h.2.1.1.2.2.1 _ (by omega)).2
    case b5 => intros; rw [ck, x_l (by omega) (by omega), ha]; exact in_n (by omega) (by omega)
    case k6 => intro _ r q; injection q with q; subst q; rw [ck, x_l (by omega) (by omega), ha, cl_n (by omega), ev]; exact ⟨rfl, rfl⟩
    case k7 => intro _ q; simp at q
  · have e : scl D S i = 0 := by unfold scl; rw [if_neg o]
    rw [e]
    apply s_X1_stackOfCall_0 (M1 := M) (o102 := none) hS h.1.1.1
    case b1 => exact in_n (by omega) (by omega)
    case k2 => intros; exact ⟨rfl, rfl⟩
    all_goals (intro z; exfalso; simp only [lt32, le32, eq32, lt64, le64, eq64, Int32.reduceToInt, Int64.reduceToInt, ck, ho] at z; omega)
theorem l_stackOf {M : AM} {B : Nat} (hS : St M) (h : BS M m mr D S B) : ∀ (f k : Nat), dn D - k = f → k ≤ dn D → E K_X1_stackOf 5 [some (aR (some 12)), some (aR (some m)), some (aJ (jJ (sbd D S k : Nat))), none, some (aI (nI k))] [] M (some (aJ (jJ (sbd D S (dn D) : Nat)))) M := by
  have hN := h.1.1.2.2
  have hs := h.2.2.2.1
  have hd := h.1.ds h.2.1
  have hL := hd.2.1
  have hB := h.2.2.2.2.1
  intro f
  induction f with
  | zero =>
    intro k hf hk
    have e : k = dn D := by omega
    subst e
    have hg : mI M m 7 ≤ nI (dn D) := by rw [h.1.1.2.1, le32]; omega
    apply s_X1_stackOf_5 (M1 := M) (M2 := M) (x102 := 0) (x104 := 0) hS h.1.1.1
    case k1 => exact fun _ => ⟨rfl, rfl⟩
    all_goals (intro g; exact absurd hg g)
  | succ f ih =>
    intro k hf hk
    have hk' : k < dn D := by omega
    have hg : ¬ mI M m 7 ≤ nI k := by rw [h.1.1.2.1, le32, ci _ (by omega), ci _ (by omega)]; omega
    have ck := cl_n (n := k) (by omega)
    have hr := hs.r hd hk'
    have eh' := (h.2.2.1.2.2 hs k hk').1
    have eh : mI M (m + 4) k = iI (HH D k) := iI_e eh'
    have hm := v_isMet hS h.1.1 hk'
    have IH := ih (k + 1) (by omega) (by omega)
    by_cases c : 0 ≤ HH D k
    · rw [if_neg (by rw [eq32, eh']; show ¬ HH D k = -1; omega)] at hm
      have hc := v_stackOfCall hS h hk' c
      have b1 := sbd_b hs hd (fun i h1 h2 h3 => (h.2.2.2.2.2 i h1 h2 h3).2) k (by omega)
      have b2 := scl_b hs hd hk' c (fun h3 => (h.2.2.2.2.2 k hk' c h3).2)
      have et : (mI M m 2 + mI M (m + 4) k).toInt64 = jJ ((dL D + (HH D k).toNat : Nat) : Int) := by
        rw [h.1.2.2.2.1, eh, nI_i (by omega), iI_add, eq64, l2, iI_t (by omega) (by omega), jJ_t (by omega) (by omega)]
        omega
      have es : sbd D S (k + 1) = max (scl D S k) (max (dL D + (HH D k).toNat) (sbd D S k)) := by
        rw [sbd, if_pos c]
        omega
      rw [es] at IH
      apply s_X1_stackOf_5 (M1 := M) (M2 := M) (x102 := 1) (x104 := jJ (scl D S k : Nat)) hS h.1.1.1
      case k1 => intro g; exact absurd g hg
      case c2 => intros; exact hm
      case k3 => intro _ z; exact absurd z (by decide)
      case b4 => intros; exact in_n (by omega) (by omega)
      case c5 => intros; exact hc
      case k6 =>
        intros
        rw [ck, et, mxJ (by omega) (by omega), mxJ (by omega) (by omega), nI_1]
        exact IH
    · rw [if_pos (by rw [eq32, eh']; show HH D k = -1; omega)] at hm
      have es : sbd D S (k + 1) = sbd D S k := by rw [sbd, if_neg c]
      rw [es] at IH
      apply s_X1_stackOf_5 (M1 := M) (M2 := M) (x102 := 0) (x104 := 0) hS h.1.1.1
      case k1 => intro g; exact absurd g hg
      case c2 => intros; exact hm
      case k3 => intros; rw [nI_1]; exact IH
      all_goals (intro _ z; exact absurd rfl z)
theorem v_stackOf {M : AM} {B : Nat} (hS : St M) (h : BS M m mr D S B) : Ev K_X1_stackOf [aR (some 12), aR (some m)] M (some (aJ (jJ (sbd D S (dn D) : Nat)))) M :=
  s_X1_stackOf_0 hS h.1.1.1 (l_stackOf hS h _ 0 rfl (by omega))
end STK
