/-! ===== PURE: the reference's region ===== -/
section RGN
variable {D : DD} {ct : Nat → Nat} {T : Nat → Option Nat} {j : Nat}
def S678 : Nat → Nat → Prop := fun r _ => r = 46 ∨ r = 47 ∨ r = 48
/-- a region that counts -/
def Okr (D : DD) (L : Int) : Prop := L = -1 ∨ ∃ l : Nat, L = l ∧ l < dn D ∧ 0 ≤ HH D l ∧ dO D l = 14 ∧ 0 < dA D l
theorem l_rg50 {L : Int} (hs : Sd D) (hd : Ds D) (hL : -1 ≤ L ∧ L < dn D) : ∀ (f i : Nat) (M : AM) (bk wh : Int64), dn D - i = f → i ≤ dn D → L < i → St M → MM M j D → BRi D j (dn D) M →
    ∃ M1 b1 w1, Ag S46 M M1 ∧ (VX M j D ct T L → ∀ (l0 : Nat) (s0 : List Nat), hdI s0 = L → RX D ct T l0 s0 i M bk wh TT TT → RX D ct T l0 s0 (dn D) M1 b1 w1 TT TT) ∧
    (∀ v M', E K_X7_region 50 (LR j L b1 w1 (dn D) none none none none none none) [] M1 v M' → E K_X7_region 50 (LR j L bk wh i none none none none none none) [] M v M') := by
  intro f
  induction f with
  | zero =>
    intro i M bk wh hf hi hLi hS h hB
    have e : i = dn D := by omega
    subst e
    exact ⟨M, bk, wh, Ag.rf, fun _ _ _ _ z => z, fun _ _ z => z⟩
  | succ f ih =>
    intro i M bk wh hf hi hLi hS h hB
    have hN := h.ln
    have hi' : i < dn D := by omega
    have a := rst_ag (D := D) (j := j) (L := L) (i := i) (M := M) (bk := bk) (wh := wh)
    obtain ⟨M1, b1, w1, a1, v1, k1⟩ := ih (i + 1) (rst D j L i M bk wh).1 (rst D j L i M bk wh).2.1 (rst D j L i M bk wh).2.2 (by omega) (by omega) (by omega) (a.st hS) (h.s46 a) (hB.ag a (fun i => by unfold S46; omega))
    refine ⟨M1, b1, w1, a.tr a1, fun hv l0 s0 q z => v1 (hv.s46 a) l0 s0 q (rst_valid hs hd hL.1 q hv hi' hLi z), fun v M' z => r50 hS h hB hi' (hs.ff hi') (by omega) (k1 v M' z)⟩
theorem l_rg2 {L : Int} (hL : -1 ≤ L ∧ L < dn D) : ∀ (f i : Nat) (M : AM), dn D + 1 - i = f → i ≤ dn D + 1 → St M → MM M j D → (∀ p, p < i → mJ M 46 p = -1) → ∃ M1, Ag S46 M M1 ∧ (∀ p, p ≤ dn D → mJ M1 46 p = -1) ∧
    ∀ v M', E K_X7_region 50 (LR j L (-1) (-1) (L + 1).toNat none none none none none none) [] (wrJ M1 46 (L + 1).toNat 0) v M' → E K_X7_region 2 [some (aR (some 26)), some (aI (nI j)), some (aI (iI L)), some (aI (nI i)), none, none, none, none, none, none, none, none, none, none] [] M v M' := by
  intro f
  induction f with
  | zero =>
    intro i M hf hi hS h hp
    have hN := h.ln
    have hj := h.lj
    have cj := cl_n (n := j) (by omega)
    have bj : vp_in (nI j) 32 := in_n hj (by omega)
    have e : i = dn D + 1 := by omega
    have hg : mI M 30 (nI j).toNatClampNeg < nI i := by rw [cj, h.1, lt32, ci _ (by omega), ci _ (by omega)]; omega
    have e1 : iI L + 1 = nI (L + 1).toNat := by rw [show (1 : Int32) = iI 1 from rfl, iI_add, nI_i (by omega)]; congr 1; omega
    refine ⟨M, Ag.rf, fun p q => hp p (by omega), fun v M' z => ?_⟩
    apply s_X7_region_2 hS
    case b1 => exact bj
    case b2 => intros; rw [e1]; exact in_n (by omega) (by omega)
    case k3 => intros; rw [e1, cl_n (by omega)]; exact z
    all_goals (intro g; exact absurd hg g)
  | succ f ih =>
    intro i M hf hi hS h hp
    have hN := h.ln
    have hj := h.lj
    have cj := cl_n (n := j) (by omega)
    have bj : vp_in (nI j) 32 := in_n hj (by omega)
    have c1 := cl_n (n := i) (by omega)
    have hg : ¬ mI M 30 (nI j).toNatClampNeg < nI i := by rw [cj, h.1, lt32, ci _ (by omega), ci _ (by omega)]; omega
    have a : Ag S46 M (wrJ M 46 i (-1)) := Ag.rf.wJ rfl
    obtain ⟨M1, a1, p1, k1⟩ := ih (i + 1) (wrJ M 46 i (-1)) (by omega) (by omega) (a.st hS) (h.s46 a) (fun p q => by
      by_cases e : p = i
      · rw [e, wrJ_s]
      · rw [wrJ_j e]; exact hp p (by omega))
    refine ⟨M1, a.tr a1, p1, fun v M' z => ?_⟩
    apply s_X7_region_2 hS
    case b1 => exact bj
    case b2 => intro g; exact absurd g hg
    case k3 => intro g; exact absurd g hg
    case b4 => intros; exact in_n (by omega) (by omega)
    case k5 => intros; rw [c1, nI_1]; exact k1 v M' z
theorem v_region {M : AM} {L : Int} (hs : Sd D) (hd : Ds D) (hL : -1 ≤ L ∧ L < dn D) (hS : St M) (h : MM M j D) (hB : BRi D j (dn D) M) : ∃ M' bk wh, Ev K_X7_region [aR (some 26), aI (nI j), aI (iI L)] M (some (aJ bk)) M' ∧ Ag S678 M M' ∧ (∀ l : Nat, L = l → mJ M' 47 l = wh ∧ mJ M' 48 l = bk) ∧ (∀ l : Nat, L ≠ l → mJ M' 47 l = mJ M 47 l ∧ mJ M' 48 l = mJ M 48 l) ∧ (VX M j D ct T L → Okr D L → wh = sJ (FF2 D ct T (L + 1).toNat).1 ∧ bk = sJ (FF2 D ct T (L + 1).toNat).2) := by
  have hN := h.ln
  have hj := h.lj
  have cj := cl_n (n := j) (by omega)
  have bj : vp_in (nI j) 32 := in_n hj (by omega)
  obtain ⟨M1, a1, p1, k1⟩ := l_rg2 (D := D) (j := j) hL _ 0 M rfl (by omega) hS h (fun p q => by omega)
  have a2 : Ag S46 M (wrJ M1 46 (L + 1).toNat 0) := a1.wJ rfl
  obtain ⟨M2, bk, wh, a3, v3, k3⟩ := l_rg50 (ct := ct) (T := T) (j := j) hs hd hL _ (L + 1).toNat (wrJ M1 46 (L + 1).toNat 0) (-1) (-1) rfl (by omega) (by omega) (a2.st hS) (h.s46 a2) (hB.ag a2 (fun i => by unfold S46; omega))
  have a4 := a2.tr a3
  have hS2 := a4.st hS
  have h2 := h.s46 a4
  have hg : mI M2 30 (nI j).toNatClampNeg ≤ nI (dn D) := by rw [cj, h2.1, le32]; omega
  have tL := iI_t (k := L) (by omega) (by omega)
  have fin : VX M j D ct T L → Okr D L → wh = sJ (FF2 D ct T (L + 1).toNat).1 ∧ bk = sJ (FF2 D ct T (L + 1).toNat).2 := fun hv ho => by
    have hl0 : (L + 1).toNat < dn D ∧ 0 ≤ HH D (L + 1).toNat ∧ hdI (stk D (L + 1).toNat) = L := by
      rcases ho with e | ⟨l, e, q1, q2, q3, q4⟩
      · rw [e]
        exact ⟨hs.all.2.1, by show 0 ≤ HH D 0; rw [hs.z hd]; omega, rfl⟩
      · have mn := met_next hs hd q1 q2 (by omega) (by omega) (by omega)
        rw [e, show ((l : Int) + 1).toNat = l + 1 by omega]
        exact ⟨mn.1, mn.2.1, by rw [stk_in q3]; rfl⟩
    have start : RX D ct T (L + 1).toNat (stk D (L + 1).toNat) (L + 1).toNat (wrJ M1 46 (L + 1).toNat 0) (-1) (-1) TT TT := by
      have pe : ∀ (G : Nat → Option Nat) (x : Int), Le (G (L + 1).toNat) x ↔ Le none x ∧ Pend D (L + 1).toNat (fun p => if p = (L + 1).toNat then some 0 else none) G x ∧ TT x := fun G x => by
        have e0 : pl (some 0) (G (L + 1).toNat) = G (L + 1).toNat := by cases G (L + 1).toNat <;> simp [pl]
        constructor
        · intro z
          refine ⟨Le.none, fun p q1 q2 => ?_, trivial⟩
          by_cases e : p = (L + 1).toNat
          · simp only [e, if_true]; rw [e0]; exact z
          · simp only [if_neg e]; exact Le.none
        · intro z
          have := z.2.1 (L + 1).toNat (Nat.le_refl _) hl0.1
          simp only [if_true] at this
          rw [e0] at this
          exact this
      refine ⟨fun p => if p = (L + 1).toNat then some 0 else none, none, none, fun p q1 q2 => ?_, fun p q1 q2 => ?_, rfl, rfl, pe (fun p => (FF2 D ct T p).1), pe (fun p => (FF2 D ct T p).2)⟩
      · by_cases e : p = (L + 1).toNat
        · rw [e, wrJ_s]; show _ = sJ (if _ then _ else _); rw [if_pos rfl]; rfl
        · rw [wrJ_j e]; show _ = sJ (if _ then _ else _); rw [if_neg e, p1 p q2]; rfl
      · by_cases e : p = (L + 1).toNat
        · rw [e]; exact ⟨hl0.1, hl0.2.1, rfl⟩
        · exact absurd (if_neg e) q2
    obtain ⟨s, w, b, _, _, hw, hb, h5, h6⟩ := v3 (hv.s46 a2) _ _ hl0.2.2 start
    have pe : ∀ (G : Nat → Option Nat) (x : Int), Pend D (dn D) s G x := fun G x p q1 q2 => by omega
    have ew : (FF2 D ct T (L + 1).toNat).1 = w := Le.ext (fun x => by rw [h5]; exact ⟨fun z => z.1, fun z => ⟨z, pe _ x, trivial⟩⟩)
    have eb : (FF2 D ct T (L + 1).toNat).2 = b := Le.ext (fun x => by rw [h6]; exact ⟨fun z => z.1, fun z => ⟨z, pe _ x, trivial⟩⟩)
    rw [hw, hb, ew, eb]
    exact ⟨rfl, rfl⟩
  by_cases c : L < 0
  · refine ⟨M2, bk, wh, s_X7_region_0 hS (k1 _ _ (k3 _ _ ?_)), a4.mo (fun r i z => Or.inl z), fun l q => by omega, fun l q => by rw [a4.j (by unfold S46; omega), a4.j (by unfold S46; omega)]; exact ⟨rfl, rfl⟩, fin⟩
    apply s_X7_region_50 (M1 := M2) (M2 := M2) (x105 := 0) (x107 := 0) hS2
    case b1 => exact bj
    case k2 => intros; exact ⟨rfl, rfl⟩
    case b3 => intro _ g; rw [lt32, tL] at g; exact absurd c g
    case k4 => intro _ g; rw [lt32, tL] at g; exact absurd c g
    all_goals (intro g; exact absurd hg g)
  · have eL : iI L = nI L.toNat := by rw [nI_i (by omega)]; congr 1; omega
    have a5 : Ag S678 M (wrJ (wrJ M2 47 L.toNat wh) 48 L.toNat bk) := ((a4.mo (S' := S678) (fun r i z => Or.inl z)).wJ (Or.inr (Or.inl rfl))).wJ (Or.inr (Or.inr rfl))
    refine ⟨wrJ (wrJ M2 47 L.toNat wh) 48 L.toNat bk, bk, wh, s_X7_region_0 hS (k1 _ _ (k3 _ _ ?_)), a5, fun l q => ?_, fun l q => ?_, fin⟩
    · apply s_X7_region_50 (M1 := M2) (M2 := M2) (x105 := 0) (x107 := 0) hS2
      case b1 => exact bj
      case k2 => intro _ g; rw [lt32, tL] at g; exact absurd g c
      case b3 => intros; rw [eL]; exact in_n (by omega) (by omega)
      case k4 => intros; rw [eL, cl_n (by omega)]; exact ⟨rfl, rfl⟩
      all_goals (intro g; exact absurd hg g)
    · have e : L.toNat = l := by omega
      rw [e]
      exact ⟨by simp (disch := omega) only [wrI_s, wrI_r, wrI_j, wrJ_s, wrJ_r, wrJ_j, wrI_J, wrJ_I, wrR_I, wrR_J], by simp (disch := omega) only [wrI_s, wrI_r, wrI_j, wrJ_s, wrJ_r, wrJ_j, wrI_J, wrJ_I, wrR_I, wrR_J]⟩
    · have e : l ≠ L.toNat := by omega
      rw [wrJ_j e, wrJ_j e, wrJ_j e, wrJ_j e, a4.j (by unfold S46; omega), a4.j (by unfold S46; omega)]
      exact ⟨rfl, rfl⟩
end RGN
