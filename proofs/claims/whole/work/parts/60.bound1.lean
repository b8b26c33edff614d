/-! ===== PURE: the reference's boundOne ===== -/
section BO
variable {D : DD} {ct : Nat → Nat} {T : Nat → Option Nat} {S : Nat → Nat} {j : Nat}
theorem sJ_j {a : Nat} (h : a < 9223372036854775808) : sJ (some a) = jJ a := by unfold sJ; rw [sat_s h]
theorem mx_max {a b : Nat} : mx (some a) (some b) = some (max a b) := by
  show some (if a ≤ b then b else a) = _
  by_cases h : a ≤ b
  · rw [if_pos h, Nat.max_eq_right h]
  · rw [if_neg h, Nat.max_eq_left (by omega)]
theorem fgr_j {a b : Nat} (ha : a < 9223372036854775808) (hb : b < 9223372036854775808) : fgr (jJ a) (jJ b) = jJ ((max a b : Nat) : Int) := by rw [← sJ_j ha, ← sJ_j hb, fgr_s, mx_max, sJ_j (by omega)]
theorem fpl_j {a b : Nat} (hb : a + b < 9223372036854775808) : fpl (jJ a) (jJ b) = jJ ((a + b : Nat) : Int) := by rw [← sJ_j (by omega), ← sJ_j (by omega), fpl_s]; exact sJ_j hb
def S678' : Nat → Nat → Prop := S678
theorem MM.s678 {M M' : AM} (h : MM M j D) (a : Ag S678 M M') : MM M' j D := h.ag a (fun i => by unfold S678; omega)
theorem BRi.s678 {k : Nat} {M M' : AM} (h : BRi D j k M) (a : Ag S678 M M') : BRi D j k M' := h.ag a (fun i => by unfold S678; omega)
theorem l_bo9 (hs : Sd D) (hd : Ds D) : ∀ (k : Nat) (M : AM), k ≤ dn D → St M → MM M j D → BRi D j (dn D) M → VX M j D ct T ((k : Int) - 1) → ∃ M1, Ag S678 M M1 ∧ ∀ v M', E K_X7_boundOne 59 [some (aR (some 26)), some (aI (nI j)), some (aJ 0), none, some (aI 0), none, none, none, none, none] [] (wrJ M1 45 j (sJ (FF2 D ct T 0).2)) v M' → E K_X7_boundOne 9 [some (aR (some 26)), some (aI (nI j)), some (aI (iI ((k : Int) - 1))), none, none, none, none, none, none, none] [] M v M' := by
  intro k
  induction k with
  | zero =>
    intro M hk hS h hB hv
    have hj := h.lj
    have cj := cl_n (n := j) (by omega)
    obtain ⟨M1, bk, wh, c1, a1, _, _, fin⟩ := v_region (ct := ct) (T := T) (L := -1) hs hd ⟨by omega, by omega⟩ hS h hB
    have ebk := (fin hv (Or.inl rfl)).2
    rw [show ((-1 : Int) + 1).toNat = 0 by omega] at ebk
    subst ebk
    have g : iI (((0 : Nat) : Int) - 1) < 0 := by decide
    refine ⟨M1, a1, fun v M' z => ?_⟩
    apply s_X7_boundOne_9 (M1 := M1) (M2 := M) (x102 := sJ (FF2 D ct T 0).2) (x104 := 0) hS
    case c1 => intros; exact c1
    case b2 => intros; exact in_n hj (by omega)
    case k3 => intros; rw [cj]; exact z
    all_goals (intro q; exact absurd g q)
  | succ k ih =>
    intro M hk hS h hB hv
    have hN := h.ln
    have hj := h.lj
    have ek : iI (((k + 1 : Nat) : Int) - 1) = nI k := by rw [nI_i (by omega)]; congr 1; omega
    have eki : iI (((k + 1 : Nat) : Int) - 1) = iI (k : Int) := by congr 1; omega
    have ek2 : nI k + (-1) = iI ((k : Int) - 1) := by rw [nI_i (by omega), show (-1 : Int32) = iI (-1) from rfl, iI_add]; congr 1
    have g : ¬ nI k < 0 := nlt0 (by omega)
    have ck := cx (j := j) (i := k) (by omega) (by omega)
    have ho := (h.2.1 k (by omega)).1
    rw [show ((k + 1 : Nat) : Int) - 1 = k by omega] at hv
    rw [ek]
    by_cases o : dO D k = 14
    · obtain ⟨M2, bk, wh, c2, a2, r1, r2, fin⟩ := v_region (ct := ct) (T := T) (L := k) hs hd ⟨by omega, by omega⟩ hS h hB
      have hv2 : VX M2 j D ct T ((k : Int) - 1) := by
        refine ⟨fun q hq => by rw [a2.j (by unfold S678; omega)]; exact hv.1 q hq, fun i h1 h2 h3 => by rw [a2.j (by unfold S678; omega)]; exact hv.2.1 i h1 h2 h3, fun i h0 h1 h2 h3 h4 => ?_⟩
        by_cases e : i = k
        · subst e
          have f := fin hv (Or.inr ⟨i, rfl, h1, h2, h3, h4⟩)
          rw [show ((i : Int) + 1).toNat = i + 1 by omega] at f
          have r := r1 i rfl
          exact ⟨r.1.trans f.1, r.2.trans f.2⟩
        · have r := r2 i (by omega)
          rw [r.1, r.2]
          exact hv.2.2 i (by omega) h1 h2 h3 h4
      obtain ⟨M1, a1, k1⟩ := ih M2 (by omega) (a2.st hS) (h.s678 a2) (hB.s678 a2) hv2
      refine ⟨M1, a2.tr a1, fun v M' z => ?_⟩
      apply s_X7_boundOne_9 (M1 := M) (M2 := M2) (x102 := 0) (x104 := bk) hS
      case c1 => intro q; exact absurd q g
      case b2 => intro q; exact absurd q g
      case k3 => intro q; exact absurd q g
      case b4 => intros; exact bx (by omega) (by omega)
      case k5 => intro _ q; exfalso; simp only [lt32, le32, eq32, lt64, le64, eq64, Int32.reduceToInt, Int64.reduceToInt, ck, ho] at q; omega
      case c6 => intros; rw [← ek, eki]; exact c2
      case k7 => intros; rw [ek2]; exact (k1 v M' z).fg ⟨Or.inr rfl, Or.inr rfl, Or.inr rfl, Or.inl rfl, Or.inr rfl, Or.inr rfl, Or.inr rfl, Or.inr rfl, Or.inr rfl, Or.inr rfl, trivial⟩
    · have hv2 : VX M j D ct T ((k : Int) - 1) := ⟨hv.1, hv.2.1, fun i h0 h1 h2 h3 h4 => by
        by_cases e : i = k
        · rw [e] at h3; exact absurd h3 o
        · exact hv.2.2 i (by omega) h1 h2 h3 h4⟩
      obtain ⟨M1, a1, k1⟩ := ih M (by omega) hS h hB hv2
      refine ⟨M1, a1, fun v M' z => ?_⟩
      apply s_X7_boundOne_9 (M1 := M) (M2 := M) (x102 := 0) (x104 := 0) hS
      case c1 => intro q; exact absurd q g
      case b2 => intro q; exact absurd q g
      case k3 => intro q; exact absurd q g
      case b4 => intros; exact bx (by omega) (by omega)
      case k5 => intros; rw [ek2]; exact k1 v M' z
      all_goals (intro _ q; exfalso; simp only [lt32, le32, eq32, lt64, le64, eq64, Int32.reduceToInt, Int64.reduceToInt, ck, ho] at q; omega)
def SS (M : AM) (D : DD) (S : Nat → Nat) (B : Nat) : Prop := B ≤ 1000000000 ∧ ∀ i, i < dn D → 0 ≤ HH D i → dO D i = 16 → mJ M 44 (dA D i).toNat = jJ (S (dA D i).toNat) ∧ S (dA D i).toNat ≤ B
theorem l_bo59 {M : AM} {B : Nat} (hs : Sd D) (hd : Ds D) (hS : St M) (h : MM M j D) (hH : HM M j D (HH D)) (hSS : SS M D S B) : ∀ (f k : Nat), dn D - k = f → k ≤ dn D → E K_X7_boundOne 59 [some (aR (some 26)), some (aI (nI j)), some (aJ (jJ (sbr D S k : Nat))), none, some (aI (nI k)), none, none, none, none, none] [] M none (wrI (wrJ M 44 j (jJ (sbr D S (dn D) : Nat))) 43 j 1) := by
  have hN := h.ln
  have hj := h.lj
  have cj := cl_n (n := j) (by omega)
  have bj : vp_in (nI j) 32 := in_n hj (by omega)
  have hL := hd.2.1
  have hB := hSS.1
  intro f
  induction f with
  | zero =>
    intro k hf hk
    have e : k = dn D := by omega
    subst e
    have hg : mI M 30 (nI j).toNatClampNeg ≤ nI (dn D) := by rw [cj, h.1, le32]; omega
    apply s_X7_boundOne_59 (M1 := M) (M2 := M) (M3 := M) (M4 := M) (M5 := M) (M6 := M) (M7 := M) (M8 := M) (x103 := 0) (x105 := 0) (x107 := 0) (x108 := 0) (x109 := 0) (x110 := 0) (x112 := 0) (x113 := 0) hS
    case b1 => exact bj
    case k2 => intros; rw [cj]; exact ⟨rfl, rfl⟩
    all_goals (intro g; exact absurd hg g)
  | succ f ih =>
    intro k hf hk
    have hk' : k < dn D := by omega
    have hg : ¬ mI M 30 (nI j).toNatClampNeg ≤ nI k := by rw [cj, h.1, le32, ci _ (by omega), ci _ (by omega)]; omega
    have ck := cx (j := j) (i := k) (by omega) (by omega)
    have b3 := bx (j := j) (i := k) (by omega) (by omega)
    have ho := (h.2.1 k hk').1
    have ha := (h.2.1 k hk').2
    have hr := hs.r hd hk'
    have eh' := hH k hk'
    have eh : mI M 34 (120 * j + k) = iI (HH D k) := iI_e eh'
    have hff := hs.ff hk'
    have IH := ih (k + 1) (by omega) (by omega)
    have fg : ∀ (x : Int64) (a b c d : Option AV), FG [some (aR (some 26)), some (aI (nI j)), some (aJ x), none, some (aI (nI (k + 1))), none, none, none, none, none] [some (aR (some 26)), some (aI (nI j)), some (aJ x), none, some (aI (nI (k + 1))), a, b, c, none, d] := fun x a b c d => ⟨Or.inr rfl, Or.inr rfl, Or.inr rfl, Or.inr rfl, Or.inr rfl, Or.inl rfl, Or.inl rfl, Or.inl rfl, Or.inr rfl, Or.inl rfl, trivial⟩
    by_cases c : 0 ≤ HH D k
    · have g := hs.g hd hk' c
      have t1 := g.1
      have t2 := g.2.1
      have rt := tk_r hd hff
      have rg := gv_r hd hff
      have cgr := v_grows hS h hk' hff
      have tg := iI_t (k := gv D k - tk D k) (by omega) (by omega)
      have b1 := sbr_b hs hd (fun i h1 h2 h3 => (hSS.2 i h1 h2 h3).2) k (by omega)
      have b2 := scl_b hs hd hk' c (fun h3 => (hSS.2 k hk' c h3).2)
      have e29 := h.2.2.2.1
      have hdc := hd.2.2.2.1
      unfold bhd at t2
      -- what a CALL needs
      have call : dO D k = 16 → vp_in ((mJ M 32 ((120 : Int32) * nI j + nI k).toNatClampNeg).toInt32) 32 ∧ fpl ((((mI M 29 (nI j).toNatClampNeg + mI M 34 ((120 : Int32) * nI j + nI k).toNatClampNeg) - mI M 27 ((mJ M 32 ((120 : Int32) * nI j + nI k).toNatClampNeg).toInt32).toNatClampNeg : Int32)).toInt64 + 2) (mJ M 44 ((mJ M 32 ((120 : Int32) * nI j + nI k).toNatClampNeg).toInt32).toNatClampNeg) = jJ (scl D S k : Nat) := fun o => by
        have fc := ffc hff o
        have tkc : tk D k = cA D (dA D k).toNat := by unfold tk; rw [if_neg (by omega), if_pos o]
        obtain ⟨e44, eB⟩ := hSS.2 k hk' c o
        have hA := (h.2.2.2.2.1 (dA D k).toNat (by omega)).1
        have hA8 := (hd.2.2.2.2 (dA D k).toNat (by omega)).1
        rw [ck, cj, x_l (by omega) (by omega), ha, cl_n (by omega), e44, e29, eh, hA, nI_i (n := dL D) (by omega), nI_i (n := cA D (dA D k).toNat) (by omega), iI_add, iI_sub]
        refine ⟨in_n (by omega) (by omega), ?_⟩
        have : (iI ((dL D : Int) + HH D k - cA D (dA D k).toNat)).toInt64 + 2 = jJ ((dL D + (HH D k).toNat - cA D (dA D k).toNat + 2 : Nat) : Int) := by
          have : (iI ((dL D : Int) + HH D k - cA D (dA D k).toNat)).toInt64 = jJ ((dL D : Int) + HH D k - cA D (dA D k).toNat) := by rw [eq64, l2, iI_t (by omega) (by omega), jJ_t (by omega) (by omega)]
          rw [this, show (2 : Int64) = jJ 2 from rfl, jJ_add]
          congr 1
          omega
        rw [this, fpl_j (by omega)]
        congr 1
        unfold scl
        rw [if_pos o]
      by_cases cg : 0 < gv D k - tk D k
      · have es : sbr D S (k + 1) = max (max (sbr D S k) (dL D + (HH D k + (gv D k - tk D k)).toNat)) (scl D S k) := by rw [sbr, if_pos c, if_pos cg]
        have eo : ((mI M 29 (nI j).toNatClampNeg) + ((mI M 34 ((120 : Int32) * nI j + nI k).toNatClampNeg) + iI (gv D k - tk D k))).toInt64 = jJ ((dL D + (HH D k + (gv D k - tk D k)).toNat : Nat) : Int) := by
          rw [cj, ck, e29, eh, nI_i (by omega), iI_add, iI_add, eq64, l2, iI_t (by omega) (by omega), jJ_t (by omega) (by omega)]
          omega
        have fg1 := fgr_j (a := sbr D S k) (b := dL D + (HH D k + (gv D k - tk D k)).toNat) (by omega) (by omega)
        by_cases o : dO D k = 16
        · have cl := call o
          rw [es] at IH
          apply s_X7_boundOne_59 (M1 := M) (M2 := M) (M3 := M) (M4 := M) (M5 := M) (M6 := M) (M7 := M) (M8 := M) (x103 := iI (gv D k - tk D k)) (x105 := 0) (x107 := 0) (x108 := 0) (x109 := iI (gv D k - tk D k)) (x110 := jJ ((max (sbr D S k) (dL D + (HH D k + (gv D k - tk D k)).toNat) : Nat) : Int)) (x112 := jJ (scl D S k : Nat)) (x113 := jJ ((max (max (sbr D S k) (dL D + (HH D k + (gv D k - tk D k)).toNat)) (scl D S k) : Nat) : Int)) hS
          case b1 => exact bj
          case k2 => intro q; exact absurd q hg
          case b3 => intros; exact b3
          case k4 => intro _ q; exfalso; simp only [lt32, le32, eq32, lt64, le64, eq64, Int32.reduceToInt, Int64.reduceToInt, ck, eh'] at q; omega
          case c5 => intros; exact cgr
          case c12 => intros; exact cgr
          case c13 => intros; rw [eo, ← fg1]; exact v_greater7 hS _ _
          case k14 => intro _ _ _ q; exfalso; simp only [lt32, le32, eq32, lt64, le64, eq64, Int32.reduceToInt, Int64.reduceToInt, ck, ho] at q; omega
          case b15 => intros; exact cl.1
          case c16 => intros; rw [← cl.2]; exact v_plus7 hS _ _
          case c17 => intros; rw [← fgr_j (a := max (sbr D S k) (dL D + (HH D k + (gv D k - tk D k)).toNat)) (b := scl D S k) (by omega) (by omega)]; exact v_greater7 hS _ _
          case k18 => intros; rw [nI_1]; exact IH.fg (fg _ _ _ _ _)
          all_goals (intro _ _ q; exfalso; simp only [lt32, le32, eq32, lt64, le64, eq64, Int32.reduceToInt, Int64.reduceToInt, tg] at q; omega)
        · have es0 : scl D S k = 0 := by unfold scl; rw [if_neg o]
          rw [es, es0, Nat.max_eq_left (Nat.zero_le _)] at IH
          apply s_X7_boundOne_59 (M1 := M) (M2 := M) (M3 := M) (M4 := M) (M5 := M) (M6 := M) (M7 := M) (M8 := M) (x103 := iI (gv D k - tk D k)) (x105 := 0) (x107 := 0) (x108 := 0) (x109 := iI (gv D k - tk D k)) (x110 := jJ ((max (sbr D S k) (dL D + (HH D k + (gv D k - tk D k)).toNat) : Nat) : Int)) (x112 := 0) (x113 := 0) hS
          case b1 => exact bj
          case k2 => intro q; exact absurd q hg
          case b3 => intros; exact b3
          case k4 => intro _ q; exfalso; simp only [lt32, le32, eq32, lt64, le64, eq64, Int32.reduceToInt, Int64.reduceToInt, ck, eh'] at q; omega
          case c5 => intros; exact cgr
          case c12 => intros; exact cgr
          case c13 => intros; rw [eo, ← fg1]; exact v_greater7 hS _ _
          case k14 => intros; rw [nI_1]; exact IH.fg (fg _ _ _ _ _)
          case b15 => intro _ _ _ q; exfalso; simp only [lt32, le32, eq32, lt64, le64, eq64, Int32.reduceToInt, Int64.reduceToInt, ck, ho] at q; omega
          case c16 => intro _ _ _ q; exfalso; simp only [lt32, le32, eq32, lt64, le64, eq64, Int32.reduceToInt, Int64.reduceToInt, ck, ho] at q; omega
          case c17 => intro _ _ _ q; exfalso; simp only [lt32, le32, eq32, lt64, le64, eq64, Int32.reduceToInt, Int64.reduceToInt, ck, ho] at q; omega
          case k18 => intro _ _ _ q; exfalso; simp only [lt32, le32, eq32, lt64, le64, eq64, Int32.reduceToInt, Int64.reduceToInt, ck, ho] at q; omega
          all_goals (intro _ _ q; exfalso; simp only [lt32, le32, eq32, lt64, le64, eq64, Int32.reduceToInt, Int64.reduceToInt, tg] at q; omega)
      · have es : sbr D S (k + 1) = max (max (sbr D S k) (dL D + (HH D k).toNat)) (scl D S k) := by rw [sbr, if_pos c, if_neg cg]
        have eo : ((mI M 29 (nI j).toNatClampNeg) + (mI M 34 ((120 : Int32) * nI j + nI k).toNatClampNeg)).toInt64 = jJ ((dL D + (HH D k).toNat : Nat) : Int) := by
          rw [cj, ck, e29, eh, nI_i (by omega), iI_add, eq64, l2, iI_t (by omega) (by omega), jJ_t (by omega) (by omega)]
          omega
        have fg1 := fgr_j (a := sbr D S k) (b := dL D + (HH D k).toNat) (by omega) (by omega)
        by_cases o : dO D k = 16
        · have cl := call o
          rw [es] at IH
          apply s_X7_boundOne_59 (M1 := M) (M2 := M) (M3 := M) (M4 := M) (M5 := M) (M6 := M) (M7 := M) (M8 := M) (x103 := iI (gv D k - tk D k)) (x105 := jJ ((max (sbr D S k) (dL D + (HH D k).toNat) : Nat) : Int)) (x107 := jJ (scl D S k : Nat)) (x108 := jJ ((max (max (sbr D S k) (dL D + (HH D k).toNat)) (scl D S k) : Nat) : Int)) (x109 := 0) (x110 := 0) (x112 := 0) (x113 := 0) hS
          case b1 => exact bj
          case k2 => intro q; exact absurd q hg
          case b3 => intros; exact b3
          case k4 => intro _ q; exfalso; simp only [lt32, le32, eq32, lt64, le64, eq64, Int32.reduceToInt, Int64.reduceToInt, ck, eh'] at q; omega
          case c5 => intros; exact cgr
          case c6 => intros; rw [eo, ← fg1]; exact v_greater7 hS _ _
          case k7 => intro _ _ _ q; exfalso; simp only [lt32, le32, eq32, lt64, le64, eq64, Int32.reduceToInt, Int64.reduceToInt, ck, ho] at q; omega
          case b8 => intros; exact cl.1
          case c9 => intros; rw [← cl.2]; exact v_plus7 hS _ _
          case c10 => intros; rw [← fgr_j (a := max (sbr D S k) (dL D + (HH D k).toNat)) (b := scl D S k) (by omega) (by omega)]; exact v_greater7 hS _ _
          case k11 => intros; rw [nI_1]; exact IH.fg (fg _ _ _ _ _)
          all_goals (intro _ _ q; exfalso; simp only [lt32, le32, eq32, lt64, le64, eq64, Int32.reduceToInt, Int64.reduceToInt, tg] at q; omega)
        · have es0 : scl D S k = 0 := by unfold scl; rw [if_neg o]
          rw [es, es0, Nat.max_eq_left (Nat.zero_le _)] at IH
          apply s_X7_boundOne_59 (M1 := M) (M2 := M) (M3 := M) (M4 := M) (M5 := M) (M6 := M) (M7 := M) (M8 := M) (x103 := iI (gv D k - tk D k)) (x105 := jJ ((max (sbr D S k) (dL D + (HH D k).toNat) : Nat) : Int)) (x107 := 0) (x108 := 0) (x109 := 0) (x110 := 0) (x112 := 0) (x113 := 0) hS
          case b1 => exact bj
          case k2 => intro q; exact absurd q hg
          case b3 => intros; exact b3
          case k4 => intro _ q; exfalso; simp only [lt32, le32, eq32, lt64, le64, eq64, Int32.reduceToInt, Int64.reduceToInt, ck, eh'] at q; omega
          case c5 => intros; exact cgr
          case c6 => intros; rw [eo, ← fg1]; exact v_greater7 hS _ _
          case k7 => intros; rw [nI_1]; exact IH.fg (fg _ _ _ _ _)
          case b8 => intro _ _ _ q; exfalso; simp only [lt32, le32, eq32, lt64, le64, eq64, Int32.reduceToInt, Int64.reduceToInt, ck, ho] at q; omega
          case c9 => intro _ _ _ q; exfalso; simp only [lt32, le32, eq32, lt64, le64, eq64, Int32.reduceToInt, Int64.reduceToInt, ck, ho] at q; omega
          case c10 => intro _ _ _ q; exfalso; simp only [lt32, le32, eq32, lt64, le64, eq64, Int32.reduceToInt, Int64.reduceToInt, ck, ho] at q; omega
          case k11 => intro _ _ _ q; exfalso; simp only [lt32, le32, eq32, lt64, le64, eq64, Int32.reduceToInt, Int64.reduceToInt, ck, ho] at q; omega
          all_goals (intro _ _ q; exfalso; simp only [lt32, le32, eq32, lt64, le64, eq64, Int32.reduceToInt, Int64.reduceToInt, tg] at q; omega)
    · have es : sbr D S (k + 1) = sbr D S k := by rw [sbr, if_neg c]
      rw [es] at IH
      apply s_X7_boundOne_59 (M1 := M) (M2 := M) (M3 := M) (M4 := M) (M5 := M) (M6 := M) (M7 := M) (M8 := M) (x103 := 0) (x105 := 0) (x107 := 0) (x108 := 0) (x109 := 0) (x110 := 0) (x112 := 0) (x113 := 0) hS
      case b1 => exact bj
      case k2 => intro q; exact absurd q hg
      case b3 => intros; exact b3
      case k4 => intros; rw [nI_1]; exact IH.fg (fg _ _ _ _ _)
      all_goals (intro _ q; exfalso; simp only [lt32, le32, eq32, lt64, le64, eq64, Int32.reduceToInt, Int64.reduceToInt, ck, eh'] at q; omega)
def SB1 (j : Nat) : Nat → Nat → Prop := fun r i => r = 46 ∨ r = 47 ∨ r = 48 ∨ ((r = 43 ∨ r = 44 ∨ r = 45) ∧ i = j)
theorem v_boundOne {M : AM} {B : Nat} (hs : Sd D) (hd : Ds D) (hS : St M) (h : MM M j D) (hB : BRi D j (dn D) M) (hH : HM M j D (HH D)) (hv1 : ∀ k, k < 18 → mJ M 33 k = sJ (some (ct k))) (hv2 : ∀ i, i < dn D → 0 ≤ HH D i → dO D i = 16 → mJ M 45 (dA D i).toNat = sJ (T (dA D i).toNat) ∧ T (dA D i).toNat ≠ none) (hSS : SS M D S B) :
    ∃ M', Ev K_X7_boundOne [aR (some 26), aI (nI j)] M none M' ∧ Ag (SB1 j) M M' ∧ mJ M' 45 j = sJ (FF2 D ct T 0).2 ∧ mJ M' 44 j = jJ (sbd D S (dn D) : Nat) ∧ mI M' 43 j = 1 := by
  have hN := h.ln
  have hj := h.lj
  have cj := cl_n (n := j) (by omega)
  obtain ⟨M1, a1, k1⟩ := l_bo9 (ct := ct) (T := T) (j := j) hs hd (dn D) M (Nat.le_refl _) hS h hB ⟨hv1, hv2, fun i h0 h1 => by omega⟩
  have a2 : Ag (SB1 j) M (wrJ M1 45 j (sJ (FF2 D ct T 0).2)) := (a1.mo (S' := SB1 j) (fun r i z => by unfold S678 at z; unfold SB1; omega)).wJ (by unfold SB1; omega)
  have h2 : MM (wrJ M1 45 j (sJ (FF2 D ct T 0).2)) j D := h.ag a2 (fun i => by unfold SB1; omega)
  have hH2 : HM (wrJ M1 45 j (sJ (FF2 D ct T 0).2)) j D (HH D) := fun i hi => by rw [a2.i (by unfold SB1; omega)]; exact hH i hi
  have hSS2 : SS (wrJ M1 45 j (sJ (FF2 D ct T 0).2)) D S B := ⟨hSS.1, fun i h1 h2 h3 => by simp (disch := omega) only [wrI_s, wrI_r, wrI_j, wrJ_s, wrJ_r, wrJ_j, wrI_J, wrJ_I, wrR_I, wrR_J]; rw [a1.j (by unfold S678; omega)]; exact hSS.2 i h1 h2 h3⟩
  have e := l_bo59 hs hd (a2.st hS) h2 hH2 hSS2 _ 0 rfl (by omega)
  have es := sb_eq (S := S) hs hd
  refine ⟨wrI (wrJ (wrJ M1 45 j (sJ (FF2 D ct T 0).2)) 44 j (jJ (sbr D S (dn D) : Nat))) 43 j 1, ?_, (a2.wJ (by unfold SB1; omega)).wI (by unfold SB1; omega), by simp (disch := omega) only [wrI_s, wrI_r, wrI_j, wrJ_s, wrJ_r, wrJ_j, wrI_J, wrJ_I, wrR_I, wrR_J], by rw [← es]; simp (disch := omega) only [wrI_s, wrI_r, wrI_j, wrJ_s, wrJ_r, wrJ_j, wrI_J, wrJ_I, wrR_I, wrR_J], by simp (disch := omega) only [wrI_s, wrI_r, wrI_j, wrJ_s, wrJ_r, wrJ_j, wrI_J, wrJ_I, wrR_I, wrR_J]⟩
  apply s_X7_boundOne_0 hS
  case b1 => exact in_n hj (by omega)
  case k2 =>
    rw [cj, h.1]
    have : nI (dn D) - 1 = iI ((dn D : Int) - 1) := by rw [nI_i (by omega), show (1 : Int32) = iI 1 from rfl, iI_sub]
    rw [this]
    exact k1 _ _ e
end BO
