/-! ===== PURE: the heights, and the class's look at a METHOD ===== -/
section HT2
variable {D : DD}
def onw (D : DD) (i : Nat) : Int := if dO D i = 12 ∨ dO D i = 17 then -1 else if dO D i = 14 ∧ dA D i = 0 then mat D (dn D) i + 1 else i + 1
abbrev oth (D : DD) (hh : Nat → Int) (to b : Int) : Prop := 0 ≤ to ∧ to < dn D ∧ 0 ≤ hh to.toNat ∧ hh to.toNat ≠ b
def bhd (D : DD) (i : Nat) (hh : Nat → Int) : Int := hh i - tk D i + gv D i
def hk (D : DD) (i : Nat) (hh : Nat → Int) : Int := if hh i < tk D i then 5 else if 100 < bhd D i hh then 6 else if oth D hh (onw D i) (bhd D i hh) ∨ ((dO D i = 12 ∨ dO D i = 13) ∧ oth D hh (dA D i) (bhd D i hh)) ∨ (dO D i = 15 ∧ hh (mat D (dn D) i).toNat ≠ hh i) then 7 else if dO D i = 17 ∧ dR D < hh i then 8 else if dn D ≤ onw D i then 9 else 0
def hn (D : DD) (i : Nat) (hh : Nat → Int) : Nat → Int :=
  if dO D i = 12 ∨ dO D i = 13 then up1 (if 0 ≤ onw D i then up1 hh (onw D i).toNat (bhd D i hh) else hh) (dA D i).toNat (bhd D i hh)
  else if 0 ≤ onw D i then up1 hh (onw D i).toNat (bhd D i hh) else hh
def S4 (m : Nat) : Nat → Nat → Prop := fun r _ => r = m + 4
theorem MC.s4 {M M' : AM} {m : Nat} (h : MC M m D) (a : Ag (S4 m) M M') : MC M' m D := by
  refine h.ag a ?_ ?_ ?_ (fun i => ?_) (fun i => ?_) <;> (unfold S4; omega)
theorem ldM_ag {M : AM} {m : Nat} {hh : Nat → Int} {to b : Int} : Ag (S4 m) M (ldM D hh m to b M) := by
  unfold ldM
  split
  · exact Ag.rf.wI rfl
  · exact Ag.rf
theorem HT.up {M : AM} {m : Nat} {hh : Nat → Int} {b : Int} {t : Nat} (h : HT M m D hh) (hb : 0 ≤ b ∧ b ≤ 100) : HT (wrI M (m + 4) t (iI b)) m D (up1 hh t b) := fun i hi => by
  simp only [up1]
  by_cases e : i = t
  · rw [e, wrI_s, if_pos rfl]; exact iI_t (by omega) (by omega)
  · rw [wrI_j e, if_neg e]; exact h i hi
theorem ffj {i : Nat} (h : ff D i = 0) (o : dO D i = 12 ∨ dO D i = 13) : (i : Int) < dA D i ∧ dA D i < dn D ∧ ins D (dA D i).toNat = ins D i := by
  have := ff0 h
  have h1 := this.1
  have h2 := this.2.2.2.1 o
  clear this
  omega
theorem ffl {i : Nat} (h : ff D i = 0) (o : dO D i = 14) : 0 ≤ dA D i ∧ dA D i ≤ 1000000000 ∧ 0 ≤ mat D (dn D) i ∧ dep D i < 8 := by
  have := ff0 h
  have h1 := this.1
  have h2 := this.2.1 (Or.inl o)
  have h3 := this.2.2.1 o
  clear this
  omega
theorem ffe {i : Nat} (h : ff D i = 0) (o : dO D i = 15) : 0 ≤ mat D (dn D) i := (ff0 h).2.1 (Or.inr o)
theorem ffc {i : Nat} (h : ff D i = 0) (o : dO D i = 16) : 0 ≤ dA D i ∧ dA D i < dc D := (ff0 h).2.2.2.2 o
theorem ffo {i : Nat} (h : ff D i = 0) : 0 ≤ dO D i ∧ dO D i < 18 := ⟨(ff0 h).1.1, (ff0 h).1.2.1⟩
theorem v_foh {M : AM} {m i : Nat} {mr : Nat → Nat} {hh : Nat → Int} (hS : St M) (h : MC M m D) (hp : PC M mr D) (hP : PLi D m (dn D) M) (hH : HT M m D hh) (hR : hhR D hh) (hi : i < dn D) (h0 : 0 ≤ hh i) (hf : ff D i = 0) :
    ∃ M', Ev K_X2_faultOfHeight [aR (some 7), aR (some m), aI (nI i)] M (some (aI (iI (hk D i hh)))) M' ∧ Ag (S4 m) M M' ∧ (hk D i hh = 0 → HT M' m D (hn D i hh)) := by
  have hN := h.1.2.2
  have ho := (h.2.1 i hi).1
  have ha := (h.2.1 i hi).2
  have ck := cl_n (n := i) (by omega)
  have ei := ci i (by omega)
  have hd := h.ds hp
  have rt := tk_r hd hf
  have rg := gv_r hd hf
  have hri := hR i hi
  have et := v_takenBy hS h hp hi hf
  have eg := v_givenBy hS h hp hi hf
  have eh : mI M (m + 4) i = iI (hh i) := iI_e (hH i hi)
  have tt := iI_t (k := tk D i) (by omega) (by omega)
  have th := iI_t (k := hh i) (by omega) (by omega)
  have tb := iI_t (k := hh i - tk D i + gv D i) (by omega) (by omega)
  have b1 : vp_in (nI i) 120 := in_n (by omega) (by omega)
  by_cases c5 : hh i < tk D i
  · have e : hk D i hh = 5 := by unfold hk; rw [if_pos c5]
    rw [e]
    refine ⟨M, ?_, Ag.rf, fun z => by omega⟩
    apply s_X2_faultOfHeight_0 (M1 := M) (M2 := M) (M3 := M) (M4 := M) (M5 := M) (M6 := M) (M7 := M) (M8 := M) (M9 := M) (M10 := M) (x101 := iI (tk D i)) (x103 := 0) (x106 := 0) (x108 := 0) (x110 := 0) (x113 := 0) (x114 := 0) (x116 := 0) (x118 := 0) (x121 := 0) hS h.1.1
    case b1 => exact b1
    case c2 => exact et
    case k23 => intros; exact ⟨rfl, rfl⟩
    all_goals (intros; exfalso; simp only [ck, eh, le32, tt, th] at *; omega)
  by_cases c6 : 100 < bhd D i hh
  · have e : hk D i hh = 6 := by unfold hk; rw [if_neg c5, if_pos c6]
    unfold bhd at c6
    rw [e]
    refine ⟨M, ?_, Ag.rf, fun z => by omega⟩
    apply s_X2_faultOfHeight_0 (M1 := M) (M2 := M) (M3 := M) (M4 := M) (M5 := M) (M6 := M) (M7 := M) (M8 := M) (M9 := M) (M10 := M) (x101 := iI (tk D i)) (x103 := iI (gv D i)) (x106 := 0) (x108 := 0) (x110 := 0) (x113 := 0) (x114 := 0) (x116 := 0) (x118 := 0) (x121 := 0) hS h.1.1
    case b1 => exact b1
    case c2 => exact et
    case c3 => intros; exact eg
    case k22 => intros; exact ⟨rfl, rfl⟩
    all_goals (intros; exfalso; simp only [ck, eh, iI_sub, iI_add] at *; simp only [lt32, le32, eq32, lt64, le64, eq64, Int32.reduceToInt, Int64.reduceToInt, tt, th, tb] at *; omega)
  have hb : 0 ≤ bhd D i hh ∧ bhd D i hh ≤ 100 := by unfold bhd at *; omega
  have eb : mI M (m + 4) i - iI (tk D i) + iI (gv D i) = iI (bhd D i hh) := by rw [eh, iI_sub, iI_add]; rfl
  have tb' := iI_t (k := bhd D i hh) (by omega) (by omega)
  have ehk : hk D i hh = if oth D hh (onw D i) (bhd D i hh) ∨ ((dO D i = 12 ∨ dO D i = 13) ∧ oth D hh (dA D i) (bhd D i hh)) ∨ (dO D i = 15 ∧ hh (mat D (dn D) i).toNat ≠ hh i) then 7 else if dO D i = 17 ∧ dR D < hh i then 8 else if dn D ≤ onw D i then 9 else 0 := by unfold hk; rw [if_neg c5, if_neg c6]
  have e1 : nI i + 1 = nI (i + 1) := nI_1 i
  have ei1 : ((nI i + 1 : Int32).toInt64).toInt = (i : Int) + 1 := by rw [l2, e1, ci _ (by omega)]; omega
  have gle : ∀ x : Int32, x = iI (tk D i) → x ≤ mI M (m + 4) i := fun x z => by rw [z, eh, le32, tt, th]; omega
  -- the two forms of a lead
  have ldE : ∀ (to : Int), (0 ≤ to ∧ to < dn D → -1 ≤ hh to.toNat) → (ldk D hh to (bhd D i hh) = if 0 ≤ to ∧ to < dn D then (if oth D hh to (bhd D i hh) then 7 else 0) else 9) := fun to hto => by
    unfold ldk
    by_cases g : 0 ≤ to ∧ to < dn D
    · rw [if_pos g, if_pos g]
      have := hto g
      by_cases g2 : hh to.toNat ≠ -1 ∧ hh to.toNat ≠ bhd D i hh
      · rw [if_pos g2, if_pos (by omega)]
      · rw [if_neg g2, if_neg (by omega)]
    · rw [if_neg g, if_neg g]
  have hto : ∀ to : Int, (0 ≤ to ∧ to < dn D → -1 ≤ hh to.toNat) := fun to g => (hR to.toNat (by omega)).1
  have fin : ∀ (to : Int) (x : Int64), x.toInt = to → ∃ M', Ev K_X2_lead [aR (some 7), aR (some m), aJ x, aI (iI (bhd D i hh))] M (some (aI (iI (ldk D hh to (bhd D i hh))))) M' ∧ Ag (S4 m) M M' ∧ (ldk D hh to (bhd D i hh) = 0 → HT M' m D (up1 hh to.toNat (bhd D i hh))) := fun to x hx => by
    refine ⟨_, v_lead hS h hH hx hb, ldM_ag, fun z => ?_⟩
    unfold ldM
    rw [if_pos z]
    exact hH.up hb
  by_cases o12 : dO D i = 12
  · have eo : onw D i = -1 := by unfold onw; rw [if_pos (Or.inl o12)]
    obtain ⟨M', hE, hA, hH'⟩ := fin (dA D i) _ ha
    have fj := ffj hf (Or.inl o12)
    have ek : hk D i hh = ldk D hh (dA D i) (bhd D i hh) := by
      rw [ehk, ldE _ (hto _), eo, if_pos (by omega : 0 ≤ dA D i ∧ dA D i < dn D)]
      by_cases q : oth D hh (dA D i) (bhd D i hh)
      · rw [if_pos q, if_pos (Or.inr (Or.inl ⟨Or.inl o12, q⟩))]
      · rw [if_neg q, if_neg (by omega), if_neg (by omega), if_neg (by omega)]
    rw [ek]
    refine ⟨M', ?_, hA, fun z => ?_⟩
    · apply s_X2_faultOfHeight_0 (M1 := M) (M2 := M) (M3 := M') (M4 := M) (M5 := M) (M6 := M) (M7 := M) (M8 := M) (M9 := M) (M10 := M) (x101 := iI (tk D i)) (x103 := iI (gv D i)) (x106 := iI (ldk D hh (dA D i) (bhd D i hh))) (x108 := 0) (x110 := 0) (x113 := 0) (x114 := 0) (x116 := 0) (x118 := 0) (x121 := 0) hS h.1.1
      case b1 => exact b1
      case c2 => exact et
      case c3 => intros; exact eg
      case c4 => intros; rw [ck, eb]; exact hE
      case k5 => intros; exact ⟨rfl, rfl⟩
      all_goals (clear hE; intros; exfalso; simp only [ck, eb] at *; simp only [lt32, le32, eq32, lt64, le64, eq64, Int32.reduceToInt, Int64.reduceToInt, ho, eh, tt, th, tb'] at *; omega)
    · have := hH' z
      unfold hn
      rw [if_pos (Or.inl o12), eo, if_neg (by omega)]
      exact this
  by_cases o13 : dO D i = 13
  · have eo : onw D i = i + 1 := by unfold onw; rw [if_neg (by omega), if_neg (by omega)]
    have fj := ffj hf (Or.inr o13)
    have l1 := v_lead hS h hH ha hb
    have k1 := ldE _ (hto (dA D i))
    rw [if_pos (by omega : 0 ≤ dA D i ∧ dA D i < dn D)] at k1
    by_cases q : oth D hh (dA D i) (bhd D i hh)
    · rw [if_pos q] at k1
      rw [k1] at l1
      have e2 : ldM D hh m (dA D i) (bhd D i hh) M = M := by unfold ldM; rw [k1]; rfl
      rw [e2] at l1
      have ek : hk D i hh = 7 := by rw [ehk, if_pos (Or.inr (Or.inl ⟨Or.inr o13, q⟩))]
      rw [ek]
      refine ⟨M, ?_, Ag.rf, fun z => by omega⟩
      apply s_X2_faultOfHeight_0 (M1 := M) (M2 := M) (M3 := M) (M4 := M) (M5 := M) (M6 := M) (M7 := M) (M8 := M) (M9 := M) (M10 := M) (x101 := iI (tk D i)) (x103 := iI (gv D i)) (x106 := 0) (x108 := iI 7) (x110 := 0) (x113 := 0) (x114 := 0) (x116 := 0) (x118 := 0) (x121 := 0) hS h.1.1
      case b1 => exact b1
      case c2 => exact et
      case c3 => intros; exact eg
      case c6 => intros; rw [ck, eb]; exact l1
      case k9 => intros; exact ⟨rfl, rfl⟩
      all_goals (clear l1; have e7 := iI_t (k := 7) (by omega) (by omega); intros; exfalso; simp only [ck, eb] at *; simp only [lt32, le32, eq32, lt64, le64, eq64, Int32.reduceToInt, Int64.reduceToInt, ho, eh, tt, th, tb', e7] at *; omega)
    · rw [if_neg q] at k1
      rw [k1] at l1
      have e2 : ldM D hh m (dA D i) (bhd D i hh) M = wrI M (m + 4) (dA D i).toNat (iI (bhd D i hh)) := by unfold ldM; rw [k1]; rfl
      rw [e2] at l1
      have hA1 : Ag (S4 m) M (wrI M (m + 4) (dA D i).toNat (iI (bhd D i hh))) := Ag.rf.wI rfl
      have l2 := v_lead (hA1.st hS) (h.s4 hA1) (hH.up (t := (dA D i).toNat) hb) ei1 hb
      have k2 : ldk D (up1 hh (dA D i).toNat (bhd D i hh)) ((i : Int) + 1) (bhd D i hh) = hk D i hh := by
        rw [ehk, eo]
        unfold ldk up1
        rw [if_pos (by omega)]
        have := hR (i + 1) (by omega)
        have en1 : ((i : Int) + 1).toNat = i + 1 := by omega
        simp only [en1]
        by_cases w : i + 1 = (dA D i).toNat
        · rw [if_pos w, if_neg (by omega), if_neg, if_neg (by omega), if_neg (by omega)]
          rintro (z | z | z)
          · obtain ⟨_, _, z3, z4⟩ := z; rw [en1, w] at z3 z4; exact q ⟨by omega, by omega, z3, z4⟩
          · exact q z.2
          · omega
        · rw [if_neg w]
          by_cases w2 : hh (i + 1) ≠ -1 ∧ hh (i + 1) ≠ bhd D i hh
          · rw [if_pos w2, if_pos]
            left
            exact ⟨by omega, by omega, by rw [en1]; omega, by rw [en1]; omega⟩
          · rw [if_neg w2, if_neg, if_neg (by omega), if_neg (by omega)]
            rintro (z | z | z)
            · obtain ⟨_, _, z3, z4⟩ := z; rw [en1] at z3 z4; omega
            · exact q z.2
            · omega
      rw [k2] at l2
      refine ⟨ldM D (up1 hh (dA D i).toNat (bhd D i hh)) m ((i : Int) + 1) (bhd D i hh) (wrI M (m + 4) (dA D i).toNat (iI (bhd D i hh))), ?_, hA1.tr ldM_ag, fun z => ?_⟩
      rotate_left
      · unfold ldM
        rw [k2, if_pos z, show ((i : Int) + 1).toNat = i + 1 by omega]
        have := (hH.up (t := (dA D i).toNat) hb).up (t := i + 1) hb
        have ee : hn D i hh = up1 (up1 hh (dA D i).toNat (bhd D i hh)) (i + 1) (bhd D i hh) := by
          unfold hn
          rw [if_pos (Or.inr o13), eo, if_pos (by omega), show ((i : Int) + 1).toNat = i + 1 by omega]
          funext k
          simp only [up1]
          repeat' split
          all_goals rfl
        rw [ee]
        exact this
      · apply s_X2_faultOfHeight_0 (M1 := M) (M2 := M) (M3 := M) (M4 := wrI M (m + 4) (dA D i).toNat (iI (bhd D i hh))) (M5 := _) (M6 := M) (M7 := M) (M8 := M) (M9 := M) (M10 := M) (x101 := iI (tk D i)) (x103 := iI (gv D i)) (x106 := 0) (x108 := 0) (x110 := iI (hk D i hh)) (x113 := 0) (x114 := 0) (x116 := 0) (x118 := 0) (x121 := 0) hS h.1.1
        case b1 => exact b1
        case c2 => exact et
        case c3 => intros; exact eg
        case c6 => intros; rw [ck, eb]; exact l1
        case c7 => intros; rw [ck, eb]; exact l2
        case k8 => intros; exact ⟨rfl, rfl⟩
        case k9 => intro _ _ _ _ z; exact absurd rfl z
        all_goals (clear l1 l2; intros; exfalso; simp only [ck, eb] at *; simp only [lt32, le32, eq32, lt64, le64, eq64, Int32.reduceToInt, Int64.reduceToInt, ho, eh, tt, th, tb'] at *; omega)
  have hkG : dO D i ≠ 17 → (dO D i = 15 → hh (mat D (dn D) i).toNat = hh i) → 0 ≤ onw D i → hk D i hh = ldk D hh (onw D i) (bhd D i hh) ∧ hn D i hh = up1 hh (onw D i).toNat (bhd D i hh) := fun a17 a15 an => by
    refine ⟨?_, ?_⟩
    · rw [ehk, ldE _ (hto _)]
      by_cases w : 0 ≤ onw D i ∧ onw D i < dn D
      · rw [if_pos w]
        by_cases q : oth D hh (onw D i) (bhd D i hh)
        · rw [if_pos q, if_pos (Or.inl q)]
        · rw [if_neg q, if_neg, if_neg (by omega), if_neg (by omega)]
          rintro (z | z | z)
          · exact q z
          · omega
          · exact z.2 (a15 z.1)
      · rw [if_neg w, if_neg, if_neg (by omega), if_pos (by omega)]
        rintro (z | z | z)
        · omega
        · omega
        · exact z.2 (a15 z.1)
    · unfold hn
      rw [if_neg (by omega), if_pos an]
  by_cases o14 : dO D i = 14
  · have fl := ffl hf o14
    have mr := mat_ge (D := D) (dn D) i
    have on0 : 0 ≤ onw D i := by unfold onw; repeat' split <;> omega
    have hG := hkG (by omega) (by omega) on0
    by_cases a0 : dA D i = 0
    · have eo : onw D i = mat D (dn D) i + 1 := by unfold onw; rw [if_neg (by omega), if_pos ⟨o14, a0⟩]
      have e3 := (hP.1 i hi).2.2
      have ex : ((mI M (m + 3) i + 1 : Int32).toInt64).toInt = onw D i := by
        rw [l2, iI_e e3, show (1 : Int32) = iI 1 from rfl, iI_add, iI_t (by omega) (by omega), eo]
      obtain ⟨M', hE, hA, hH'⟩ := fin (onw D i) _ ex
      rw [hG.2, hG.1]
      refine ⟨M', ?_, hA, hH'⟩
      apply s_X2_faultOfHeight_0 (M1 := M) (M2 := M) (M3 := M) (M4 := M) (M5 := M) (M6 := M') (M7 := M) (M8 := M) (M9 := M) (M10 := M) (x101 := iI (tk D i)) (x103 := iI (gv D i)) (x106 := 0) (x108 := 0) (x110 := 0) (x113 := iI (ldk D hh (onw D i) (bhd D i hh))) (x114 := 0) (x116 := 0) (x118 := 0) (x121 := 0) hS h.1.1
      case b1 => exact b1
      case c2 => exact et
      case c3 => intros; exact eg
      case c10 => intros; rw [ck, eb]; exact hE
      case k11 => intros; exact ⟨rfl, rfl⟩
      all_goals (clear hE hG hkG; intros; exfalso; simp only [ck, eb] at *; simp only [lt32, le32, eq32, lt64, le64, eq64, Int32.reduceToInt, Int64.reduceToInt, ho, ha, eh, tt, th, tb'] at *; omega)
    · have eo : onw D i = i + 1 := by unfold onw; rw [if_neg (by omega), if_neg (by omega)]
      obtain ⟨M', hE, hA, hH'⟩ := fin (onw D i) _ (ei1.trans eo.symm)
      rw [hG.2, hG.1]
      refine ⟨M', ?_, hA, hH'⟩
      apply s_X2_faultOfHeight_0 (M1 := M) (M2 := M) (M3 := M) (M4 := M) (M5 := M) (M6 := M) (M7 := M') (M8 := M) (M9 := M) (M10 := M) (x101 := iI (tk D i)) (x103 := iI (gv D i)) (x106 := 0) (x108 := 0) (x110 := 0) (x113 := 0) (x114 := iI (ldk D hh (onw D i) (bhd D i hh))) (x116 := 0) (x118 := 0) (x121 := 0) hS h.1.1
      case b1 => exact b1
      case c2 => exact et
      case c3 => intros; exact eg
      case c12 => intros; rw [ck, eb]; exact hE
      case k13 => intros; exact ⟨rfl, rfl⟩
      all_goals (clear hE hG hkG; intros; exfalso; simp only [ck, eb] at *; simp only [lt32, le32, eq32, lt64, le64, eq64, Int32.reduceToInt, Int64.reduceToInt, ho, ha, eh, tt, th, tb'] at *; omega)
  by_cases o15 : dO D i = 15
  · have eo : onw D i = i + 1 := by unfold onw; rw [if_neg (by omega), if_neg (by omega)]
    have fe := ffe hf o15
    have mr := mat_ge (D := D) (dn D) i
    have e3 := (hP.1 i hi).2.2
    have hhA := v_heightAt hS h.1 (mI M (m + 3) i)
    rw [e3, if_pos (by omega)] at hhA
    have eH := hH (mat D (dn D) i).toNat (by omega)
    by_cases w : hh (mat D (dn D) i).toNat = hh i
    · have hG := hkG (by omega) (fun _ => w) (by omega)
      obtain ⟨M', hE, hA, hH'⟩ := fin (onw D i) _ (ei1.trans eo.symm)
      rw [hG.2, hG.1]
      refine ⟨M', ?_, hA, hH'⟩
      apply s_X2_faultOfHeight_0 (M1 := M) (M2 := M) (M3 := M) (M4 := M) (M5 := M) (M6 := M) (M7 := M) (M8 := M) (M9 := M') (M10 := M) (x101 := iI (tk D i)) (x103 := iI (gv D i)) (x106 := 0) (x108 := 0) (x110 := 0) (x113 := 0) (x114 := 0) (x116 := mI M (m + 4) (mat D (dn D) i).toNat) (x118 := iI (ldk D hh (onw D i) (bhd D i hh))) (x121 := 0) hS h.1.1
      case b1 => exact b1
      case c2 => exact et
      case c3 => intros; exact eg
      case c14 => intros; rw [ck]; exact hhA
      case c15 => intros; rw [ck, eb]; exact hE
      case k16 => intros; exact ⟨rfl, rfl⟩
      all_goals (clear hE hG hkG hhA; intros; exfalso; simp only [ck, eb] at *; simp only [lt32, le32, eq32, lt64, le64, eq64, Int32.reduceToInt, Int64.reduceToInt, ho, ha, eh, tt, th, tb', eH] at *; omega)
    · have ek : hk D i hh = 7 := by rw [ehk, if_pos (Or.inr (Or.inr ⟨o15, w⟩))]
      rw [ek]
      refine ⟨M, ?_, Ag.rf, fun z => by omega⟩
      apply s_X2_faultOfHeight_0 (M1 := M) (M2 := M) (M3 := M) (M4 := M) (M5 := M) (M6 := M) (M7 := M) (M8 := M) (M9 := M) (M10 := M) (x101 := iI (tk D i)) (x103 := iI (gv D i)) (x106 := 0) (x108 := 0) (x110 := 0) (x113 := 0) (x114 := 0) (x116 := mI M (m + 4) (mat D (dn D) i).toNat) (x118 := 0) (x121 := 0) hS h.1.1
      case b1 => exact b1
      case c2 => exact et
      case c3 => intros; exact eg
      case c14 => intros; rw [ck]; exact hhA
      case k17 => intros; exact ⟨rfl, rfl⟩
      all_goals (clear hkG hhA; intros; exfalso; simp only [ck, eb] at *; simp only [lt32, le32, eq32, lt64, le64, eq64, Int32.reduceToInt, Int64.reduceToInt, ho, ha, eh, tt, th, tb', eH] at *; omega)
  by_cases o17 : dO D i = 17
  · have eo : onw D i = -1 := by unfold onw; rw [if_pos (Or.inr o17)]
    have eB : bhd D i hh = hh i - dR D := by
      have t1 : tk D i = dR D := by unfold tk; rw [if_neg (by omega), if_neg (by omega), if_pos o17]
      have t2 : gv D i = 0 := by unfold gv; rw [if_neg (by omega), if_neg (by omega), if_neg (by omega), if_neg (by omega)]
      unfold bhd
      omega
    have ek : hk D i hh = if dR D < hh i then 8 else 0 := by
      rw [ehk, eo, if_neg (by omega)]
      by_cases w : (dR D : Int) < hh i
      · rw [if_pos w, if_pos ⟨o17, w⟩]
      · rw [if_neg w, if_neg (by omega), if_neg (by omega)]
    have en : hn D i hh = hh := by unfold hn; rw [if_neg (by omega), eo, if_neg (by omega)]
    rw [ek, en]
    refine ⟨M, ?_, Ag.rf, fun _ => hH⟩
    by_cases w : (dR D : Int) < hh i
    · rw [if_pos w]
      apply s_X2_faultOfHeight_0 (M1 := M) (M2 := M) (M3 := M) (M4 := M) (M5 := M) (M6 := M) (M7 := M) (M8 := M) (M9 := M) (M10 := M) (x101 := iI (tk D i)) (x103 := iI (gv D i)) (x106 := 0) (x108 := 0) (x110 := 0) (x113 := 0) (x114 := 0) (x116 := 0) (x118 := 0) (x121 := 0) hS h.1.1
      case b1 => exact b1
      case c2 => exact et
      case c3 => intros; exact eg
      case k19 => intros; exact ⟨rfl, rfl⟩
      all_goals (clear hkG ek; intros; exfalso; simp only [ck, eb] at *; simp only [lt32, le32, eq32, lt64, le64, eq64, Int32.reduceToInt, Int64.reduceToInt, ho, ha, eh, tt, th, tb'] at *; omega)
    · rw [if_neg w]
      apply s_X2_faultOfHeight_0 (M1 := M) (M2 := M) (M3 := M) (M4 := M) (M5 := M) (M6 := M) (M7 := M) (M8 := M) (M9 := M) (M10 := M) (x101 := iI (tk D i)) (x103 := iI (gv D i)) (x106 := 0) (x108 := 0) (x110 := 0) (x113 := 0) (x114 := 0) (x116 := 0) (x118 := 0) (x121 := 0) hS h.1.1
      case b1 => exact b1
      case c2 => exact et
      case c3 => intros; exact eg
      case k18 => intros; exact ⟨rfl, rfl⟩
      all_goals (clear hkG ek; intros; exfalso; simp only [ck, eb] at *; simp only [lt32, le32, eq32, lt64, le64, eq64, Int32.reduceToInt, Int64.reduceToInt, ho, ha, eh, tt, th, tb'] at *; omega)
  · have eo : onw D i = i + 1 := by unfold onw; rw [if_neg (by omega), if_neg (by omega)]
    have hG := hkG o17 (by omega) (by omega)
    obtain ⟨M', hE, hA, hH'⟩ := fin (onw D i) _ (ei1.trans eo.symm)
    rw [hG.2, hG.1]
    refine ⟨M', ?_, hA, hH'⟩
    apply s_X2_faultOfHeight_0 (M1 := M) (M2 := M) (M3 := M) (M4 := M) (M5 := M) (M6 := M) (M7 := M) (M8 := M) (M9 := M) (M10 := M') (x101 := iI (tk D i)) (x103 := iI (gv D i)) (x106 := 0) (x108 := 0) (x110 := 0) (x113 := 0) (x114 := 0) (x116 := 0) (x118 := 0) (x121 := iI (ldk D hh (onw D i) (bhd D i hh))) hS h.1.1
    case b1 => exact b1
    case c2 => exact et
    case c3 => intros; exact eg
    case c20 => intros; rw [ck, eb]; exact hE
    case k21 => intros; exact ⟨rfl, rfl⟩
    all_goals (clear hE hG hkG; intros; exfalso; simp only [ck, eb] at *; simp only [lt32, le32, eq32, lt64, le64, eq64, Int32.reduceToInt, Int64.reduceToInt, ho, ha, eh, tt, th, tb'] at *; omega)
end HT2
