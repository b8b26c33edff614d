/-! ===== PURE: the reference's sums ===== -/
def fpl (x y : Int64) : Int64 := if x = -2 ∨ y = -2 then -2 else if x + y < 0 then -2 else x + y
def fgr (x y : Int64) : Int64 := if x = -2 ∨ y = -2 then -2 else if y < x then x else y
def ftm (x y : Int64) : Int64 := if y = 0 ∨ x = 0 then 0 else if x = -2 then -2 else if 9223372036854775807 / y < x then -2 else x * y
theorem v_plus7 {M : AM} (hS : St M) (x y : Int64) : Ev K_X7_plus [aJ x, aJ y] M (some (aJ (fpl x y))) M := by
  unfold fpl
  apply s_X7_plus_0 hS
  case k1 => intro g; rw [if_pos (Or.inl g)]; exact ⟨rfl, rfl⟩
  case k2 => intro g1 g2 g3; rw [if_neg (fun z => z.elim g1 g2), if_neg g3]; exact ⟨rfl, rfl⟩
  case k3 => intro g1 g2 g3; rw [if_neg (fun z => z.elim g1 g2), if_pos g3]; exact ⟨rfl, rfl⟩
  case k4 => intro _ g; rw [if_pos (Or.inr g)]; exact ⟨rfl, rfl⟩
theorem v_greater7 {M : AM} (hS : St M) (x y : Int64) : Ev K_X7_greater [aJ x, aJ y] M (some (aJ (fgr x y))) M := by
  unfold fgr
  apply s_X7_greater_0 hS
  case k1 => intro g; rw [if_pos (Or.inl g)]; exact ⟨rfl, rfl⟩
  case k2 => intro g1 g2 g3; rw [if_neg (fun z => z.elim g1 g2), if_neg g3]; exact ⟨rfl, rfl⟩
  case k3 => intro g1 g2 g3; rw [if_neg (fun z => z.elim g1 g2), if_pos g3]; exact ⟨rfl, rfl⟩
  case k4 => intro _ g; rw [if_pos (Or.inr g)]; exact ⟨rfl, rfl⟩
theorem v_times7 {M : AM} (hS : St M) (x y : Int64) : Ev K_X7_times [aJ x, aJ y] M (some (aJ (ftm x y))) M := by
  unfold ftm
  apply s_X7_times_0 hS
  case k1 => intro g; rw [if_pos (Or.inl g)]; exact ⟨rfl, rfl⟩
  case k2 => intro g1 g2 g3; rw [if_neg (fun z => z.elim g1 g2), if_pos g3]; exact ⟨rfl, rfl⟩
  case z3 => intro g _ _; exact g
  case k4 => intro g1 g2 g3 g4; rw [if_neg (fun z => z.elim g1 g2), if_neg g3, if_neg g4]; exact ⟨rfl, rfl⟩
  case k5 => intro g1 g2 g3 g4; rw [if_neg (fun z => z.elim g1 g2), if_neg g3, if_pos g4]; exact ⟨rfl, rfl⟩
  case k6 => intro _ g; rw [if_pos (Or.inr g)]; exact ⟨rfl, rfl⟩
def rch (M : AM) (t : Nat) (v : Int64) : AM := wrJ M 46 t (fgr (mJ M 46 t) v)
theorem v_reach7 {M : AM} {t : Nat} (hS : St M) (ht : t < 121) (v : Int64) : Ev K_X7_reach [aR (some 26), aI (nI t), aJ v] M none (rch M t v) := by
  have ck := cl_n (n := t) (by omega)
  apply s_X7_reach_0 (M1 := M) (x101 := fgr (mJ M 46 t) v) hS
  case b1 => exact in_n ht (by omega)
  case c2 => rw [ck]; exact v_greater7 hS _ _
  case k3 => rw [ck]; exact ⟨rfl, rfl⟩
theorem fpl_s (a b : Nat) : fpl (sJ (some a)) (sJ (some b)) = sJ (pl (some a) (some b)) := by
  have ta := sJ_t (some a)
  have tb := sJ_t (some b)
  unfold fpl
  by_cases ca : a < 9223372036854775808
  · rw [sat_s ca] at ta
    by_cases cb : b < 9223372036854775808
    · rw [sat_s cb] at tb
      have es : sJ (some a) + sJ (some b) = jJ ((a : Int) + b) := by unfold sJ; rw [jJ_add, sat_s ca, sat_s cb]
      rw [if_neg (by simp only [lt32, le32, eq32, lt64, le64, eq64, Int32.reduceToInt, Int64.reduceToInt, ta, tb]; omega), es]
      by_cases cc : a + b < 9223372036854775808
      · have e : sJ (pl (some a) (some b)) = jJ ((a : Int) + b) := by show jJ (sat (some (a + b))) = _; rw [sat_s cc]; congr 1
        rw [if_neg (by rw [lt64, jJ_t (by omega) (by omega)]; show ¬ _ < (0 : Int); omega), e]
      · have e : sJ (pl (some a) (some b)) = -2 := by show jJ (sat (some (a + b))) = _; rw [sat_b cc]; rfl
        rw [if_pos (by rw [lt64, jJ_w (by omega) (by omega)]; show _ < (0 : Int); omega), e]
    · rw [sat_b cb] at tb
      have e : sJ (pl (some a) (some b)) = -2 := by show jJ (sat (some (a + b))) = _; rw [sat_b (by omega)]; rfl
      rw [if_pos (Or.inr (eq64.mpr tb)), e]
  · rw [sat_b ca] at ta
    have e : sJ (pl (some a) (some b)) = -2 := by show jJ (sat (some (a + b))) = _; rw [sat_b (by omega)]; rfl
    rw [if_pos (Or.inl (eq64.mpr ta)), e]
theorem fgr_s (a b : Option Nat) : fgr (sJ a) (sJ b) = sJ (mx a b) := by
  have ta := sJ_t a
  have tb := sJ_t b
  have em := sJ_t (mx a b)
  have e2 : (-2 : Int64).toInt = -2 := rfl
  have key : sat (mx a b) = if sat a = -2 ∨ sat b = -2 then -2 else if sat b < sat a then sat a else sat b := by
    cases a with
    | none =>
      cases b with
      | none => rfl
      | some b => show sat (some b) = _; have h1 : sat none = -1 := rfl; rw [h1]; simp only [sat]; repeat' split <;> omega
    | some a =>
      cases b with
      | none => show sat (some a) = _; have h1 : sat none = -1 := rfl; rw [h1]; simp only [sat]; repeat' split <;> omega
      | some b => show sat (some (if a ≤ b then b else a)) = _; simp only [sat]; repeat' split <;> omega
  unfold fgr
  have q1 : (sJ a = -2 ∨ sJ b = -2) ↔ (sat a = -2 ∨ sat b = -2) := by rw [eq64, eq64, ta, tb, e2]
  have q2 : sJ b < sJ a ↔ sat b < sat a := by rw [lt64, ta, tb]
  rw [eq64, em, key]
  by_cases c1 : sat a = -2 ∨ sat b = -2
  · rw [if_pos (q1.mpr c1), if_pos c1]; rfl
  · rw [if_neg (fun z => c1 (q1.mp z)), if_neg c1]
    by_cases c2 : sat b < sat a
    · rw [if_pos (q2.mpr c2), if_pos c2]; exact ta
    · rw [if_neg (fun z => c2 (q2.mp z)), if_neg c2]; exact tb
theorem ftm_s (a : Nat) {k : Nat} (hk : k ≤ 1000000000) : ftm (sJ (some a)) (jJ k) = sJ (rp (some a) k) := by
  have ta := sJ_t (some a)
  have tk' := jJ_t (k := (k : Int)) (by omega) (by omega)
  have e0 : (0 : Int64).toInt = 0 := rfl
  have e2 : (-2 : Int64).toInt = -2 := rfl
  show _ = sJ (some (a * k))
  unfold ftm
  have q1 : (jJ (k : Int) = 0 ∨ sJ (some a) = 0) ↔ (k = 0 ∨ a = 0) := by
    rw [eq64, eq64, ta, tk', e0]
    simp only [sat]
    split <;> omega
  by_cases c1 : k = 0 ∨ a = 0
  · rw [if_pos (q1.mpr c1)]
    have : a * k = 0 := by rcases c1 with z | z <;> rw [z] <;> omega
    rw [this]
    rfl
  · rw [if_neg (fun z => c1 (q1.mp z))]
    by_cases ca : a < 9223372036854775808
    · rw [sat_s ca] at ta
      have ea : sJ (some a) = jJ a := by unfold sJ; rw [sat_s ca]
      rw [if_neg (by rw [eq64, ta, e2]; omega)]
      have ki : (9223372036854775807 / k : Nat) < a ↔ 9223372036854775807 < a * k := Nat.div_lt_iff_lt_mul (by omega)
      have ed := div64 (a := k) (by omega) (by omega)
      have q3 : (9223372036854775807 : Int64) / jJ (k : Int) < sJ (some a) ↔ 9223372036854775807 < a * k := by
        rw [lt64, ed, ta, ← ki]
        generalize (9223372036854775807 / k : Nat) = q
        omega
      by_cases cc : a * k < 9223372036854775808
      · rw [if_neg (fun z => by have := q3.mp z; omega), ea, jJ_mul]
        unfold sJ
        rw [sat_s cc]
        congr 1
      · rw [if_pos (q3.mpr (by omega))]
        unfold sJ
        rw [sat_b cc]
        rfl
    · rw [sat_b ca] at ta
      have h1 : a ≤ a * k := Nat.le_mul_of_pos_right a (by omega)
      rw [if_pos (eq64.mpr ta)]
      unfold sJ
      rw [sat_b (by omega)]
      rfl
section REG
variable {D : DD} {j : Nat}
def rgv (D : DD) (j i : Nat) (M : AM) : Int64 := if dO D i = 16 then fpl (fpl (mJ M 46 i) (mJ M 33 (dO D i).toNat)) (mJ M 45 (dA D i).toNat) else fpl (mJ M 46 i) (mJ M 33 (dO D i).toNat)
def rgb (D : DD) (i : Nat) (M : AM) (bk v : Int64) : Int64 := if mJ M 48 i = -1 then bk else fgr bk (fpl (fpl v (if mJ M 47 i = -1 then 0 else ftm (mJ M 47 i) (jJ (dA D i - 1)))) (mJ M 48 i))
def rgm (D : DD) (i : Nat) (M : AM) (v : Int64) : AM := if mJ M 47 i = -1 then M else rch M (beh D i) (fpl v (ftm (mJ M 47 i) (jJ (dA D i))))
def rgo (D : DD) (i : Nat) (M : AM) (v : Int64) : AM := if dO D i = 12 ∨ dO D i = 13 then rch (if 0 ≤ onw D i then rch M (onw D i).toNat v else M) (dA D i).toNat v else (if 0 ≤ onw D i then rch M (onw D i).toNat v else M)
def rst (D : DD) (j : Nat) (L : Int) (i : Nat) (M : AM) (bk wh : Int64) : AM × Int64 × Int64 :=
  if ins D i = L ∧ mJ M 46 i ≠ -1 then
    (if dO D i = 17 then (M, fgr bk (rgv D j i M), wh)
    else if dO D i = 15 then (M, bk, fgr wh (rgv D j i M))
    else if dO D i = 14 ∧ 0 < dA D i then (rgm D i M (rgv D j i M), rgb D i M bk (rgv D j i M), wh)
    else (rgo D i M (rgv D j i M), bk, wh))
  else (M, bk, wh)
abbrev LR (j : Nat) (L : Int) (bk wh : Int64) (i : Nat) (a b c d e f : Option AV) : LVs := [some (aR (some 26)), some (aI (nI j)), some (aI (iI L)), some (aJ bk), none, some (aJ wh), none, some (aI (nI i)), a, b, c, d, e, f]
def S46 : Nat → Nat → Prop := fun r _ => r = 46
theorem MM.s46 {M M' : AM} (h : MM M j D) (a : Ag S46 M M') : MM M' j D := h.ag a (fun i => by unfold S46; omega)
theorem rch_ag {M : AM} {t : Nat} {v : Int64} : Ag S46 M (rch M t v) := Ag.rf.wJ rfl
theorem r411 {M M' : AM} {L : Int} {bk wh : Int64} {i : Nat} {v : Option AV} {b c d e f : Option AV} (hS : St M) (kk : E K_X7_region 50 (LR j L bk wh (i + 1) none none none none none none) [] M v M') : E K_X7_region 411 (LR j L bk wh i (some (aI ((120 : Int32) * nI j + nI i))) b c d e f) [] M v M' := by
  have := s_X7_region_411 (x1 := nI j) (x2 := iI L) (x3 := bk) (x5 := wh) (x7 := nI i) (x8 := (120 : Int32) * nI j + nI i) (v := v) (M' := M') hS (by rw [nI_1]; exact kk.fg ⟨Or.inr rfl, Or.inr rfl, Or.inr rfl, Or.inr rfl, Or.inr rfl, Or.inr rfl, Or.inr rfl, Or.inr rfl, Or.inl rfl, Or.inr rfl, Or.inr rfl, Or.inr rfl, Or.inr rfl, Or.inr rfl, trivial⟩)
  exact this.fg ⟨Or.inr rfl, Or.inr rfl, Or.inr rfl, Or.inr rfl, Or.inr rfl, Or.inr rfl, Or.inr rfl, Or.inr rfl, Or.inr rfl, Or.inl rfl, Or.inl rfl, Or.inl rfl, Or.inl rfl, Or.inl rfl, trivial⟩
theorem r308 {M M' : AM} {L : Int} {bk wh w : Int64} {y : Int32} {i : Nat} {v : Option AV} {e f : Option AV} (hS : St M) (h : MM M j D) (hB : BRi D j (dn D) M) (hi : i < dn D) (hff : ff D i = 0) (o : dO D i = 14) (hy : y = 0 ↔ mJ M 47 i = -1)
    (kk : E K_X7_region 50 (LR j L bk wh (i + 1) none none none none none none) [] (rgm D i M w) v M') : E K_X7_region 308 (LR j L bk wh i (some (aI ((120 : Int32) * nI j + nI i))) (some (aJ w)) none (some (aI y)) e f) [] M v M' := by
  have hN := h.ln
  have hj := h.lj
  have ck := cx (j := j) (i := i) (by omega) (by omega)
  have c1 := cl_n (n := i) (by omega)
  have ha := (h.2.1 i hi).2
  have bg := beh_gt hff o
  have fl := ffl hff o
  have h36 := (hB i hi).2.2
  have ea : mJ M 32 (120 * j + i) = jJ (dA D i) := jJ_e ha
  have eb : mI M 36 (120 * j + i) + 1 = nI (beh D i) := by
    rw [iI_e h36, show (1 : Int32) = iI 1 from rfl, iI_add, nI_i (by omega)]
    congr 1
    unfold beh
    omega
  have main : E K_X7_region 308 (LR j L bk wh i (some (aI ((120 : Int32) * nI j + nI i))) (some (aJ w)) none (some (aI y)) none none) [] M v M' := by
    apply s_X7_region_308 (M1 := M) (M2 := M) (M3 := rch M (beh D i) (fpl w (ftm (mJ M 47 i) (jJ (dA D i))))) (x102 := ftm (mJ M 47 i) (jJ (dA D i))) (x103 := fpl w (ftm (mJ M 47 i) (jJ (dA D i)))) hS
    case k1 =>
      intro g
      have e : rgm D i M w = M := by unfold rgm; rw [if_pos (hy.mp g)]
      rw [e] at kk
      exact r411 hS kk
    case b2 => intros; exact bx (by omega) (by omega)
    case b3 => intros; exact in_n (by omega) (by omega)
    case c4 => intros; rw [c1, ck, ea]; exact v_times7 hS _ _
    case c5 => intros; exact v_plus7 hS _ _
    case c6 => intros; rw [ck, eb]; exact v_reach7 hS (by omega) _
    case k7 =>
      intro g
      have e : rgm D i M w = rch M (beh D i) (fpl w (ftm (mJ M 47 i) (jJ (dA D i)))) := by unfold rgm; rw [if_neg (fun z => g (hy.mpr z))]
      rw [e] at kk
      exact r411 (rch_ag.st hS) kk
  exact main.fg ⟨Or.inr rfl, Or.inr rfl, Or.inr rfl, Or.inr rfl, Or.inr rfl, Or.inr rfl, Or.inr rfl, Or.inr rfl, Or.inr rfl, Or.inr rfl, Or.inr rfl, Or.inr rfl, Or.inl rfl, Or.inl rfl, trivial⟩
theorem r240 {M M' : AM} {L : Int} {bk wh w : Int64} {y : Int32} {i : Nat} {v : Option AV} (hS : St M) (h : MM M j D) (hB : BRi D j (dn D) M) (hi : i < dn D) (hff : ff D i = 0) (o : dO D i = 14) (hy : y = 0 ↔ mJ M 47 i = -1)
    (kk : E K_X7_region 50 (LR j L (rgb D i M bk w) wh (i + 1) none none none none none none) [] (rgm D i M w) v M') : E K_X7_region 240 (LR j L bk wh i (some (aI ((120 : Int32) * nI j + nI i))) (some (aJ w)) none none none none) [aI y] M v M' := by
  have hN := h.ln
  have hj := h.lj
  have ck := cx (j := j) (i := i) (by omega) (by omega)
  have c1 := cl_n (n := i) (by omega)
  have ha := (h.2.1 i hi).2
  have ea : mJ M 32 (120 * j + i) - 1 = jJ (dA D i - 1) := by
    rw [jJ_e ha, show (1 : Int64) = jJ 1 from rfl]
    exact (Int64.ofInt_sub _ _).symm
  apply s_X7_region_240 (M1 := M) (M2 := M) (M3 := M) (M4 := M) (M5 := M) (M6 := M) (M7 := M) (x103 := fpl w 0) (x104 := fpl (fpl w 0) (mJ M 48 i)) (x105 := fgr bk (fpl (fpl w 0) (mJ M 48 i))) (x106 := ftm (mJ M 47 i) (jJ (dA D i - 1))) (x107 := fpl w (ftm (mJ M 47 i) (jJ (dA D i - 1)))) (x108 := fpl (fpl w (ftm (mJ M 47 i) (jJ (dA D i - 1)))) (mJ M 48 i)) (x109 := fgr bk (fpl (fpl w (ftm (mJ M 47 i) (jJ (dA D i - 1)))) (mJ M 48 i))) hS
  case b1 => exact in_n (by omega) (by omega)
  case k2 =>
    intro g
    rw [c1] at g
    have e : rgb D i M bk w = bk := by unfold rgb; rw [if_pos g]
    rw [e] at kk
    exact r308 hS h hB hi hff o hy kk
  case c3 => intros; exact v_plus7 hS _ _
  case c4 => intros; rw [c1]; exact v_plus7 hS _ _
  case c5 => intros; exact v_greater7 hS _ _
  case k6 =>
    intro g g2
    rw [c1] at g
    have e : rgb D i M bk w = fgr bk (fpl (fpl w 0) (mJ M 48 i)) := by unfold rgb; rw [if_neg g, if_pos (hy.mp g2)]
    rw [e] at kk
    exact r308 hS h hB hi hff o hy kk
  case b7 => intros; exact bx (by omega) (by omega)
  case c8 => intros; rw [c1, ck, ea]; exact v_times7 hS _ _
  case c9 => intros; exact v_plus7 hS _ _
  case c10 => intros; rw [c1]; exact v_plus7 hS _ _
  case c11 => intros; exact v_greater7 hS _ _
  case k12 =>
    intro g g2
    rw [c1] at g
    have e : rgb D i M bk w = fgr bk (fpl (fpl w (ftm (mJ M 47 i) (jJ (dA D i - 1)))) (mJ M 48 i)) := by unfold rgb; rw [if_neg g, if_neg (fun z => g2 (hy.mpr z))]
    rw [e] at kk
    exact r308 hS h hB hi hff o hy kk
end REG
