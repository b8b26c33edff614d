/-! ===== PURE: the class's Bounds ===== -/
def sJ (a : Option Nat) : Int64 := jJ (sat a)
theorem sat_r (a : Option Nat) : -2 ≤ sat a ∧ sat a < 9223372036854775808 := by
  cases a with
  | none => exact ⟨by show (-2 : Int) ≤ -1; omega, by show (-1 : Int) < _; omega⟩
  | some v => simp only [sat]; split <;> omega
theorem sat_s {v : Nat} (h : v < 9223372036854775808) : sat (some v) = v := if_pos h
theorem sat_b {v : Nat} (h : ¬ v < 9223372036854775808) : sat (some v) = -2 := if_neg h
theorem sJ_t (a : Option Nat) : (sJ a).toInt = sat a := jJ_t (by have := sat_r a; omega) (by have := sat_r a; omega)
theorem sJ_e {x : Int64} {a : Option Nat} (h : x.toInt = sat a) : x = sJ a := jJ_e h
theorem jJ_add (a b : Int) : jJ a + jJ b = jJ (a + b) := (Int64.ofInt_add a b).symm
theorem jJ_mul (a b : Int) : jJ a * jJ b = jJ (a * b) := (Int64.ofInt_mul a b).symm
theorem jJ_w {z : Int} (h1 : 9223372036854775808 ≤ z) (h2 : z < 18446744073709551616) : (jJ z).toInt = z - 18446744073709551616 := by
  unfold jJ
  rw [Int64.toInt_ofInt]
  show Int.bmod z 18446744073709551616 = _
  simp only [Int.bmod]
  split <;> omega
theorem n64i {n : Nat} (h : n < 2 ^ 31) : (nI n).toInt64 = jJ n := by
  rw [eq64, l2, ci _ h, jJ_t (by omega) (by omega)]
theorem n64s {n : Nat} (h : n < 2 ^ 31) : (nI n).toInt64 = sJ (some n) := by
  rw [n64i h]
  show _ = jJ (sat (some n))
  rw [sat_s (by omega)]
theorem v_plus1 {M : AM} (hS : St M) (a b : Option Nat) : Ev K_X1_plus [aJ (sJ a), aJ (sJ b)] M (some (aJ (sJ (pl a b)))) M := by
  have ta := sJ_t a
  have tb := sJ_t b
  cases a with
  | none =>
    apply s_X1_plus_0 hS
    case k1 => intros; exact ⟨rfl, rfl⟩
    all_goals (intro g; exact absurd rfl g)
  | some a =>
    cases b with
    | none =>
      apply s_X1_plus_0 hS
      case k6 => intros; exact ⟨rfl, rfl⟩
      case k1 => intros; exact ⟨rfl, rfl⟩
      all_goals (intro _ g; exact absurd rfl g)
    | some b =>
      by_cases ca : a < 9223372036854775808
      · rw [sat_s ca] at ta
        by_cases cb : b < 9223372036854775808
        · rw [sat_s cb] at tb
          have es : sJ (some a) + sJ (some b) = jJ ((a : Int) + b) := by unfold sJ; rw [jJ_add, sat_s ca, sat_s cb]
          by_cases cc : a + b < 9223372036854775808
          · have e : sJ (pl (some a) (some b)) = jJ ((a : Int) + b) := by show jJ (sat (some (a + b))) = _; rw [sat_s cc]; congr 1
            have t := jJ_t (k := (a : Int) + b) (by omega) (by omega)
            rw [e]
            apply s_X1_plus_0 hS
            case k4 => intros; rw [es]; exact ⟨rfl, rfl⟩
            all_goals (intros; exfalso; simp only [es] at *; simp only [lt32, le32, eq32, lt64, le64, eq64, Int32.reduceToInt, Int64.reduceToInt, ta, tb, t] at *; omega)
          · have e : sJ (pl (some a) (some b)) = -2 := by show jJ (sat (some (a + b))) = _; rw [sat_b cc]; rfl
            have t := jJ_w (z := (a : Int) + b) (by omega) (by omega)
            rw [e]
            apply s_X1_plus_0 hS
            case k5 => intros; exact ⟨rfl, rfl⟩
            all_goals (intros; exfalso; simp only [es] at *; simp only [lt32, le32, eq32, lt64, le64, eq64, Int32.reduceToInt, Int64.reduceToInt, ta, tb, t] at *; omega)
        · rw [sat_b cb] at tb
          have e : sJ (pl (some a) (some b)) = -2 := by show jJ (sat (some (a + b))) = _; rw [sat_b (by omega)]; rfl
          rw [e]
          apply s_X1_plus_0 hS
          case k3 => intros; exact ⟨rfl, rfl⟩
          case k5 => intros; exact ⟨rfl, rfl⟩
          case k4 => intro _ _ _ g; exact absurd (eq64.mpr tb) g
          all_goals (intros; exfalso; simp only [lt32, le32, eq32, lt64, le64, eq64, Int32.reduceToInt, Int64.reduceToInt, ta, tb] at *; omega)
      · rw [sat_b ca] at ta
        have e : sJ (pl (some a) (some b)) = -2 := by show jJ (sat (some (a + b))) = _; rw [sat_b (by omega)]; rfl
        have rb : sat (some b) ≠ -1 := by simp only [sat]; split <;> omega
        rw [e]
        apply s_X1_plus_0 hS
        case k2 => intros; exact ⟨rfl, rfl⟩
        case k3 => intros; exact ⟨rfl, rfl⟩
        case k5 => intros; exact ⟨rfl, rfl⟩
        case k4 => intro _ _ g; exact absurd (eq64.mpr ta) g
        all_goals (intros; exfalso; simp only [lt32, le32, eq32, lt64, le64, eq64, Int32.reduceToInt, Int64.reduceToInt, ta, tb] at *; omega)
theorem v_greater1 {M : AM} (hS : St M) (a b : Option Nat) : Ev K_X1_greater [aJ (sJ a), aJ (sJ b)] M (some (aJ (sJ (mx a b)))) M := by
  have ta := sJ_t a
  have tb := sJ_t b
  have em := sJ_t (mx a b)
  have key : sat (mx a b) = if sat a = -2 ∨ sat b = -2 then -2 else if sat b < sat a then sat a else sat b := by
    cases a with
    | none =>
      cases b with
      | none => rfl
      | some b => show sat (some b) = _; have h1 : sat none = -1 := rfl; rw [h1]; simp only [sat]; repeat' split <;> omega
    | some a =>
      cases b with
      | none => show sat (some a) = _; have h1 : sat none = -1 := rfl; rw [h1]; simp only [sat]; repeat' split <;> omega
      | some b => show sat (some (if a ≤ b then b else a)) = _; simp only [sat]; repeat' split <;> omega
  by_cases c1 : sat a = -2 ∨ sat b = -2
  · rw [if_pos c1] at key
    have e : sJ (mx a b) = -2 := by rw [eq64, em, key]; rfl
    rw [e]
    apply s_X1_greater_0 hS
    case k1 => intros; exact ⟨rfl, rfl⟩
    case k4 => intros; exact ⟨rfl, rfl⟩
    all_goals (intros; exfalso; simp only [lt32, le32, eq32, lt64, le64, eq64, Int32.reduceToInt, Int64.reduceToInt, ta, tb] at *; omega)
  · rw [if_neg c1] at key
    by_cases c2 : sat b < sat a
    · rw [if_pos c2] at key
      have e : sJ (mx a b) = sJ a := by unfold sJ; rw [key]
      rw [e]
      apply s_X1_greater_0 hS
      case k3 => intros; exact ⟨rfl, rfl⟩
      all_goals (intros; exfalso; simp only [lt32, le32, eq32, lt64, le64, eq64, Int32.reduceToInt, Int64.reduceToInt, ta, tb] at *; omega)
    · rw [if_neg c2] at key
      have e : sJ (mx a b) = sJ b := by unfold sJ; rw [key]
      rw [e]
      apply s_X1_greater_0 hS
      case k2 => intros; exact ⟨rfl, rfl⟩
      all_goals (intros; exfalso; simp only [lt32, le32, eq32, lt64, le64, eq64, Int32.reduceToInt, Int64.reduceToInt, ta, tb] at *; omega)
theorem div64 {a : Nat} (h0 : 0 < a) (h1 : a < 9223372036854775808) : ((9223372036854775807 : Int64) / jJ a).toInt = (9223372036854775807 / a : Nat) := by
  have e : (9223372036854775807 : Int64).toInt = 9223372036854775807 := rfl
  have hd : (9223372036854775807 / a : Nat) ≤ 9223372036854775807 := Nat.div_le_self _ _
  rw [Int64.toInt_div, e, jJ_t (by omega) (by omega)]
  have e2 : (9223372036854775807 : Int).tdiv (a : Int) = ((9223372036854775807 / a : Nat) : Int) := by
    rw [Int.tdiv_eq_ediv_of_nonneg (by omega)]
    rfl
  rw [e2]
  clear e2
  generalize (9223372036854775807 / a : Nat) = q at *
  exact Int.bmod_eq_of_le (by omega) (by omega)
theorem v_repeated {M : AM} (hS : St M) (a : Option Nat) {k : Nat} (hk : k ≤ 1000000000) : Ev K_X1_repeated [aJ (sJ a), aJ (jJ k)] M (some (aJ (sJ (rp a k)))) M := by
  have ta := sJ_t a
  have tk' := jJ_t (k := (k : Int)) (by omega) (by omega)
  cases a with
  | none =>
    apply s_X1_repeated_0 hS
    case k7 => intros; exact ⟨rfl, rfl⟩
    all_goals (intro g; exact absurd rfl g)
  | some a =>
    by_cases z : a = 0 ∨ k = 0
    · have e : sJ (rp (some a) k) = 0 := by
        have : a * k = 0 := by rcases z with z | z <;> rw [z] <;> omega
        show jJ (sat (some (a * k))) = 0
        rw [this]; rfl
      have ra : sat (some a) ≠ -1 := by simp only [sat]; split <;> omega
      have rz : a = 0 → sat (some a) = 0 := fun z => by rw [z]; rfl
      rw [e]
      apply s_X1_repeated_0 hS
      case k1 => intros; exact ⟨rfl, rfl⟩
      case k6 => intros; exact ⟨rfl, rfl⟩
      case z3 => intro _ g _ _; exact g
      all_goals (intros; exfalso; simp only [lt32, le32, eq32, lt64, le64, eq64, Int32.reduceToInt, Int64.reduceToInt, ta, tk'] at *; omega)
    · by_cases ca : a < 9223372036854775808
      · rw [sat_s ca] at ta
        have ea : sJ (some a) = jJ a := by unfold sJ; rw [sat_s ca]
        have ed : ((9223372036854775807 : Int64) / sJ (some a)).toInt = (9223372036854775807 / a : Nat) := by rw [ea]; exact div64 (by omega) ca
        have ki : (9223372036854775807 / a : Nat) < k ↔ 9223372036854775807 < k * a := Nat.div_lt_iff_lt_mul (by omega)
        by_cases cc : a * k < 9223372036854775808
        · have e : sJ (rp (some a) k) = sJ (some a) * jJ k := by
            show jJ (sat (some (a * k))) = _
            rw [sat_s cc, ea, jJ_mul]
            congr 1
          rw [e]
          apply s_X1_repeated_0 hS
          case k4 => intros; exact ⟨rfl, rfl⟩
          case z3 => intro _ g _ _; exact g
          case k5 =>
            intro _ _ _ _ g
            exfalso
            rw [lt64, ed, tk'] at g
            have := ki.mp (by omega)
            rw [Nat.mul_comm] at this
            omega
          all_goals (intros; exfalso; simp only [lt32, le32, eq32, lt64, le64, eq64, Int32.reduceToInt, Int64.reduceToInt, ta, tk'] at *; omega)
        · have e : sJ (rp (some a) k) = -2 := by
            show jJ (sat (some (a * k))) = _
            rw [sat_b cc]; rfl
          rw [e]
          apply s_X1_repeated_0 hS
          case k5 => intros; exact ⟨rfl, rfl⟩
          case z3 => intro _ g _ _; exact g
          case k4 =>
            intro _ _ _ _ g
            exfalso
            rw [lt64, ed, tk'] at g
            exact g (by have := ki.mpr (by rw [Nat.mul_comm]; omega); omega)
          all_goals (intros; exfalso; simp only [lt32, le32, eq32, lt64, le64, eq64, Int32.reduceToInt, Int64.reduceToInt, ta, tk'] at *; omega)
      · rw [sat_b ca] at ta
        have e : sJ (rp (some a) k) = -2 := by
          have h1 : a ≤ a * k := Nat.le_mul_of_pos_right a (by omega)
          show jJ (sat (some (a * k))) = _
          rw [sat_b (by omega)]; rfl
        rw [e]
        apply s_X1_repeated_0 hS
        case k2 => intros; exact ⟨rfl, rfl⟩
        case k5 => intros; exact ⟨rfl, rfl⟩
        case z3 => intro _ g _ _; exact g
        case k4 => intro _ _ _ g; exact absurd (eq64.mpr ta) g
        all_goals (intros; exfalso; simp only [lt32, le32, eq32, lt64, le64, eq64, Int32.reduceToInt, Int64.reduceToInt, ta, tk'] at *; omega)
def S15 (i : Nat) : Nat → Nat → Prop := fun r k => (r = 15 ∨ r = 16) ∧ k = i
theorem v_goTo {M : AM} {i t : Nat} {o : Option Nat} {e g : OO} (hS : St M) (hi : i < 121) (ht : t < 121) (hit : i ≠ t) (h1 : mJ M 15 t = sJ g.1) (h2 : mJ M 16 t = sJ g.2) (h3 : mJ M 15 i = sJ e.1) (h4 : mJ M 16 i = sJ e.2) :
    Ev K_X1_goTo [aR (some 12), aI (nI i), aJ (sJ o), aI (nI t)] M none (wrJ (wrJ M 15 i (sJ (mx e.1 (pl o g.1)))) 16 i (sJ (mx e.2 (pl o g.2)))) := by
  have c1 := cl_n (n := i) (by omega)
  have c2 := cl_n (n := t) (by omega)
  have hS1 : St (wrJ M 15 i (sJ (mx e.1 (pl o g.1)))) := hS.sh Sh.wJ
  apply s_X1_goTo_0 (M1 := M) (M2 := M) (M3 := wrJ M 15 i (sJ (mx e.1 (pl o g.1)))) (M4 := wrJ M 15 i (sJ (mx e.1 (pl o g.1)))) (x101 := sJ (pl o g.1)) (x102 := sJ (mx e.1 (pl o g.1))) (x103 := sJ (pl o g.2)) (x104 := sJ (mx e.2 (pl o g.2))) hS
  case b1 => exact in_n hi (by omega)
  case b2 => exact in_n ht (by omega)
  case c3 => rw [c2, h1]; exact v_plus1 hS _ _
  case c4 => rw [c1, h3]; exact v_greater1 hS _ _
  case c5 => rw [c1, c2, h2]; exact v_plus1 hS1 _ _
  case c6 => rw [c1, h4]; exact v_greater1 hS1 _ _
  case k7 => rw [c1]; exact ⟨rfl, rfl⟩
