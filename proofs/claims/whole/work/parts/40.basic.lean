/-! ===== PURE: numbers ===== -/
theorem n32 (k : Nat) : (OfNat.ofNat k : Int32) = nI k := rfl
theorem n64 (k : Nat) : (OfNat.ofNat k : Int64) = lN k := rfl
theorem n32_0 : (0 : Int32) = nI 0 := rfl
theorem n32_m1 : (-1 : Int32).toInt = -1 := rfl
theorem nlt {a b : Nat} (ha : a < 2 ^ 31) (hb : b < 2 ^ 31) : nI a < nI b ↔ a < b := nI_ltI ha hb
theorem nle {a b : Nat} (ha : a < 2 ^ 31) (hb : b < 2 ^ 31) : nI a ≤ nI b ↔ a ≤ b := nI_leI ha hb
theorem nlt0 {a : Nat} (ha : a < 2 ^ 31) : ¬ nI a < 0 := nI_pos ha
theorem nm1 {a : Nat} (ha : a < 2 ^ 31) : nI a ≠ -1 := fun h => by
  have := congrArg Int32.toInt h
  rw [nI_toInt ha] at this
  have e : (-1 : Int32).toInt = -1 := rfl
  omega
theorem m1lt0 : (-1 : Int32) < 0 := by decide
theorem lt32 {x y : Int32} : x < y ↔ x.toInt < y.toInt := Int32.lt_iff_toInt_lt
theorem le32 {x y : Int32} : x ≤ y ↔ x.toInt ≤ y.toInt := Int32.le_iff_toInt_le
theorem lt64 {x y : Int64} : x < y ↔ x.toInt < y.toInt := Int64.lt_iff_toInt_lt
theorem le64 {x y : Int64} : x ≤ y ↔ x.toInt ≤ y.toInt := Int64.le_iff_toInt_le
theorem eq32 {x y : Int32} : x = y ↔ x.toInt = y.toInt := ⟨fun h => by rw [h], fun h => Int32.toInt_inj.mp h⟩
theorem eq64 {x y : Int64} : x = y ↔ x.toInt = y.toInt := ⟨fun h => by rw [h], fun h => Int64.toInt_inj.mp h⟩
theorem rng32 (x : Int32) : -2147483648 ≤ x.toInt ∧ x.toInt < 2147483648 := ⟨Int32.le_toInt x, Int32.toInt_lt x⟩
theorem rng64 (x : Int64) : -9223372036854775808 ≤ x.toInt ∧ x.toInt < 9223372036854775808 := ⟨Int64.le_toInt x, Int64.toInt_lt x⟩
theorem l2 (x : Int32) : x.toInt64.toInt = x.toInt := Int32.toInt_toInt64 x
theorem ci (n : Nat) (h : n < 2 ^ 31) : (nI n).toInt = (n : Int) := nI_toInt h
theorem in_n {n N : Nat} (h : n < N) (hN : N < 2 ^ 31) : vp_in (nI n) N := vp_in_nI h hN
theorem in_x {x : Int32} {N : Nat} (h0 : 0 ≤ x.toInt) (h : x.toInt < N) : vp_in x N := vp_in_iff.mpr ⟨h0, h⟩
theorem cl_n {n : Nat} (h : n < 2 ^ 31) : (nI n).toNatClampNeg = n := nI_clamp h
theorem x_n {x : Int32} (h : 0 ≤ x.toInt) : x = nI x.toInt.toNat := by
  rw [eq32, ci _ (by have := rng32 x; omega)]
  omega
theorem x_l {x : Int64} (h : 0 ≤ x.toInt) (h2 : x.toInt < 2147483648) : x.toInt32 = nI x.toInt.toNat := by
  rw [eq32, ci _ (by omega), Int64.toInt_toInt32]
  rw [Int.bmod_eq_of_le (by omega) (by omega)]
  omega
/-! memory: what a write leaves -/
theorem wrI_s {M : AM} {r j : Nat} {x : Int32} : mI (wrI M r j x) r j = x := if_pos ⟨rfl, rfl⟩
theorem wrI_r {M : AM} {r j q i : Nat} {x : Int32} (h : q ≠ r) : mI (wrI M r j x) q i = mI M q i := if_neg (fun z => h z.1)
theorem wrI_j {M : AM} {r j q i : Nat} {x : Int32} (h : i ≠ j) : mI (wrI M r j x) q i = mI M q i := if_neg (fun z => h z.2)
theorem wrI_J {M : AM} {r j : Nat} {x : Int32} : mJ (wrI M r j x) = mJ M := rfl
theorem wrI_R {M : AM} {r j : Nat} {x : Int32} : mR (wrI M r j x) = mR M := rfl
theorem wrJ_s {M : AM} {r j : Nat} {x : Int64} : mJ (wrJ M r j x) r j = x := if_pos ⟨rfl, rfl⟩
theorem wrJ_r {M : AM} {r j q i : Nat} {x : Int64} (h : q ≠ r) : mJ (wrJ M r j x) q i = mJ M q i := if_neg (fun z => h z.1)
theorem wrJ_j {M : AM} {r j q i : Nat} {x : Int64} (h : i ≠ j) : mJ (wrJ M r j x) q i = mJ M q i := if_neg (fun z => h z.2)
theorem wrJ_I {M : AM} {r j : Nat} {x : Int64} : mI (wrJ M r j x) = mI M := rfl
theorem wrJ_R {M : AM} {r j : Nat} {x : Int64} : mR (wrJ M r j x) = mR M := rfl
theorem wrR_I {M : AM} {r j : Nat} {x : Option Nat} : mI (wrR M r j x) = mI M := rfl
theorem wrR_J {M : AM} {r j : Nat} {x : Option Nat} : mJ (wrR M r j x) = mJ M := rfl
theorem wrR_s {M : AM} {r j : Nat} {x : Option Nat} : mR (wrR M r j x) r j = x := if_pos ⟨rfl, rfl⟩
theorem wrR_r {M : AM} {r j q i : Nat} {x : Option Nat} (h : q ≠ r) : mR (wrR M r j x) q i = mR M q i := if_neg (fun z => h z.1)
theorem wrR_j {M : AM} {r j q i : Nat} {x : Option Nat} (h : i ≠ j) : mR (wrR M r j x) q i = mR M q i := if_neg (fun z => h z.2)
/-! agreement off a set of places (ints and longs), references and shapes all kept -/
def Ag (S : Nat → Nat → Prop) (M M' : AM) : Prop := M'.1 = M.1 ∧ mS M' = mS M ∧ mR M' = mR M ∧ ∀ r j, ¬ S r j → mI M' r j = mI M r j ∧ mJ M' r j = mJ M r j
theorem Ag.rf {S : Nat → Nat → Prop} {M : AM} : Ag S M M := ⟨rfl, rfl, rfl, fun _ _ _ => ⟨rfl, rfl⟩⟩
theorem Ag.tr {S : Nat → Nat → Prop} {M M1 M2 : AM} (h : Ag S M M1) (k : Ag S M1 M2) : Ag S M M2 := ⟨k.1.trans h.1, k.2.1.trans h.2.1, k.2.2.1.trans h.2.2.1, fun r j hs => ⟨(k.2.2.2 r j hs).1.trans (h.2.2.2 r j hs).1, (k.2.2.2 r j hs).2.trans (h.2.2.2 r j hs).2⟩⟩
theorem Ag.mo {S S' : Nat → Nat → Prop} {M M1 : AM} (h : Ag S M M1) (k : ∀ r j, S r j → S' r j) : Ag S' M M1 := ⟨h.1, h.2.1, h.2.2.1, fun r j hs => h.2.2.2 r j (fun z => hs (k r j z))⟩
theorem Ag.wI {S : Nat → Nat → Prop} {M M1 : AM} {r j : Nat} {x : Int32} (h : Ag S M M1) (k : S r j) : Ag S M (wrI M1 r j x) := ⟨h.1, h.2.1, h.2.2.1, fun q i hs => ⟨(if_neg (fun z => hs (by rw [z.1, z.2]; exact k))).trans (h.2.2.2 q i hs).1, (h.2.2.2 q i hs).2⟩⟩
theorem Ag.wJ {S : Nat → Nat → Prop} {M M1 : AM} {r j : Nat} {x : Int64} (h : Ag S M M1) (k : S r j) : Ag S M (wrJ M1 r j x) := ⟨h.1, h.2.1, h.2.2.1, fun q i hs => ⟨(h.2.2.2 q i hs).1, (if_neg (fun z => hs (by rw [z.1, z.2]; exact k))).trans (h.2.2.2 q i hs).2⟩⟩
theorem Ag.sh {S : Nat → Nat → Prop} {M M1 : AM} (h : Ag S M M1) : Sh M M1 := ⟨h.1, h.2.1, fun r j _ => by rw [h.2.2.1]⟩
theorem Ag.st {S : Nat → Nat → Prop} {M M1 : AM} (h : Ag S M M1) (k : St M) : St M1 := k.sh h.sh
theorem Ag.mt {S : Nat → Nat → Prop} {M M1 : AM} {m : Nat} (h : Ag S M M1) (k : Mt M m) : Mt M1 m := k.sh h.sh
theorem Ag.i {S : Nat → Nat → Prop} {M M1 : AM} {r j : Nat} (h : Ag S M M1) (k : ¬ S r j) : mI M1 r j = mI M r j := (h.2.2.2 r j k).1
theorem Ag.j {S : Nat → Nat → Prop} {M M1 : AM} {r j : Nat} (h : Ag S M M1) (k : ¬ S r j) : mJ M1 r j = mJ M r j := (h.2.2.2 r j k).2
theorem Ag.r {S : Nat → Nat → Prop} {M M1 : AM} (h : Ag S M M1) : mR M1 = mR M := h.2.2.1
/-! ===== the small methods of the class ===== -/
theorem v_isOp {M : AM} (hS : St M) (x : Int32) : Ev K_X6_isOperation [aI x] M (some (aI (if 0 ≤ x.toInt ∧ x.toInt < 18 then 1 else 0))) M := by
  refine s_X6_isOperation_0 hS (fun g => ?_) (fun g1 g2 => ?_) (fun g1 g2 => ?_)
  · rw [lt32] at g
    rw [if_neg (by have : (0 : Int32).toInt = 0 := rfl; omega)]; exact ⟨rfl, rfl⟩
  · rw [le32] at g2
    rw [if_neg (by have : (18 : Int32).toInt = 18 := rfl; omega)]; exact ⟨rfl, rfl⟩
  · rw [lt32] at g1
    rw [le32] at g2
    rw [if_pos (by have : (18 : Int32).toInt = 18 := rfl; have : (0 : Int32).toInt = 0 := rfl; omega)]; exact ⟨rfl, rfl⟩
/-- a Method object with n instructions -/
def Mw (M : AM) (m n : Nat) : Prop := Mt M m ∧ mI M m 7 = nI n ∧ n ≤ 120
theorem v_has {M : AM} {m n : Nat} (hS : St M) (h : Mw M m n) (x : Int64) : Ev K_X4_has [aR (some m), aJ x] M (some (aI (if 0 ≤ x.toInt ∧ x.toInt < n then 1 else 0))) M := by
  have e0 : (0 : Int64).toInt = 0 := rfl
  have e1 : (nI n).toInt64.toInt = n := by rw [l2, ci _ (by have := h.2.2; omega)]
  refine s_X4_has_0 hS h.1 (fun g => ?_) (fun g1 g2 => ?_) (fun g1 g2 => ?_)
  · rw [lt64] at g
    rw [if_neg (by omega)]; exact ⟨rfl, rfl⟩
  · rw [h.2.1, lt64, e1] at g2
    rw [if_neg (by omega)]; exact ⟨rfl, rfl⟩
  · rw [lt64] at g1
    rw [h.2.1, lt64, e1] at g2
    rw [if_pos (by omega)]; exact ⟨rfl, rfl⟩
theorem v_heightAt {M : AM} {m n : Nat} (hS : St M) (h : Mw M m n) (x : Int32) : Ev K_X4_heightAt [aR (some m), aI x] M (some (aI (if 0 ≤ x.toInt ∧ x.toInt < n then mI M (m + 4) x.toInt.toNat else -1))) M := by
  have hc := v_has hS h x.toInt64
  rw [l2] at hc
  by_cases g : 0 ≤ x.toInt ∧ x.toInt < n
  · rw [if_pos g] at hc ⊢
    refine s_X4_heightAt_0 hS h.1 hc (fun z => absurd z (by decide)) (fun _ => in_x g.1 (by have := h.2.2; omega)) (fun _ => ⟨?_, rfl⟩)
    rw [x_n g.1, cl_n (by have := rng32 x; omega)]
    rw [ci _ (by have := rng32 x; omega)]
    simp
  · rw [if_neg g] at hc ⊢
    exact s_X4_heightAt_0 hS h.1 hc (fun _ => ⟨rfl, rfl⟩) (fun z => absurd rfl z) (fun z => absurd rfl z)
theorem v_isMet {M : AM} {m n : Nat} (hS : St M) (h : Mw M m n) {i : Nat} (hi : i < n) : Ev K_X4_isMet [aR (some m), aI (nI i)] M (some (aI (if mI M (m + 4) i = -1 then 0 else 1))) M := by
  have hc := v_heightAt hS h (nI i)
  have e := ci i (by have := h.2.2; omega)
  rw [e, if_pos ⟨by omega, by omega⟩] at hc
  rw [show ((i : Int)).toNat = i by omega] at hc
  by_cases g : mI M (m + 4) i = -1
  · rw [if_pos g]
    exact s_X4_isMet_0 hS h.1 hc (fun _ => ⟨rfl, rfl⟩) (fun z => absurd g z)
  · rw [if_neg g]
    exact s_X4_isMet_0 hS h.1 hc (fun z => absurd z g) (fun _ => ⟨rfl, rfl⟩)
theorem v_isSound {M : AM} {m : Nat} (hS : St M) (h : Mt M m) : Ev K_X4_isSound [aR (some m)] M (some (aI (if mI M m 8 = 0 then 1 else 0))) M := by
  refine s_X4_isSound_0 hS h (fun g => ?_) (fun g => ?_)
  · rw [if_neg g]; exact ⟨rfl, rfl⟩
  · rw [if_pos g]; exact ⟨rfl, rfl⟩
theorem v_fail {M : AM} {m : Nat} (hS : St M) (h : Mt M m) (x y : Int32) : Ev K_X4_fail [aR (some m), aI x, aI y] M none (wrI (wrI M m 8 x) m 9 y) := s_X4_fail_0 hS h ⟨rfl, rfl⟩
/-- the class's table of METHODS: c of them, the j-th at mr j -/
def Pw (M : AM) (c : Nat) (mr : Nat → Nat) : Prop := mI M 4 2 = nI c ∧ c ≤ 32 ∧ (∀ j, j < c → mR M 5 j = some (mr j) ∧ Mt M (mr j)) ∧ ∀ i j, i < c → j < c → i < j → mr i + 5 ≤ mr j
theorem v_find {M : AM} {c : Nat} {mr : Nat → Nat} (hS : St M) (h : Pw M c mr) (x : Int64) : Ev K_X5_find [aR (some 4), aJ x] M (some (aR (if 0 ≤ x.toInt ∧ x.toInt < c then some (mr x.toInt.toNat) else none))) M := by
  have e0 : (0 : Int64).toInt = 0 := rfl
  have e1 : (nI c).toInt64.toInt = c := by rw [l2, ci _ (by have := h.2.1; omega)]
  have hc := h.2.1
  by_cases g : 0 ≤ x.toInt ∧ x.toInt < c
  · rw [if_pos g]
    have ex := x_l g.1 (by omega)
    refine s_X5_find_0 (o103 := some (mr x.toInt.toNat)) hS (fun g1 => ?_) (fun g1 g2 => ?_) (fun g1 g2 => ?_) (fun g1 g2 => ?_) (fun g1 g2 => ⟨rfl, rfl⟩)
    · rw [lt64] at g1; omega
    · rw [h.1, lt64, e1] at g2; omega
    · rw [ex]; exact in_n (by omega) (by omega)
    · rw [ex, cl_n (by omega)]; exact (h.2.2.1 _ (by omega)).1
  · rw [if_neg g]
    refine s_X5_find_0 (o103 := none) hS (fun g1 => ⟨rfl, rfl⟩) (fun g1 g2 => ⟨rfl, rfl⟩) (fun g1 g2 => ?_) (fun g1 g2 => ?_) (fun g1 g2 => ⟨rfl, rfl⟩)
    · rw [lt64] at g1; rw [h.1, lt64, e1] at g2; omega
    · rw [lt64] at g1; rw [h.1, lt64, e1] at g2; omega
theorem v_findn {M : AM} {c : Nat} {mr : Nat → Nat} (hS : St M) (h : Pw M c mr) {j : Nat} (hj : j < c) : Ev K_X5_find [aR (some 4), aJ (nI j).toInt64] M (some (aR (some (mr j)))) M := by
  have := v_find hS h (nI j).toInt64
  rw [l2, ci j (by have := h.2.1; omega), if_pos ⟨by omega, by omega⟩, show ((j : Int)).toNat = j by omega] at this
  exact this
theorem v_costOf {M : AM} (hS : St M) {x : Int32} (h0 : 0 ≤ x.toInt) (h1 : x.toInt < 18) : Ev K_X5_costOf [aR (some 4), aI x] M (some (aI (mI M 6 x.toInt.toNat))) M := by
  have hc := v_isOp hS x
  rw [if_pos ⟨h0, h1⟩] at hc
  refine s_X5_costOf_0 hS hc (fun z => absurd z (by decide)) (fun _ => in_x h0 h1) (fun _ => ⟨?_, rfl⟩)
  rw [x_n h0, cl_n (by omega), ci _ (by omega)]
  simp
theorem v_price {M : AM} (hS : St M) {x y : Int32} (h0 : 0 ≤ x.toInt) (h1 : x.toInt < 18) : Ev K_X5_price [aR (some 4), aI x, aI y] M (some (aI (mI M 6 x.toInt.toNat))) (wrI M 6 x.toInt.toNat y) := by
  have hc := v_isOp hS x
  rw [if_pos ⟨h0, h1⟩] at hc
  refine s_X5_price_0 hS (v_costOf hS h0 h1) hc (fun z => absurd z (by decide)) (fun _ => in_x h0 h1) (fun _ => ⟨rfl, ?_⟩)
  rw [x_n h0, cl_n (by omega), ci _ (by omega)]
  simp
theorem v_replace {M : AM} {m n : Nat} (hS : St M) (h : Mw M m n) {i : Nat} (hi : i < n) (x : Int32) (y : Int64) : Ev K_X4_replace [aR (some m), aI (nI i), aI x, aJ y] M (some (aI (mI M (m + 1) i))) (wrI (wrJ (wrI M (m + 1) i x) (m + 2) i y) m 10 0) := by
  have hn := h.2.2
  have hc := v_has hS h (nI i).toInt64
  rw [l2, ci i (by omega), if_pos ⟨by omega, by omega⟩] at hc
  refine s_X4_replace_0 hS h.1 hc (fun _ => in_n (by omega) (by omega)) (fun _ => ?_) (fun z => absurd z (by decide))
  rw [cl_n (by omega)]
  exact ⟨rfl, rfl⟩
theorem v_append {M : AM} {m n : Nat} (hS : St M) (h : Mw M m n) (hn : n < 120) (x : Int32) (y : Int64) : Ev K_X4_append [aR (some m), aI x, aJ y] M (some (aI (nI n))) (wrI (wrJ (wrI (wrI M m 7 (nI (n + 1))) (m + 1) n x) (m + 2) n y) m 10 0) := by
  have hS1 : St (wrI M m 7 (nI (n + 1))) := hS.sh Sh.wI
  have h1 : Mw (wrI M m 7 (nI (n + 1))) m (n + 1) := ⟨h.1.sh Sh.wI, wrI_s, by omega⟩
  have hr := v_replace hS1 h1 (i := n) (by omega) x y
  have e : mI M m 7 + 1 = nI (n + 1) := by rw [h.2.1]; exact nI_1 n
  refine s_X4_append_0 (x102 := mI (wrI M m 7 (nI (n + 1))) (m + 1) n) hS h.1 (fun _ => ?_) (fun _ => ⟨by rw [h.2.1], rfl⟩) (fun g => ?_)
  · rw [e, h.2.1]; exact hr
  · rw [h.2.1, lt32, ci _ (by omega)] at g; have e9 : (120 : Int32).toInt = 120 := rfl; omega
theorem v_appendF {M : AM} {m : Nat} (hS : St M) (h : Mw M m 120) (x : Int32) (y : Int64) : Ev K_X4_append [aR (some m), aI x, aJ y] M (some (aI (-1))) M := by
  refine s_X4_append_0 (x102 := 0) (M1 := M) hS h.1 (fun g => ?_) (fun g => ?_) (fun _ => ⟨rfl, rfl⟩)
  · rw [h.2.1, lt32, ci _ (by omega)] at g; have e9 : (120 : Int32).toInt = 120 := rfl; omega
  · rw [h.2.1, lt32, ci _ (by omega)] at g; have e9 : (120 : Int32).toInt = 120 := rfl; omega
