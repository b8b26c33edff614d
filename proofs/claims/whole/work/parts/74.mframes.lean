/-! ===== PURE: the reference's frames ===== -/
section MDL
variable {P : PG}
def MF (P : PG) (M : AM) (n : Nat) (F : Fr) : Prop := mI M 51 n = nI (Fj F) ∧ mI M 52 n = nI (Fi F) ∧ mI M 53 n = nI (Fh F) ∧ (∀ x, x < pL P (Fj F) → mJ M 54 (16 * n + x) = Fw F x) ∧ (∀ x, x < Fh F → mJ M 55 (101 * n + x) = Fw F (pL P (Fj F) + x)) ∧ ∀ k, k < Fl F → mJ M 56 (9 * n + k + 1) = jJ (Ft F k)
def MFs (P : PG) (M : AM) : List Fr → Prop
  | [] => True
  | F :: r => MF P M r.length F ∧ MFs P M r
/-- room in each frame -/
def RmF (P : PG) (F : Fr) : Prop := Fh F ≤ 100 ∧ Fl F ≤ 8 ∧ pL P (Fj F) ≤ 16
def RmL (P : PG) : List Fr → Prop
  | [] => True
  | F :: r => RmF P F ∧ RmL P r
def MSt (P : PG) (M : AM) (F : Fr) (r : List Fr) : Prop := mI M 26 34 = nI (r.length + 1) ∧ mI M 26 35 = nI (wd P F r) ∧ MF P M r.length F ∧ MFs P M r
def SM (n : Nat) : Nat → Nat → Prop := fun r k => (r = 26 ∧ (k = 34 ∨ k = 35 ∨ k = 36)) ∨ ((r = 51 ∨ r = 52 ∨ r = 53) ∧ n ≤ k) ∨ (r = 54 ∧ 16 * n ≤ k) ∨ (r = 55 ∧ 101 * n ≤ k) ∨ (r = 56 ∧ 9 * n ≤ k)
theorem MFs.ag {n : Nat} {M M' : AM} (a : Ag (SM n) M M') : ∀ (r : List Fr), r.length ≤ n → RmL P r → MFs P M r → MFs P M' r
  | [], _, _, _ => trivial
  | F :: r, hn, hr, h => by
    have hl : (F :: r).length = r.length + 1 := rfl
    obtain ⟨⟨g1, g2, g3, g4, g5, g6⟩, g⟩ := h
    obtain ⟨⟨q1, q2, q3⟩, hr⟩ := hr
    exact ⟨⟨(a.i (by unfold SM; omega)).trans g1, (a.i (by unfold SM; omega)).trans g2, (a.i (by unfold SM; omega)).trans g3, fun x hx => (a.j (by unfold SM; omega)).trans (g4 x hx), fun x hx => (a.j (by unfold SM; omega)).trans (g5 x hx), fun k hk => (a.j (by unfold SM; omega)).trans (g6 k hk)⟩, MFs.ag a r (by omega) hr g⟩
theorem ix101 (j i : Nat) : (101 : Int32) * nI j + nI i = nI (101 * j + i) := by
  show nI 101 * nI j + nI i = _
  rw [nI_mul, nI_add]
theorem ix16 (j i : Nat) : (16 : Int32) * nI j + nI i = nI (16 * j + i) := by
  show nI 16 * nI j + nI i = _
  rw [nI_mul, nI_add]
theorem frm1 {M : AM} {n : Nat} (h : mI M 26 34 = nI (n + 1)) : mI M 26 34 - 1 = nI n := by rw [h, nI_s1 (by omega)]; rfl
theorem v_mpush {M : AM} {F : Fr} {r : List Fr} {x : Int64} {mo : Nat} (hS : St M) (h : MSt P M F r) (hr : Rm P F r) (hl : RmL P r) (hh : Fh F < 100) (hm : mI M 26 36 = nI mo) (hmo : mo ≤ 1000000) : ∃ M', Ev K_X7_push [aR (some 26), aJ x] M none M' ∧ MSt P M' (fP (pL P (Fj F)) F x) r ∧ mI M' 26 36 = nI (max mo (wd P (fP (pL P (Fj F)) F x) r)) ∧ Ag (SM r.length) M M' := by
  obtain ⟨r1, r2, r3, r4, r5, r6⟩ := hr
  obtain ⟨h1, h2, ⟨g1, g2, g3, g4, g5, g6⟩, g⟩ := h
  have ef := frm1 h1
  have cf := cl_n (n := r.length) (by omega)
  have e53 : (101 : Int32) * (mI M 26 34 - 1) + mI M 53 (mI M 26 34 - 1).toNatClampNeg = nI (101 * r.length + Fh F) := by rw [ef, cf, g3, ix101]
  have c53 := cl_n (n := 101 * r.length + Fh F) (by omega)
  have ew : wd P (fP (pL P (Fj F)) F x) r = wd P F r + 1 := by unfold wd fz; show sz P r + (pL P (Fj F) + (Fh F + 1)) + 2 * r.length = _; omega
  have hw : wd P F r ≤ 20000 := by unfold wd fz; omega
  have e35 : mI M 26 35 + 1 = nI (wd P F r + 1) := by rw [h2, nI_1]
  have a : Ag (SM r.length) M (wrI (wrI (wrI (wrJ M 55 (101 * r.length + Fh F) x) 53 r.length (nI (Fh F + 1))) 26 35 (nI (wd P F r + 1))) 26 36 (nI (max mo (wd P F r + 1)))) := (((Ag.rf.wJ (by unfold SM; omega)).wI (by unfold SM; omega)).wI (by unfold SM; omega)).wI (by unfold SM; omega)
  rw [ew]
  refine ⟨_, ?_, ⟨?_, ?_, ⟨?_, ?_, ?_, ?_, ?_, ?_⟩, MFs.ag a r (Nat.le_refl _) hl g⟩, wrI_s, a⟩
  · apply s_X7_push_0 hS
    case b1 => rw [ef]; exact in_n (by omega) (by omega)
    case b2 => rw [e53]; exact in_n (by omega) (by omega)
    case k3 =>
      intro z
      refine ⟨rfl, ?_⟩
      rw [e35, hm, nle (by omega) (by omega)] at z
      rw [e53, c53, ef, cf, g3, nI_1, e35, hm, show max mo (wd P F r + 1) = mo from by omega]
    case k4 =>
      intro z
      refine ⟨rfl, ?_⟩
      rw [e35, hm, nle (by omega) (by omega)] at z
      rw [e53, c53, ef, cf, g3, nI_1, e35, show max mo (wd P F r + 1) = wd P F r + 1 from by omega]
  · simp (disch := omega) only [wrI_s, wrI_r, wrI_j, wrJ_s, wrJ_r, wrJ_j, wrI_J, wrJ_I, wrR_I, wrR_J]; exact h1
  · simp (disch := omega) only [wrI_s, wrI_r, wrI_j, wrJ_s, wrJ_r, wrJ_j, wrI_J, wrJ_I, wrR_I, wrR_J]; rw [ew]
  · simp (disch := omega) only [wrI_s, wrI_r, wrI_j, wrJ_s, wrJ_r, wrJ_j, wrI_J, wrJ_I, wrR_I, wrR_J]; exact g1
  · simp (disch := omega) only [wrI_s, wrI_r, wrI_j, wrJ_s, wrJ_r, wrJ_j, wrI_J, wrJ_I, wrR_I, wrR_J]; exact g2
  · simp (disch := omega) only [wrI_s, wrI_r, wrI_j, wrJ_s, wrJ_r, wrJ_j, wrI_J, wrJ_I, wrR_I, wrR_J]
  · intro y hy
    have hy2 : y < pL P (Fj F) := hy
    show _ = upw (Fw F) (pL P (Fj F) + Fh F) x y
    unfold upw
    rw [if_neg (by omega)]
    simp (disch := omega) only [wrI_s, wrI_r, wrI_j, wrJ_s, wrJ_r, wrJ_j, wrI_J, wrJ_I, wrR_I, wrR_J]
    exact g4 y hy
  · intro y hy
    have hy' : y < Fh F + 1 := hy
    show _ = upw (Fw F) (pL P (Fj F) + Fh F) x (pL P (Fj F) + y)
    unfold upw
    simp (disch := omega) only [wrI_s, wrI_r, wrI_j, wrJ_s, wrJ_r, wrJ_j, wrI_J, wrJ_I, wrR_I, wrR_J]
    by_cases e : y = Fh F
    · rw [e, wrJ_s, if_pos rfl]
    · rw [wrJ_j (by omega), if_neg (by omega)]; exact g5 y (by omega)
  · intro k hk; simp (disch := omega) only [wrI_s, wrI_r, wrI_j, wrJ_s, wrJ_r, wrJ_j, wrI_J, wrJ_I, wrR_I, wrR_J]; exact g6 k hk
theorem v_mtake {M : AM} {F : Fr} {r : List Fr} (hS : St M) (h : MSt P M F r) (hr : Rm P F r) (hl : RmL P r) (hh : 1 ≤ Fh F) : ∃ M', Ev K_X7_take [aR (some 26)] M (some (aJ (Fw F (pL P (Fj F) + Fh F - 1)))) M' ∧ MSt P M' (fQ F) r ∧ mI M' 26 36 = mI M 26 36 ∧ Ag (SM r.length) M M' := by
  obtain ⟨r1, r2, r3, r4, r5, r6⟩ := hr
  obtain ⟨h1, h2, ⟨g1, g2, g3, g4, g5, g6⟩, g⟩ := h
  have ef := frm1 h1
  have cf := cl_n (n := r.length) (by omega)
  have e1 : nI (Fh F) - 1 = nI (Fh F - 1) := nI_s1 (by omega)
  have c53 := cl_n (n := 101 * r.length + (Fh F - 1)) (by omega)
  have ew : wd P (fQ F) r = wd P F r - 1 := by unfold wd fz; show sz P r + (pL P (Fj F) + (Fh F - 1)) + 2 * r.length = _; omega
  have hw : 1 ≤ wd P F r := by unfold wd fz; omega
  have e35 : mI M 26 35 - 1 = nI (wd P F r - 1) := by rw [h2, nI_s1 (by omega)]
  have a : Ag (SM r.length) M (wrI (wrI M 53 r.length (nI (Fh F - 1))) 26 35 (nI (wd P F r - 1))) := (Ag.rf.wI (by unfold SM; omega)).wI (by unfold SM; omega)
  have hv := g5 (Fh F - 1) (by omega)
  rw [show pL P (Fj F) + Fh F - 1 = pL P (Fj F) + (Fh F - 1) from by omega, ← hv]
  refine ⟨_, ?_, ⟨?_, ?_, ⟨?_, ?_, ?_, ?_, ?_, ?_⟩, MFs.ag a r (Nat.le_refl _) hl g⟩, ?_, a⟩
  · apply s_X7_take_0 hS
    case b1 => rw [ef]; exact in_n (by omega) (by omega)
    case b2 => rw [ef, cf, g3, e1, wrI_s, ix101]; exact in_n (by omega) (by omega)
    case k3 => rw [ef, cf, g3, e1, wrI_s, ix101, c53, e35]; exact ⟨rfl, rfl⟩
  · simp (disch := omega) only [wrI_s, wrI_r, wrI_j, wrJ_s, wrJ_r, wrJ_j, wrI_J, wrJ_I, wrR_I, wrR_J]; exact h1
  · simp (disch := omega) only [wrI_s, wrI_r, wrI_j, wrJ_s, wrJ_r, wrJ_j, wrI_J, wrJ_I, wrR_I, wrR_J]; rw [ew]
  · simp (disch := omega) only [wrI_s, wrI_r, wrI_j, wrJ_s, wrJ_r, wrJ_j, wrI_J, wrJ_I, wrR_I, wrR_J]; exact g1
  · simp (disch := omega) only [wrI_s, wrI_r, wrI_j, wrJ_s, wrJ_r, wrJ_j, wrI_J, wrJ_I, wrR_I, wrR_J]; exact g2
  · simp (disch := omega) only [wrI_s, wrI_r, wrI_j, wrJ_s, wrJ_r, wrJ_j, wrI_J, wrJ_I, wrR_I, wrR_J]
  · exact g4
  · intro y hy
    have hy' : y < Fh F - 1 := hy
    exact g5 y (by omega)
  · exact g6
  · simp (disch := omega) only [wrI_s, wrI_r, wrI_j, wrJ_s, wrJ_r, wrJ_j, wrI_J, wrJ_I, wrR_I, wrR_J]
def SMe (n : Nat) : Nat → Nat → Prop := fun r k => (r = 26 ∧ (k = 34 ∨ k = 35 ∨ k = 36)) ∨ (r = 54 ∧ 16 * n ≤ k)
theorem l_menter {c n W mo : Nat} (hc : c < 32) (hn : n < 100) (hW : W ≤ 20000) (hm : mo ≤ 1000000) (hL : pL P c ≤ 16) : ∀ (f k : Nat) (M : AM), 16 - k = f → k ≤ 16 → St M → mI M 29 c = nI (pL P c) → mI M 26 34 = nI n → mI M 26 35 = nI W → mI M 26 36 = nI mo →
    ∃ M', E K_X7_enter 32 [some (aR (some 26)), some (aI (nI c)), some (aI (nI k))] [] M none M' ∧ Ag (SMe n) M M' ∧ mI M' 26 34 = nI (n + 1) ∧ mI M' 26 35 = nI (W + pL P c) ∧ mI M' 26 36 = nI (max mo (W + pL P c)) ∧ (∀ x, x < k → mJ M' 54 (16 * n + x) = mJ M 54 (16 * n + x)) ∧ ∀ x, k ≤ x → x < 16 → mJ M' 54 (16 * n + x) = 0 := by
  intro f
  induction f with
  | zero =>
    intro k M hf hk hS h29 h34 h35 h36
    have e : k = 16 := by omega
    subst e
    have cc := cl_n (n := c) (by omega)
    have eW : nI W + nI (pL P c) = nI (W + pL P c) := nI_add ..
    refine ⟨wrI (wrI (wrI M 26 35 (nI (W + pL P c))) 26 34 (nI (n + 1))) 26 36 (nI (max mo (W + pL P c))), ?_, ((Ag.rf.wI (by unfold SMe; omega)).wI (by unfold SMe; omega)).wI (by unfold SMe; omega), ?_, ?_, ?_, fun _ _ => rfl, fun x h1 h2 => by omega⟩
    · apply s_X7_enter_32 hS
      case b1 => intros; exact in_n hc (by omega)
      case k2 =>
        intro _ z
        rw [cc, h29, h35, eW, h36, nle (by omega) (by omega)] at z
        refine ⟨rfl, ?_⟩
        rw [cc, h29, h35, eW, h34, nI_1, h36, show max mo (W + pL P c) = mo from by omega]
      case k3 =>
        intro _ z
        rw [cc, h29, h35, eW, h36, nle (by omega) (by omega)] at z
        refine ⟨rfl, ?_⟩
        rw [cc, h29, h35, eW, h34, nI_1, show max mo (W + pL P c) = W + pL P c from by omega]
      all_goals (intro g; exact absurd (by decide) g)
    · simp (disch := omega) only [wrI_s, wrI_r, wrI_j, wrJ_s, wrJ_r, wrJ_j, wrI_J, wrJ_I, wrR_I, wrR_J]
    · simp (disch := omega) only [wrI_s, wrI_r, wrI_j, wrJ_s, wrJ_r, wrJ_j, wrI_J, wrJ_I, wrR_I, wrR_J]
    · simp (disch := omega) only [wrI_s, wrI_r, wrI_j, wrJ_s, wrJ_r, wrJ_j, wrI_J, wrJ_I, wrR_I, wrR_J]
  | succ f ih =>
    intro k M hf hk hS h29 h34 h35 h36
    have a : Ag (SMe n) M (wrJ M 54 (16 * n + k) 0) := Ag.rf.wJ (by unfold SMe; omega)
    obtain ⟨M', hE, hA, z1, z2, z3, z4, z5⟩ := ih (k + 1) _ (by omega) (by omega) (a.st hS) (by simp (disch := omega) only [wrI_s, wrI_r, wrI_j, wrJ_s, wrJ_r, wrJ_j, wrI_J, wrJ_I, wrR_I, wrR_J]; exact h29) (by simp (disch := omega) only [wrI_s, wrI_r, wrI_j, wrJ_s, wrJ_r, wrJ_j, wrI_J, wrJ_I, wrR_I, wrR_J]; exact h34) (by simp (disch := omega) only [wrI_s, wrI_r, wrI_j, wrJ_s, wrJ_r, wrJ_j, wrI_J, wrJ_I, wrR_I, wrR_J]; exact h35) (by simp (disch := omega) only [wrI_s, wrI_r, wrI_j, wrJ_s, wrJ_r, wrJ_j, wrI_J, wrJ_I, wrR_I, wrR_J]; exact h36)
    have ei : (16 : Int32) * mI M 26 34 + nI k = nI (16 * n + k) := by rw [h34, ix16]
    have hk16 : ¬ (16 : Int32) ≤ nI k := by rw [le32, ci _ (by omega)]; have : (16 : Int32).toInt = 16 := rfl; omega
    refine ⟨M', ?_, a.tr hA, z1, z2, z3, fun x hx => ?_, fun x x1 x2 => ?_⟩
    · apply s_X7_enter_32 hS
      case b4 => intros; rw [ei]; exact in_n (by omega) (by omega)
      case k5 => intros; rw [ei, cl_n (by omega), nI_1]; exact hE
      all_goals (intro g; exact absurd g hk16)
    · rw [z4 x (by omega), wrJ_j (by omega)]
    · by_cases e : x = k
      · rw [e, z4 k (by omega), wrJ_s]
      · exact z5 x (by omega) x2
/-- enter: frame n, method c -/
theorem v_menter {M : AM} {c n W mo : Nat} (hS : St M) (hc : c < 32) (hn : n < 100) (hW : W ≤ 20000) (hm : mo ≤ 1000000) (hL : pL P c ≤ 16) (h29 : mI M 29 c = nI (pL P c)) (h34 : mI M 26 34 = nI n) (h35 : mI M 26 35 = nI W) (h36 : mI M 26 36 = nI mo) :
    ∃ M', Ev K_X7_enter [aR (some 26), aI (nI c)] M none M' ∧ Ag (SM n) M M' ∧ mI M' 26 34 = nI (n + 1) ∧ mI M' 26 35 = nI (W + pL P c) ∧ mI M' 26 36 = nI (max mo (W + pL P c)) ∧ mI M' 51 n = nI c ∧ mI M' 52 n = nI 0 ∧ mI M' 53 n = nI 0 ∧ ∀ x, x < 16 → mJ M' 54 (16 * n + x) = 0 := by
  have cn := cl_n (n := n) (by omega)
  have a : Ag (SM n) M (wrI (wrI (wrI M 51 n (nI c)) 52 n 0) 53 n 0) := ((Ag.rf.wI (by unfold SM; omega)).wI (by unfold SM; omega)).wI (by unfold SM; omega)
  obtain ⟨M', hE, hA, z1, z2, z3, z4, z5⟩ := l_menter (P := P) (c := c) (n := n) (W := W) (mo := mo) hc hn hW hm hL _ 0 _ rfl (by omega) (a.st hS) (by simp (disch := omega) only [wrI_s, wrI_r, wrI_j, wrJ_s, wrJ_r, wrJ_j, wrI_J, wrJ_I, wrR_I, wrR_J]; exact h29) (by simp (disch := omega) only [wrI_s, wrI_r, wrI_j, wrJ_s, wrJ_r, wrJ_j, wrI_J, wrJ_I, wrR_I, wrR_J]; exact h34) (by simp (disch := omega) only [wrI_s, wrI_r, wrI_j, wrJ_s, wrJ_r, wrJ_j, wrI_J, wrJ_I, wrR_I, wrR_J]; exact h35) (by simp (disch := omega) only [wrI_s, wrI_r, wrI_j, wrJ_s, wrJ_r, wrJ_j, wrI_J, wrJ_I, wrR_I, wrR_J]; exact h36)
  refine ⟨M', ?_, a.tr (hA.mo (fun r x z => by unfold SMe at z; unfold SM; omega)), z1, z2, z3, ?_, ?_, ?_, fun x hx => z5 x (by omega) hx⟩
  · apply s_X7_enter_0 hS
    case b1 => rw [h34]; exact in_n hn (by omega)
    case k2 => rw [h34, cn]; exact hE
  · rw [hA.i (by unfold SMe; omega)]; simp (disch := omega) only [wrI_s, wrI_r, wrI_j, wrJ_s, wrJ_r, wrJ_j, wrI_J, wrJ_I, wrR_I, wrR_J]
  · rw [hA.i (by unfold SMe; omega)]; simp (disch := omega) only [wrI_s, wrI_r, wrI_j, wrJ_s, wrJ_r, wrJ_j, wrI_J, wrJ_I, wrR_I, wrR_J]; rfl
  · rw [hA.i (by unfold SMe; omega)]; simp (disch := omega) only [wrI_s, wrI_r, wrI_j, wrJ_s, wrJ_r, wrJ_j, wrI_J, wrJ_I, wrR_I, wrR_J]; rfl
end MDL
