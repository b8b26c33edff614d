/-! ===== PURE: method ===== -/
theorem mk_N {M : AM} {k n : Nat} : mN (mk M k n) = mN M + 1 := rfl
theorem wI_N {M : AM} {r j : Nat} {x : Int32} : mN (wrI M r j x) = mN M := rfl
theorem wJ_N {M : AM} {r j : Nat} {x : Int64} : mN (wrJ M r j x) = mN M := rfl
theorem wR_N {M : AM} {r j : Nat} {x : Option Nat} : mN (wrR M r j x) = mN M := rfl
theorem mk_Sh {M : AM} {k n i : Nat} : mS (mk M k n) i = if i = mN M then (k, n) else mS M i := rfl
theorem wI_S {M : AM} {r j : Nat} {x : Int32} : mS (wrI M r j x) = mS M := rfl
theorem wJ_S {M : AM} {r j : Nat} {x : Int64} : mS (wrJ M r j x) = mS M := rfl
theorem wR_S {M : AM} {r j : Nat} {x : Option Nat} : mS (wrR M r j x) = mS M := rfl
theorem mk_Rr {M : AM} {k n r j : Nat} : mR (mk M k n) r j = if r = mN M then none else mR M r j := rfl
theorem mk_Ii {M : AM} {k n r j : Nat} : mI (mk M k n) r j = if r = mN M then 0 else mI M r j := rfl
theorem mk_Jj {M : AM} {k n r j : Nat} : mJ (mk M k n) r j = if r = mN M then 0 else mJ M r j := rfl
theorem wrR_Rr {M : AM} {r j q i : Nat} {x : Option Nat} : mR (wrR M r j x) q i = if q = r ∧ i = j then x else mR M q i := rfl
theorem Kq.wIn {S : Nat → Nat → Prop} {M M1 : AM} {r j : Nat} {x : Int32} (h : Kq S M M1) (hr : mN M ≤ r) : Kq S M (wrI M1 r j x) := ⟨h.1, h.2.1, fun q i hq hs => ⟨(wrI_r (by omega)).trans (h.2.2 q i hq hs).1, (h.2.2 q i hq hs).2⟩⟩
theorem Kq.wRn {S : Nat → Nat → Prop} {M M1 : AM} {r j : Nat} {x : Option Nat} (h : Kq S M M1) (hr : mN M ≤ r) : Kq S M (wrR M1 r j x) := ⟨h.1, fun q hq => ⟨(h.2.1 q hq).1, fun i => (wrR_r (by omega)).trans ((h.2.1 q hq).2 i)⟩, h.2.2⟩
section PUB
variable {P : PG} {mr : Nat → Nat} {ct : Nat → Nat}
def Mnew (M : AM) (x1 x2 x3 : Int32) : AM := wrI (wrI (wrI (wrI (wrR (mk (wrR (mk (wrR (mk (wrR (mk (wrI (wrI (wrI (mk M 4 11) (mN M) 0 x1) (mN M) 1 x2) (mN M) 2 x3) 11 120) (mN M) 3 (some (mN M + 1))) 12 120) (mN M) 4 (some (mN M + 2))) 11 120) (mN M) 5 (some (mN M + 3))) 11 120) (mN M) 6 (some (mN M + 4))) (mN M) 7 0) (mN M) 8 0) (mN M) 9 (-1)) (mN M) 10 0
theorem v_new {M : AM} {x1 x2 x3 : Int32} (hS : St M) : Tv K_X4_init [aR (some (mN M)), aI x1, aI x2, aI x3] (mk M 4 11) (.inl (none, Mnew M x1 x2 x3)) ∧ Kq (fun _ _ => False) M (Mnew M x1 x2 x3) ∧ Mt (Mnew M x1 x2 x3) (mN M) ∧ mI (Mnew M x1 x2 x3) (mN M) 0 = x1 ∧ mI (Mnew M x1 x2 x3) (mN M) 1 = x2 ∧ mI (Mnew M x1 x2 x3) (mN M) 2 = x3 ∧ mI (Mnew M x1 x2 x3) (mN M) 7 = 0 ∧ mI (Mnew M x1 x2 x3) (mN M) 10 = 0 ∧ mN (Mnew M x1 x2 x3) = mN M + 5 ∧ mU (Mnew M x1 x2 x3) = mU M + 491 := by
  have h58 := hS.1
  have kk : ∀ {S : Nat → Nat → Prop} {A B : AM} {k n : Nat}, Kq S A B → Kq S A (mk B k n) := fun h => h.tr mk_kq
  refine ⟨s_X4_init_0 (lvNew (by omega) rfl) rfl rfl, ?_, ?_, ?_, ?_, ?_, ?_, ?_, rfl, rfl⟩
  · unfold Mnew
    refine Kq.wIn ?_ (Nat.le_refl _)
    refine Kq.wIn ?_ (Nat.le_refl _)
    refine Kq.wIn ?_ (Nat.le_refl _)
    refine Kq.wIn ?_ (Nat.le_refl _)
    refine Kq.wRn (kk ?_) (Nat.le_refl _)
    refine Kq.wRn (kk ?_) (Nat.le_refl _)
    refine Kq.wRn (kk ?_) (Nat.le_refl _)
    refine Kq.wRn (kk ?_) (Nat.le_refl _)
    refine Kq.wIn ?_ (Nat.le_refl _)
    refine Kq.wIn ?_ (Nat.le_refl _)
    refine Kq.wIn ?_ (Nat.le_refl _)
    exact mk_kq
  · unfold Mnew
    refine ⟨h58, ?_, ?_, ?_, ?_, ?_, ?_, ?_, ?_, ?_, ?_⟩
    · simp only [mk_N, wI_N, wR_N]; omega
    · simp [Nat.add_assoc, mk_N, wI_N, wR_N, mk_Sh, wI_S, wR_S]
    · simp [Nat.add_assoc, mk_N, wI_N, wR_N, mk_Sh, wI_S, wR_S]
    · simp [Nat.add_assoc, mk_N, wI_N, wR_N, mk_Sh, wI_S, wR_S]
    · simp [Nat.add_assoc, mk_N, wI_N, wR_N, mk_Sh, wI_S, wR_S]
    · simp [Nat.add_assoc, mk_N, wI_N, wR_N, mk_Sh, wI_S, wR_S]
    · simp [Nat.add_assoc, mk_N, wI_N, wR_N, mk_Rr, wrI_R, wrR_Rr]
    · simp [Nat.add_assoc, mk_N, wI_N, wR_N, mk_Rr, wrI_R, wrR_Rr]
    · simp [Nat.add_assoc, mk_N, wI_N, wR_N, mk_Rr, wrI_R, wrR_Rr]
    · simp [Nat.add_assoc, mk_N, wI_N, wR_N, mk_Rr, wrI_R, wrR_Rr]
  · unfold Mnew; simp [Nat.add_assoc, mk_N, wI_N, wR_N, mk_Ii, wrI_I, wrR_I]
  · unfold Mnew; simp [Nat.add_assoc, mk_N, wI_N, wR_N, mk_Ii, wrI_I, wrR_I]
  · unfold Mnew; simp [Nat.add_assoc, mk_N, wI_N, wR_N, mk_Ii, wrI_I, wrR_I]
  · unfold Mnew; simp [Nat.add_assoc, mk_N, wI_N, wR_N, mk_Ii, wrI_I, wrR_I]
  · unfold Mnew; simp [Nat.add_assoc, mk_N, wI_N, wR_N, mk_Ii, wrI_I, wrR_I]
def newP (P : PG) (a r l : Nat) : PG := (pc P + 1, upn (pA P) (pc P) a, upn (pR P) (pc P) r, upn (pL P) (pc P) l, upn (pn P) (pc P) 0, po P, pa P)
theorem MC.cg {M : AM} {m : Nat} {D D' : DD} (h : MC M m D) (e1 : dO D' = dO D) (e2 : dA D' = dA D) (e3 : dn D' = dn D) (e4 : dL D' = dL D) (e5 : dR D' = dR D) : MC M m D' := by
  unfold MC
  rw [e1, e2, e3, e4, e5]
  exact h
theorem L_method {M : AM} (h : GRel M) (x1 x2 x3 : Int32) : ∃ M1 k M2 b, Tv K_L_method [aR (some 3), aI x1, aI x2, aI x3, aR (some 57)] M (.inl (some (aI k), M1)) ∧ St M1 ∧ Ev K_X7_method [aR (some 26), aI x1, aI x2, aI x3] M1 (some (aI b)) M2 ∧ mI M2 26 9 = k ∧ (k = 0 → mJ M2 57 0 = b.toInt64) ∧ GRel M2 ∧ Rmm M M2 := by
  have hG := h
  obtain ⟨⟨P, mr, ct, hs⟩, hv⟩ := hG
  have hS := hs.1
  have h58 := hS.1
  have z0 : (0 : Int32).toInt = 0 := rfl
  have z1 : (1 : Int32).toInt = 1 := rfl
  have z8 : (8 : Int32).toInt = 8 := rfl
  have z16 : (16 : Int32).toInt = 16 := rfl
  have z32 : (32 : Int32).toInt = 32 := rfl
  by_cases g : 0 ≤ x1.toInt ∧ x1.toInt ≤ 8 ∧ 0 ≤ x2.toInt ∧ x2.toInt ≤ 1 ∧ x1.toInt ≤ x3.toInt ∧ x3.toInt ≤ 16
  · obtain ⟨hS', hR, hH, hM, hC, h2⟩ := hs
    have hpc := hM.2.1
    have tc := ci (pc P) (by omega)
    have cc := cl_n (n := pc P) (by omega)
    by_cases e : pc P = 32
    · obtain ⟨o1, o2, o3, o4, o5⟩ := h.ok (-1 : Int32).toInt64 0
      have full : Ev K_X5_isFull [aR (some 4)] M (some (aI 1)) M := by
        apply s_X5_isFull_0 hS
        case k2 => intro _; exact ⟨rfl, rfl⟩
        case k1 => intro q; exfalso; rw [hR.1.1, lt32, tc, z32] at q; omega
      have m32 : mI (wrJ M 57 0 (-1 : Int32).toInt64) 26 4 = 32 := by rw [wrJ_I, hM.1, e]; rfl
      refine ⟨_, 0, _, -1, ?_, o1, ?_, o3, fun _ => o4, o2, o5⟩
      · refine s_L_method_0ok (M1 := M) (x101 := -1) hS ?_ hS v01 (by rw [z0c])
        apply s_X6_method_0 (M1 := M) (M3 := M) (M4 := M) (x107 := 1) (x109 := 0) hS
        case c4 => intros; exact full
        case k10 => intros; rfl
        case k1 => intro q; exfalso; simp only [lt32, le32, eq32, lt64, le64, eq64, Int32.reduceToInt, Int64.reduceToInt] at q; omega
        case k13 => intro _ q; exfalso; simp only [lt32, le32, eq32, lt64, le64, eq64, Int32.reduceToInt, Int64.reduceToInt] at q; omega
        case k2 => intro _ _ q; exfalso; simp only [lt32, le32, eq32, lt64, le64, eq64, Int32.reduceToInt, Int64.reduceToInt] at q; omega
        case k12 => intro _ _ _ q; exfalso; simp only [lt32, le32, eq32, lt64, le64, eq64, Int32.reduceToInt, Int64.reduceToInt] at q; omega
        case k3 => intro _ _ _ _ q; exfalso; simp only [lt32, le32, eq32, lt64, le64, eq64, Int32.reduceToInt, Int64.reduceToInt] at q; omega
        case k11 => intro _ _ _ _ _ q; exfalso; simp only [lt32, le32, eq32, lt64, le64, eq64, Int32.reduceToInt, Int64.reduceToInt] at q; omega
        all_goals (intro _ _ _ _ _ _ q; exact absurd q (by decide))
      · apply s_X7_method_0 o1
        case k8 => intros; exact ⟨rfl, rfl⟩
        case k1 => intro q; exfalso; simp only [lt32, le32, eq32, lt64, le64, eq64, Int32.reduceToInt, Int64.reduceToInt] at q; omega
        case k2 => intro _ q; exfalso; simp only [lt32, le32, eq32, lt64, le64, eq64, Int32.reduceToInt, Int64.reduceToInt] at q; omega
        case k3 => intro _ _ q; exfalso; simp only [lt32, le32, eq32, lt64, le64, eq64, Int32.reduceToInt, Int64.reduceToInt] at q; omega
        case k4 => intro _ _ _ q; exfalso; simp only [lt32, le32, eq32, lt64, le64, eq64, Int32.reduceToInt, Int64.reduceToInt] at q; omega
        case k5 => intro _ _ _ _ q; exfalso; simp only [lt32, le32, eq32, lt64, le64, eq64, Int32.reduceToInt, Int64.reduceToInt] at q; omega
        case k9 => intro _ _ _ _ _ q; exfalso; simp only [lt32, le32, eq32, lt64, le64, eq64, Int32.reduceToInt, Int64.reduceToInt] at q; omega
        all_goals (intro _ _ _ _ _ _ q; exact absurd m32 q)
    · have hlt : pc P < 32 := by omega
      obtain ⟨n1, n2, n3, n4, n5, n6, n7, n10, nN, nU⟩ := v_new (x1 := x1) (x2 := x2) (x3 := x3) hS
      have full : ∀ {A : AM}, St A → mI A 4 2 = nI (pc P) → Ev K_X5_isFull [aR (some 4)] A (some (aI 0)) A := by
        intro A hA h4
        apply s_X5_isFull_0 hA
        case k1 => intro _; exact ⟨rfl, rfl⟩
        case k2 => intro q; exfalso; rw [h4, lt32, tc, z32] at q; omega
      have hSn : St (Mnew M x1 x2 x3) := hS.kq n2
      have k42 : mI (Mnew M x1 x2 x3) 4 2 = nI (pc P) := (n2.i (by omega) (fun z => z)).trans hR.1.1
      generalize hMn : Mnew M x1 x2 x3 = Mn at *
      have val : nI (pc P) + 1 - 1 = nI (pc P) := by rw [nI_1, nI_s1 (by omega)]; rfl
      -- included
      have shI : Sh Mn (wrI (wrR Mn 5 (pc P) (some (mN M))) 4 2 (nI (pc P + 1))) := ⟨rfl, rfl, fun r j z => by
        refine if_neg (fun y => ?_)
        rw [y.1, hSn.2.1 5 (by omega) (by omega)] at z
        exact absurd z (by decide)⟩
      have hSi := hSn.sh shI
      have inc : Ev K_X5_include [aR (some 4), aR (some (mN M))] Mn (some (aI (nI (pc P)))) (wrI (wrR Mn 5 (pc P) (some (mN M))) 4 2 (nI (pc P + 1))) := by
        apply s_X5_include_0 (M1 := Mn) (x101 := 0) hSn n3 (full hSn k42)
        case b2 => intro _; rw [k42]; exact in_n (by omega) (by omega)
        case k3 => intro _; rw [k42, cc, val, nI_1]; exact ⟨rfl, rfl⟩
        case k4 => intro q; exact absurd rfl q
      generalize hMi : wrI (wrR Mn 5 (pc P) (some (mN M))) 4 2 (nI (pc P + 1)) = Mi at *
      have iI' : ∀ r k, ¬ (r = 4 ∧ k = 2) → mI Mi r k = mI Mn r k := fun r k z => by rw [← hMi]; exact (if_neg z).trans rfl
      have iJ' : ∀ r k, mJ Mi r k = mJ Mn r k := fun r k => by rw [← hMi]; rfl
      have i42 : mI Mi 4 2 = nI (pc P + 1) := by rw [← hMi, wrI_s]
      have iR' : ∀ k, mR Mi 5 k = if k = pc P then some (mN M) else mR Mn 5 k := fun k => by
        rw [← hMi]
        show (if 5 = 5 ∧ k = pc P then some (mN M) else mR Mn 5 k) = _
        by_cases q : k = pc P
        · rw [if_pos ⟨rfl, q⟩, if_pos q]
        · rw [if_neg (fun z => q z.2), if_neg q]
      have iN : Mi.1 = Mn.1 := by rw [← hMi]; rfl
      -- the reference
      have b1 : Ag (fun r k => r = 57 ∨ (r = 26 ∧ (k = 9 ∨ k = 4)) ∨ ((r = 27 ∨ r = 28 ∨ r = 29 ∨ r = 30) ∧ k = pc P)) Mi (wrJ Mi 57 0 (nI (pc P)).toInt64) := Ag.rf.wJ (by omega)
      have b2 : Ag (fun r k => r = 57 ∨ (r = 26 ∧ (k = 9 ∨ k = 4)) ∨ ((r = 27 ∨ r = 28 ∨ r = 29 ∨ r = 30) ∧ k = pc P)) Mi (wrI (wrI (wrI (wrI (wrI (wrI (wrJ Mi 57 0 (nI (pc P)).toInt64) 26 9 0) 27 (pc P) x1) 28 (pc P) x2) 29 (pc P) x3) 30 (pc P) 0) 26 4 (nI (pc P + 1))) := (((((b1.wI (by omega)).wI (by omega)).wI (by omega)).wI (by omega)).wI (by omega)).wI (by omega)
      have f4 : mI (wrJ Mi 57 0 (nI (pc P)).toInt64) 26 4 = nI (pc P) := by rw [wrJ_I, iI' _ _ (by omega), n2.i (by omega) (fun z => z)]; exact hM.1
      have n32 : ¬ nI (pc P) = 32 := by rw [eq32, tc, z32]; omega
      have hS1 := b1.st hSi
      have old : ∀ r k, r < mN M → ¬ (r = 4 ∧ k = 2) → mI Mi r k = mI M r k ∧ mJ Mi r k = mJ M r k := fun r k h1 h2 => ⟨(iI' r k h2).trans (n2.i h1 (fun z => z)), (iJ' r k).trans (n2.j h1 (fun z => z))⟩
      have ex1 : x1 = nI x1.toInt.toNat := x_n g.1
      have ex2 : x2 = nI x2.toInt.toNat := x_n g.2.2.1
      have ex3 : x3 = nI x3.toInt.toNat := x_n (by omega)
      generalize hM2 : wrI (wrI (wrI (wrI (wrI (wrI (wrJ Mi 57 0 (nI (pc P)).toInt64) 26 9 0) 27 (pc P) x1) 28 (pc P) x2) 29 (pc P) x3) 30 (pc P) 0) 26 4 (nI (pc P + 1)) = M2 at *
      have v27 : mI M2 27 (pc P) = x1 := by rw [← hM2]; simp (disch := omega) only [wrI_s, wrI_r, wrI_j, wrJ_s, wrJ_r, wrJ_j, wrI_J, wrJ_I, wrR_I, wrR_J]
      have v28 : mI M2 28 (pc P) = x2 := by rw [← hM2]; simp (disch := omega) only [wrI_s, wrI_r, wrI_j, wrJ_s, wrJ_r, wrJ_j, wrI_J, wrJ_I, wrR_I, wrR_J]
      have v29 : mI M2 29 (pc P) = x3 := by rw [← hM2]; simp (disch := omega) only [wrI_s, wrI_r, wrI_j, wrJ_s, wrJ_r, wrJ_j, wrI_J, wrJ_I, wrR_I, wrR_J]
      have v30 : mI M2 30 (pc P) = 0 := by rw [← hM2]; simp (disch := omega) only [wrI_s, wrI_r, wrI_j, wrJ_s, wrJ_r, wrJ_j, wrI_J, wrJ_I, wrR_I, wrR_J]
      have v4 : mI M2 26 4 = nI (pc P + 1) := by rw [← hM2]; simp (disch := omega) only [wrI_s, wrI_r, wrI_j, wrJ_s, wrJ_r, wrJ_j, wrI_J, wrJ_I, wrR_I, wrR_J]
      have v9 : mI M2 26 9 = 0 := by rw [← hM2]; simp (disch := omega) only [wrI_s, wrI_r, wrI_j, wrJ_s, wrJ_r, wrJ_j, wrI_J, wrJ_I, wrR_I, wrR_J]
      have v57 : mJ M2 57 0 = (nI (pc P)).toInt64 := by rw [← hM2]; simp (disch := omega) only [wrI_s, wrI_r, wrI_j, wrJ_s, wrJ_r, wrJ_j, wrI_J, wrJ_I, wrR_I, wrR_J]
      have kq' : Kq (fun r k => (r = 4 ∧ k = 2) ∨ r = 57 ∨ (r = 26 ∧ (k = 9 ∨ k = 4)) ∨ ((r = 27 ∨ r = 28 ∨ r = 29 ∨ r = 30) ∧ k = pc P)) M (M2.1, M2.2.1, M2.2.2.1, M2.2.2.2.1, mR M) := by
        refine ⟨?_, fun r hr => ⟨?_, fun k => rfl⟩, fun r k hr hs' => ?_⟩
        · show mN M ≤ M2.1.1
          rw [b2.1, iN]
          show mN M ≤ mN Mn
          omega
        · show mS M2 r = mS M r
          rw [b2.2.1, shI.2.1]
          exact (n2.2.1 r hr).1
        · have q1 := b2.2.2.2 r k (by omega)
          have q2 := old r k hr (by omega)
          exact ⟨q1.1.trans q2.1, q1.2.trans q2.2⟩
      have hv2 := hv.kq hS kq' (fun r k z => by unfold Nv; omega)
      have hv2' : GV M2 := hv2
      have hS2 : St M2 := b2.st hSi
      have og : ∀ r k, r < mN M → ¬ ((r = 4 ∧ k = 2) ∨ r = 57 ∨ (r = 26 ∧ (k = 9 ∨ k = 4)) ∨ ((r = 27 ∨ r = 28 ∨ r = 29 ∨ r = 30) ∧ k = pc P)) → mI M2 r k = mI M r k ∧ mJ M2 r k = mJ M r k := fun r k h1 h2 => kq'.2.2 r k h1 h2
      have nw : ∀ k, mI M2 (mN M) k = mI Mn (mN M) k := fun k => (b2.i (by omega)).trans (iI' _ _ (by omega))
      have hmr : ∀ i, i < pc P → 58 ≤ mr i ∧ mr i + 4 < mN M := fun i hi => ⟨(hR.1.2.2.1 i hi).2.1, (hR.1.2.2.1 i hi).2.2.1⟩
      have mtO : ∀ i, i < pc P → Mt M2 (mr i) := fun i hi => b2.mt ((((hR.1.2.2.1 i hi).2).kq n2).sh shI)
      have mtN : Mt M2 (mN M) := b2.mt (n3.sh shI)
      have r5 : ∀ k, mR M2 5 k = if k = pc P then some (mN M) else mR M 5 k := fun k => by
        rw [b2.r, iR' k]
        by_cases q : k = pc P
        · rw [if_pos q, if_pos q]
        · rw [if_neg q, if_neg q]; exact (n2.2.1 5 (by omega)).2 k
      refine ⟨_, 0, M2, nI (pc P), ?_, hS1, ?_, v9, fun _ => v57, ⟨⟨newP P x1.toInt.toNat x2.toInt.toNat x3.toInt.toNat, upn mr (pc P) (mN M), ct, hS2, ⟨⟨?_, ?_, fun i hi => ?_, fun i k hi hk hik => ?_⟩, fun i hi => ?_⟩, fun i hi => ?_, ⟨v4, by show pc P + 1 ≤ 32; omega, fun i hi => ?_⟩, fun k hk => ?_, fun k hk => ?_⟩, hv2'⟩, ?_⟩
      · refine s_L_method_0ok (M1 := Mi) (x101 := nI (pc P)) hS ?_ hSi v01 (by rw [z0c])
        apply s_X6_method_0 (M1 := M) (M3 := Mn) (M4 := Mi) (x107 := 0) (x109 := nI (pc P)) hS
        case c4 => intros; exact full hS hR.1.1
        case c5 => intros; exact n1
        case h6 => intros; exact hSn
        case h7 => intros; exact n3
        case c8 => intros; exact inc
        case k9 => intros; rfl
        case k1 => intro q; exfalso; simp only [lt32, le32, eq32, lt64, le64, eq64, Int32.reduceToInt, Int64.reduceToInt] at q; omega
        case k13 => intro _ q; exfalso; simp only [lt32, le32, eq32, lt64, le64, eq64, Int32.reduceToInt, Int64.reduceToInt] at q; omega
        case k2 => intro _ _ q; exfalso; simp only [lt32, le32, eq32, lt64, le64, eq64, Int32.reduceToInt, Int64.reduceToInt] at q; omega
        case k12 => intro _ _ _ q; exfalso; simp only [lt32, le32, eq32, lt64, le64, eq64, Int32.reduceToInt, Int64.reduceToInt] at q; omega
        case k3 => intro _ _ _ _ q; exfalso; simp only [lt32, le32, eq32, lt64, le64, eq64, Int32.reduceToInt, Int64.reduceToInt] at q; omega
        case k11 => intro _ _ _ _ _ q; exfalso; simp only [lt32, le32, eq32, lt64, le64, eq64, Int32.reduceToInt, Int64.reduceToInt] at q; omega
        case k10 => intro _ _ _ _ _ _ q; exact absurd rfl q
      · apply s_X7_method_0 hS1
        case b6 => intros; rw [f4]; exact in_n (by omega) (by omega)
        case k7 => intros; rw [f4, cc, val, nI_1]; exact ⟨rfl, hM2⟩
        case k8 => intro _ _ _ _ _ _ q; rw [f4] at q; exact absurd q n32
        case k1 => intro q; exfalso; simp only [lt32, le32, eq32, lt64, le64, eq64, Int32.reduceToInt, Int64.reduceToInt] at q; omega
        case k2 => intro _ q; exfalso; simp only [lt32, le32, eq32, lt64, le64, eq64, Int32.reduceToInt, Int64.reduceToInt] at q; omega
        case k3 => intro _ _ q; exfalso; simp only [lt32, le32, eq32, lt64, le64, eq64, Int32.reduceToInt, Int64.reduceToInt] at q; omega
        case k4 => intro _ _ _ q; exfalso; simp only [lt32, le32, eq32, lt64, le64, eq64, Int32.reduceToInt, Int64.reduceToInt] at q; omega
        case k5 => intro _ _ _ _ q; exfalso; simp only [lt32, le32, eq32, lt64, le64, eq64, Int32.reduceToInt, Int64.reduceToInt] at q; omega
        case k9 => intro _ _ _ _ _ q; exfalso; simp only [lt32, le32, eq32, lt64, le64, eq64, Int32.reduceToInt, Int64.reduceToInt] at q; omega
      · rw [b2.i (by omega)]; exact i42
      · show pc P + 1 ≤ 32; omega
      · have hi' : i < pc P + 1 := hi
        rw [r5 i]
        by_cases q : i = pc P
        · rw [if_pos q, q, upn_s]; exact ⟨rfl, mtN⟩
        · rw [if_neg q, upn_n q]; exact ⟨(hR.1.2.2.1 i (by omega)).1, mtO i (by omega)⟩
      · have hk' : k < pc P + 1 := hk
        by_cases q : k = pc P
        · rw [q, upn_s, upn_n (by omega)]; have := hmr i (by omega); omega
        · rw [upn_n q, upn_n (by omega)]; exact hR.1.2.2.2 i k (by omega) (by omega) hik
      · have hi' : i < pc P + 1 := hi
        show mI M2 (upn mr (pc P) (mN M) i) 0 = nI (upn (pA P) (pc P) x1.toInt.toNat i) ∧ upn (pA P) (pc P) x1.toInt.toNat i ≤ 8 ∧ upn (pA P) (pc P) x1.toInt.toNat i ≤ upn (pL P) (pc P) x3.toInt.toNat i ∧ MC M2 (upn mr (pc P) (mN M) i) (po P i, pa P i, (upn (pn P) (pc P) 0 i, upn (pL P) (pc P) x3.toInt.toNat i, upn (pR P) (pc P) x2.toInt.toNat i, pc P + 1), upn (pA P) (pc P) x1.toInt.toNat, upn (pR P) (pc P) x2.toInt.toNat)
        by_cases q : i = pc P
        · subst q
          rw [upn_s, upn_s, upn_s, upn_s, upn_s, nw]
          refine ⟨n4.trans ex1, by omega, by omega, ⟨⟨mtN, ?_, by show 0 ≤ 120; omega⟩, fun k hk => absurd hk (Nat.not_lt_zero k), ?_, ?_, ?_, ?_⟩⟩
          · rw [nw]; exact n7
          · rw [nw]; exact n5.trans ex2
          · rw [nw]; exact n6.trans ex3
          · show x2.toInt.toNat ≤ 1; omega
          · show x3.toInt.toNat ≤ 16; omega
        · have hip : i < pc P := by omega
          rw [upn_n q, upn_n q, upn_n q, upn_n q, upn_n q]
          have w := hR.2 i hip
          have hm := hmr i hip
          refine ⟨(og _ _ (by omega) (by omega)).1.trans w.1, w.2.1, w.2.2.1, MC.cg (D := DP P i) ⟨⟨mtO i hip, (og _ _ (by omega) (by omega)).1.trans w.2.2.2.1.2.1, w.2.2.2.1.2.2⟩, fun k hk => ?_, (og _ _ (by omega) (by omega)).1.trans w.2.2.2.2.2.1, (og _ _ (by omega) (by omega)).1.trans w.2.2.2.2.2.2.1, w.2.2.2.2.2.2.2⟩ rfl rfl rfl rfl rfl⟩
          rw [(og (mr i + 1) k (by omega) (by omega)).1, (og (mr i + 2) k (by omega) (by omega)).2]
          exact w.2.2.2.2.1 k hk
      · have hi' : i < pc P + 1 := hi
        by_cases q : i = pc P
        · subst q
          refine ⟨0, Nat.zero_le _, ?_, fun z => by have : (0 : Nat) = pc P + 1 := z; omega⟩
          rw [upn_s, nw]; exact n10
        · have hip : i < pc P := by omega
          have hm := hmr i hip
          obtain ⟨c, c1, c2, -⟩ := hH i hip
          refine ⟨c, by show c ≤ pc P + 1; omega, ?_, fun z => by have : c = pc P + 1 := z; omega⟩
          rw [upn_n q, (og _ _ (by omega) (by omega)).1]; exact c2
      · have hi' : i < pc P + 1 := hi
        have row : ∀ k, k < pc P + 1 → mI M2 27 k = nI (upn (pA P) (pc P) x1.toInt.toNat k) ∧ mI M2 28 k = nI (upn (pR P) (pc P) x2.toInt.toNat k) := fun k hk => by
          by_cases q : k = pc P
          · rw [q, upn_s, upn_s, v27, v28]; exact ⟨ex1, ex2⟩
          · rw [upn_n q, upn_n q, (og _ _ (by omega) (by omega)).1, (og _ _ (by omega) (by omega)).1]
            exact (hM.2.2 k (by omega)).2.2.2.2.1 k (by show k < pc P; omega)
        have dd : ∀ k, k < pc P + 1 → upn (pA P) (pc P) x1.toInt.toNat k ≤ 8 ∧ upn (pR P) (pc P) x2.toInt.toNat k ≤ 1 := fun k hk => by
          by_cases q : k = pc P
          · rw [q, upn_s, upn_s]; omega
          · rw [upn_n q, upn_n q]; exact (hM.2.2 k (by omega)).2.2.2.2.2.2.1.2.2.2.2 k (by show k < pc P; omega)
        show mI M2 30 i = nI (upn (pn P) (pc P) 0 i) ∧ (∀ k, k < upn (pn P) (pc P) 0 i → (mI M2 31 (120 * i + k)).toInt = po P i k ∧ (mJ M2 32 (120 * i + k)).toInt = pa P i k) ∧ mI M2 28 i = nI (upn (pR P) (pc P) x2.toInt.toNat i) ∧ mI M2 29 i = nI (upn (pL P) (pc P) x3.toInt.toNat i) ∧ (∀ k, k < pc P + 1 → mI M2 27 k = nI (upn (pA P) (pc P) x1.toInt.toNat k) ∧ mI M2 28 k = nI (upn (pR P) (pc P) x2.toInt.toNat k)) ∧ mI M2 26 4 = nI (pc P + 1) ∧ (upn (pn P) (pc P) 0 i ≤ 120 ∧ upn (pL P) (pc P) x3.toInt.toNat i ≤ 16 ∧ upn (pR P) (pc P) x2.toInt.toNat i ≤ 1 ∧ pc P + 1 ≤ 32 ∧ ∀ k, k < pc P + 1 → upn (pA P) (pc P) x1.toInt.toNat k ≤ 8 ∧ upn (pR P) (pc P) x2.toInt.toNat k ≤ 1) ∧ i < pc P + 1
        by_cases q : i = pc P
        · subst q
          rw [upn_s, upn_s, upn_s, v30, v28, v29]
          exact ⟨rfl, fun k hk => absurd hk (Nat.not_lt_zero k), ex2, ex3, row, v4, ⟨by omega, by omega, by omega, by omega, dd⟩, hi'⟩
        · have hip : i < pc P := by omega
          obtain ⟨m1, m2, m3, m4, m5, m6, m7, m8⟩ := hM.2.2 i hip
          rw [upn_n q, upn_n q, upn_n q]
          refine ⟨(og _ _ (by omega) (by omega)).1.trans m1, fun k hk => ?_, (og _ _ (by omega) (by omega)).1.trans m3, (og _ _ (by omega) (by omega)).1.trans m4, row, v4, ⟨m7.1, m7.2.1, m7.2.2.1, by omega, dd⟩, hi'⟩
          rw [(og _ _ (by omega) (by omega)).1, (og _ _ (by omega) (by omega)).2]
          exact m2 k hk
      · rw [(og _ _ (by omega) (by omega)).1]; exact hC k hk
      · rw [(og _ _ (by omega) (by omega)).2]; exact h2 k hk
      · unfold Rmm
        show M2.1.1 ≤ mN M + 5 ∧ M2.1.2 ≤ mU M + 500
        rw [b2.1, iN]
        show mN Mn ≤ mN M + 5 ∧ mU Mn ≤ mU M + 500
        omega
  · obtain ⟨t1, t2, t3, t4⟩ := h.thr 8 1
    refine ⟨mk M 8 6, 1, wrI (mk M 8 6) 26 9 1, 0, ?_, t1, ?_, t3, fun q => absurd q (by decide), t2, t4⟩
    · refine s_L_method_0t8 (M1 := mk M 8 6) hS ?_ rfl
      apply s_X6_method_0 (M1 := M) (M3 := M) (M4 := M) (x107 := 0) (x109 := 0) hS
      case k1 => intros; rfl
      case k2 => intros; rfl
      case k3 => intros; rfl
      case k11 => intros; rfl
      case k12 => intros; rfl
      case k13 => intros; rfl
      all_goals (intro q1 q2 q3 q4 q5 q6; exfalso; simp only [lt32, le32, eq32, lt64, le64, eq64, Int32.reduceToInt, Int64.reduceToInt] at q1 q2 q3 q4 q5 q6; omega)
    · apply s_X7_method_0 t1
      case k1 => intros; exact ⟨rfl, rfl⟩
      case k2 => intros; exact ⟨rfl, rfl⟩
      case k3 => intros; exact ⟨rfl, rfl⟩
      case k4 => intros; exact ⟨rfl, rfl⟩
      case k5 => intros; exact ⟨rfl, rfl⟩
      case k9 => intros; exact ⟨rfl, rfl⟩
      all_goals (intro q1 q2 q3 q4 q5 q6; exfalso; simp only [lt32, le32, eq32, lt64, le64, eq64, Int32.reduceToInt, Int64.reduceToInt] at q1 q2 q3 q4 q5 q6; omega)
end PUB
