/-! ===== PURE: run ===== -/
section PUB
variable {P : PG} {mr : Nat → Nat} {ct : Nat → Nat}
theorem SR.aq {M M' : AM} (h : SR M P mr ct) (hc : AC M P mr) (a : Aq S1824 M M') : SR M' P mr ct := by
  obtain ⟨hS, hR, hH, hM, hC, h2⟩ := h
  have hc' := hc.aq hS a (fun _ _ z => z)
  have hm : RM (M'.1, M'.2.1, M'.2.2.1, M'.2.2.2.1, mR M) P := hM.ag a.ag (fun i => by unfold S1824; omega)
  refine ⟨a.st hS, hc'.1, fun j hj => ?_, hm, fun k hk => ?_, fun k hk => ?_⟩
  · obtain ⟨c, c1, c2, c3⟩ := hH j hj
    have := hR.m hj
    exact ⟨c, c1, (a.i (by unfold S1824; omega)).trans c2, fun _ => hc'.2 j hj⟩
  · rw [a.i (by unfold S1824; omega)]; exact hC k hk
  · rw [a.j (by unfold S1824; omega)]; exact h2 k hk
theorem nfr_c {c : Nat} {w1 w2 : Nat → Int64} (h : ∀ x, x < pA P c → w1 x = w2 x) : nfr P c w1 = nfr P c w2 := by
  unfold nfr
  have : (fun x => if x < pA P c then w1 x else 0) = (fun x => if x < pA P c then w2 x else 0) := by
    funext x
    by_cases e : x < pA P c
    · rw [if_pos e, if_pos e, h x e]
    · rw [if_neg e, if_neg e]
  rw [this]
theorem L_run {M : AM} (h : GRel M) (x1 x2 : Int32) : ∃ M1 k M2 b, Tv K_L_run [aR (some 3), aI x1, aI x2, aR (some 57)] M (.inl (some (aI k), M1)) ∧ St M1 ∧ Ev K_X7_run [aR (some 26), aI x1, aI x2] M1 (some (aI b)) M2 ∧ mI M2 26 9 = k ∧ (k = 0 → mJ M2 57 0 = b.toInt64) ∧ GRel M2 ∧ Rmm M M2 := by
  have hG := h
  obtain ⟨⟨P, mr, ct, hs⟩, hv⟩ := hG
  have hS := hs.1
  have h58 := hS.1
  have hP := hs.pd
  obtain ⟨kn, un⟩ := v_known hs x1
  have z0 : (0 : Int32).toInt = 0 := rfl
  have zm : (100000 : Int32).toInt = 100000 := rfl
  by_cases g : 0 ≤ x1.toInt ∧ x1.toInt < pc P
  · have kn' := kn g
    have h32 := hs.2.2.2.1.2.1
    have ex : x1 = nI x1.toInt.toNat := x_n g.1
    generalize hj : x1.toInt.toNat = j at *
    subst ex
    have hjp : j < pc P := by omega
    have cj := cl_n (n := j) (by omega)
    obtain ⟨a, a1, a2, a3, a4⟩ := hv.2.1
    have e0 : mI M (mr j) 0 = nI (pA P j) := (hs.2.1.2 j hjp).1
    have h8 : pA P j ≤ 8 := (hs.2.1.2 j hjp).2.1
    have e27 : mI M 27 j = nI (pA P j) := ((hs.2.2.2.1.2.2 j hjp).2.2.2.2.1 j hjp).1
    by_cases g2 : a = pA P j ∧ 0 ≤ x2.toInt ∧ x2.toInt ≤ 100000
    · obtain ⟨g21, g22, g23⟩ := g2
      subst g21
      have ey : x2 = nI x2.toInt.toNat := x_n g22
      have hlim : x2.toInt.toNat ≤ 100000 := by omega
      generalize hl : x2.toInt.toNat = lim at *
      subst ey
      have q1 : mI M 3 5 = mI M (mr j) 0 := by rw [a2, e0]
      have b0 : Ag (fun r i => r = 3 ∧ i = 5) M (wrI M 3 5 0) := Ag.rf.wI (by omega)
      have hs0 : SR (wrI M 3 5 0) P mr ct := hs.kq b0.kq (fun r i z => by unfold Ns; omega)
      obtain ⟨Mr, er, ar, hsr, hac⟩ := hs0.rf
      obtain ⟨Mc, v, q, ec, cq, aq, cn, cs⟩ := v_perform (ct := ct) (j := j) (lim := lim) hP hjp hlim hsr.1 hac hsr.2.2.2.2.1
      have hsc := hsr.aq hac aq
      have c1 : Ag (fun r i => r = 57) Mc (wrJ Mc 57 0 v.toInt64) := Ag.rf.wJ rfl
      have hs1 : SR (wrJ Mc 57 0 v.toInt64) P mr ct := hsc.kq c1.kq (fun r i z => by unfold Ns; omega)
      have f27 : mI (wrJ Mc 57 0 v.toInt64) 26 27 = nI (pA P j) := by
        rw [wrJ_I, aq.i (by unfold S1824; omega), ar.i (by unfold SRf; omega), wrI_r (by omega)]; exact a3
      obtain ⟨mN', mS'⟩ := v_mrun (ct := ct) (lim := lim) hP hjp hlim hs1.1 hs1.2.2.2.1 hs1.2.2.2.2.2 (fun k hk => (hs1.2.2.2.2.1 k hk).2) f27
      -- the class's call
      have hrun : Tv K_L_run [aR (some 3), aI (nI j), aI (nI lim), aR (some 57)] M (.inl (some (aI 0), wrJ Mc 57 0 v.toInt64)) := by
        refine s_L_run_0ok (M1 := Mc) (x101 := v) hS ?_ hsc.1 v01 (by rw [z0c])
        apply s_X6_run_0ok (r1 := mr j) (M2 := Mr) (M3 := Mc) (x104 := v) hS kn'.1 kn'.2
        case c4 => intros; exact er
        case c5 => intros; exact ec
        case k6 => intros; rfl
        case k8 => intro z; exact absurd q1 z
        case k3 => intro _ z; exfalso; simp only [lt32, le32, eq32, lt64, le64, eq64, Int32.reduceToInt, Int64.reduceToInt] at z; omega
        case k7 => intro _ _ z; exfalso; simp only [lt32, le32, eq32, lt64, le64, eq64, Int32.reduceToInt, Int64.reduceToInt] at z; omega
      -- one end for both
      have hend : ∃ M2, Ev K_X7_run [aR (some 26), aI (nI j), aI (nI lim)] (wrJ Mc 57 0 v.toInt64) (some (aI v)) M2 ∧ MQq M2 q ∧ mI M2 26 9 = 0 ∧ mI M2 26 27 = 0 ∧ Ag SMrn (wrJ Mc 57 0 v.toInt64) M2 := by
        by_cases hsd : Sd (DP P j)
        · obtain ⟨Mm, m1, m2, m3, m4, m5⟩ := mS' hsd
          have hw : nfr P j (fun x => mJ (wrJ Mc 57 0 v.toInt64) 50 x) = nfr P j (fun x => mJ Mr 25 x) := nfr_c (fun x hx => by
            have w1 : mJ (wrJ Mc 57 0 v.toInt64) 50 x = mJ M 50 x := by
              rw [wrJ_r (by omega), aq.j (by unfold S1824; omega), ar.j (by unfold SRf; omega), wrI_J]
            have w2 : mJ Mr 25 x = mJ M 25 x := by rw [ar.j (by unfold SRf; omega), wrI_J]
            show mJ (wrJ Mc 57 0 v.toInt64) 50 x = mJ Mr 25 x
            rw [w1, w2]; exact (a4 x hx).symm)
          rw [hw] at m1
          obtain ⟨Mm', k1, k2, k3⟩ := cs hsd Mm (nI j) (nI (pA P j)) m1
          exact ⟨Mm', m5 _ _ (k1 _), k2, (k3.i (by unfold SMr; omega)).trans m2, (k3.i (by unfold SMr; omega)).trans m3, m4.tr (k3.mo (fun r i z => by unfold SMr at z; unfold SMrn; omega))⟩
        · obtain ⟨M2, m1, m2, m3, m4, m5, -⟩ := mN' hsd
          obtain ⟨w1, w2⟩ := cn hsd
          subst w1 w2
          exact ⟨M2, m1, m2, m3, m4, m5⟩
      obtain ⟨M2, w1, w2, w3, w4, w5⟩ := hend
      have n5 : mI M2 3 5 = 0 := by
        rw [w5.i (by unfold SMrn; omega), wrJ_I, aq.i (by unfold S1824; omega), ar.i (by unfold SRf; omega), wrI_s]
      have hvp : GP M ∧ GT M := ⟨hv.1, hv.2.2.1⟩
      have gp0 := hvp.1.kq hS b0.kq (by omega)
      have gt0 := hvp.2.kq hS b0.kq (fun r i z => by omega)
      have gpr := gp0.kq hs0.1 ar.kq (by unfold SRf; omega)
      have gtr := gt0.kq hs0.1 ar.kq (fun r i z => by unfold SRf at z; omega)
      have gpc0 := gpr.kq hsr.1 aq.ag.kq (by unfold S1824; omega)
      have gtc0 := gtr.kq hsr.1 aq.ag.kq (fun r i z => by unfold S1824 at z; omega)
      have gpc : GP Mc := gpc0
      have gtc : GT Mc := gtc0
      have gp1 := gpc.kq hsc.1 c1.kq (by omega)
      have gt1 := gtc.kq hsc.1 c1.kq (fun r i z => by omega)
      refine ⟨_, 0, M2, v, hrun, hs1.1, w1, w3, fun _ => ?_, ⟨⟨P, mr, ct, hs1.kq w5.kq (fun r i z => by unfold SMrn at z; unfold Ns; omega)⟩, gp1.kq hs1.1 w5.kq (by unfold SMrn; omega), ⟨0, by omega, n5, w4, fun x hx => by omega⟩, gt1.kq hs1.1 w5.kq (fun r i z => by unfold SMrn at z; omega), ?_⟩, Rmm.same (w5.1.trans (aq.1.trans (ar.1.trans b0.1)))⟩
      · rw [w5.j (by unfold SMrn; omega), wrJ_s]
      · obtain ⟨k1, k2, k3, k4, k5⟩ := cq
        obtain ⟨u1, u2, u3, u4, u5⟩ := w2
        have c18 : ∀ i, mJ M2 18 i = mJ Mc 18 i ∧ mI M2 18 i = mI Mc 18 i := fun i => ⟨by rw [w5.j (by unfold SMrn; omega), wrJ_r (by omega)], by rw [w5.i (by unfold SMrn; omega), wrJ_I]⟩
        unfold GN
        rw [(c18 10).1, (c18 11).1, (c18 12).2, (c18 13).2, (c18 14).2, k1, k2, k3, k4, k5, u1, u2, u3, u4, u5]
        exact ⟨rfl, rfl, rfl, rfl, rfl⟩
    · obtain ⟨t1, t2, t3, t4⟩ := h.thr 8 2
      have hno := v_noM' hs (mk_kq (S := fun _ _ => False) (k := 8) (n := 6)) (fun z => z) t1 (nI j)
      rw [if_pos g] at hno
      have mq := mk_kq (S := fun _ _ => False) (M := M) (k := 8) (n := 6)
      have ta := ci a (by omega)
      have tp := ci (pA P j) (by omega)
      have f27 : mI (mk M 8 6) 26 27 = nI a := (mq.i (by omega) (fun z => z)).trans a3
      have f27j : mI (mk M 8 6) 27 j = nI (pA P j) := (mq.i (by omega) (fun z => z)).trans e27
      refine ⟨mk M 8 6, 2, wrI (mk M 8 6) 26 9 2, 0, ?_, t1, ?_, t3, fun q => absurd q (by decide), t2, t4⟩
      · refine s_L_run_0t8 (M1 := mk M 8 6) hS ?_ rfl
        apply s_X6_run_0ok (r1 := mr j) (M2 := M) (M3 := M) (x104 := 0) hS kn'.1 kn'.2
        case k3 => intros; rfl
        case k7 => intros; rfl
        case k8 => intros; rfl
        all_goals (intro q1 q2 q3; exfalso; rw [a2, e0] at q1; simp only [lt32, le32, eq32, lt64, le64, eq64, Int32.reduceToInt, Int64.reduceToInt, ta, tp] at q1 q2 q3; omega)
      · apply s_X7_run_0 (M1 := mk M 8 6) (M2 := M) (M3 := M) (x101 := 0) t1 hno
        case b2 => intros; exact in_n (by omega) (by omega)
        case k3 => intros; exact ⟨rfl, rfl⟩
        case k4 => intros; exact ⟨rfl, rfl⟩
        case k9 => intros; exact ⟨rfl, rfl⟩
        case k10 => intro q; exact absurd rfl q
        all_goals (intro _ q1 q2 q3; exfalso; rw [cj, f27, f27j] at q1; simp only [lt32, le32, eq32, lt64, le64, eq64, Int32.reduceToInt, Int64.reduceToInt, ta, tp] at q1 q2 q3; omega)
  · obtain ⟨t1, t2, t3, t4⟩ := h.thr 10 1
    have hno := v_noM' hs (mk_kq (S := fun _ _ => False) (k := 10) (n := 6)) (fun z => z) t1 x1
    rw [if_neg g] at hno
    refine ⟨mk M 10 6, 1, wrI (mk M 10 6) 26 9 1, 0, ?_, t1, ?_, t3, fun q => absurd q (by decide), t2, t4⟩
    · exact s_L_run_0t10 (M1 := mk M 10 6) hS (s_X6_run_0thr hS (un g) rfl) rfl
    · apply s_X7_run_0 (M1 := mk M 10 6) (M2 := M) (M3 := M) (x101 := 1) t1 hno
      case k10 => intros; exact ⟨rfl, rfl⟩
      all_goals (intro q; exact absurd q (by decide))
end PUB
