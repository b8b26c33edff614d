/-! ===== PURE: the RUN of both, to its end ===== -/
section RUN
variable {P : PG} {mr : Nat → Nat} {ct : Nat → Nat}
def SDo : Nat → Nat → Prop := fun a k => (a = 26 ∧ (k = 34 ∨ k = 35 ∨ k = 36 ∨ k = 40)) ∨ (51 ≤ a ∧ a ≤ 56)
theorem STP.next {Mc Mc1 : AM} {F F' : Fr} {r r' : List Fr} {q q' : QQ} (H : STP P mr ct Mc F r q) (a : Aq S1824 Mc Mc1) (hT : CSt P mr Mc1 F' r') (hQ : CQ Mc1 q') (hO : OKL P 0 (F' :: r')) (hl : r'.length < 100) (hq : QR q') : STP P mr ct Mc1 F' r' q' :=
  ⟨a.st H.1, H.2.1.aq H.1 a (fun _ _ z => z), fun k hk => ⟨(a.i (by unfold S1824; omega)).trans (H.2.2.1 k hk).1, (H.2.2.1 k hk).2⟩, hT, hQ, hO, hl, hq⟩
theorem MSTP.next {Mm Mm1 : AM} {F F' : Fr} {r r' : List Fr} {q : QQ} {mo k : Nat} (H : MSTP P ct Mm F r q) (a : Ag SDo (Mmc P ct Mm F q) Mm1) (hT : MSt P Mm1 F' r') (h36 : mI Mm1 26 36 = nI mo) (h40 : mI Mm1 26 40 = nI (q.2.2.2.2 + k)) (hO : OKL P 0 (F' :: r')) (hl : r'.length < 100) (hmo : mo ≤ 1000000) (hw : wd P F' r' ≤ mo) : MSTP P ct Mm1 F' r' (kq q (jJ (ct (po P (Fj F) (Fi F)).toNat)) mo k) ∧ Ag SMr Mm Mm1 := by
  obtain ⟨p1, p2, p3, p4, p5, p6⟩ := H.pre
  have aa : Ag SMr Mm Mm1 := p2.tr (a.mo (fun r k z => by unfold SDo at z; unfold SMr; omega))
  exact ⟨⟨⟨a.st p1.1, p1.2.1.ag3 a (fun r k z => by unfold SDo at z; omega), hT, h36, hmo, hO, hl, hw⟩, fun k hk => (aa.j (by unfold SMr; omega)).trans (H.2.1 k hk), ⟨(a.j (by unfold SDo; omega)).trans p3, (a.j (by unfold SDo; omega)).trans p4, h36, (a.i (by unfold SDo; omega)).trans p5, h40⟩, H.2.2.2⟩, aa⟩
theorem wd_le (hP : PD P) {F : Fr} {r : List Fr} {e : Nat} (h : OKL P e (F :: r)) (hl : r.length < 100) : wd P F r ≤ 20000 := by
  obtain ⟨r1, r2, r3, r4, r5, r6⟩ := h.rm hP hl
  unfold wd fz
  omega
theorem l_run (hP : PD P) {m lim : Nat} (hl : lim ≤ 100000) : ∀ (f : Nat) (Mc : AM) (F : Fr) (r : List Fr) (q : QQ), lim - q.2.2.2.1 = f → q.2.2.2.1 ≤ lim → STP P mr ct Mc F r q → Mt Mc m → q.2.2.1 ≤ 20000 → q.2.2.2.2 ≤ q.2.2.2.1 → wd P F r ≤ q.2.2.1 →
    ∃ Mc' v q', E K_X3_perform 55 (LC m lim q.2.2.2.1) [] Mc (some (aI v)) Mc' ∧ CQ Mc' q' ∧ Aq S1824 Mc Mc' ∧ ∀ (Mm : AM) (x1 x3 : Int32), MSTP P ct Mm F r q → ∃ Mm', (∀ x4, E K_X7_run 147 (LM x1 (nI lim) x3 x4) [] Mm (some (aI v)) Mm') ∧ MQq Mm' q' ∧ Ag SMr Mm Mm' := by
  intro f
  induction f with
  | zero =>
    intro Mc F r q hf hk H1 hM hmo hca hw1
    have e : q.2.2.2.1 = lim := by omega
    refine ⟨Mc, 2, q, ?_, H1.2.2.2.2.1, Aq.rf, fun Mm x1 x3 H2 => ⟨Mm, fun x4 => h_lim H2 (by rw [e]), H2.2.2.1, Ag.rf⟩⟩
    rw [e]
    exact p_lim H1.1 hM hl
  | succ f ih =>
    intro Mc F r q hf hk H1 hM hmo hca hw1
    have hk' : q.2.2.2.1 < lim := by omega
    have hne : nI q.2.2.2.1 ≠ nI lim := by
      intro z
      rw [eq32, ci _ (by omega), ci _ (by omega)] at z
      omega
    have hO := H1.2.2.2.2.2.1
    have hln := H1.2.2.2.2.2.2.1
    have hS := H1.1
    have hpr := H1.pre
    have f0 : 0 ≤ po P (Fj F) (Fi F) := hpr.2.2.2.2.2.2.2.2.2.2.2.1
    have f1 : po P (Fj F) (Fi F) < 18 := hpr.2.2.2.2.2.2.2.2.2.2.2.2.1
    clear hpr
    -- one more step, then the rest
    have go : ∀ (Mc1 : AM) (F' : Fr) (r' : List Fr) (mo k : Nat), k ≤ 1 → Ev K_X3_doNext [aR (some 18)] Mc (some (aI 0)) Mc1 → CSt P mr Mc1 F' r' → CQ Mc1 (kq q (jJ (ct (po P (Fj F) (Fi F)).toNat)) mo k) → Aq S1824 Mc Mc1 → OKL P 0 (F' :: r') → r'.length < 100 → mo ≤ 20000 → wd P F' r' ≤ mo → (po P (Fj F) (Fi F) = 16 → 0 ≤ pa P (Fj F) (Fi F) ∧ pa P (Fj F) (Fi F) < pc P ∧ Sd (DP P (pa P (Fj F) (Fi F)).toNat) ∧ r.length < 99) →
        (∀ Mm, MSTP P ct Mm F r q → ∃ Mm1, Ev K_X7_doOne [aR (some 26), aI (nI (Fj F)), aI (nI (Fi F))] (Mmc P ct Mm F q) none Mm1 ∧ MSt P Mm1 F' r' ∧ mI Mm1 26 36 = nI mo ∧ mI Mm1 26 40 = nI (q.2.2.2.2 + k) ∧ Ag SDo (Mmc P ct Mm F q) Mm1) →
        ∃ Mc' v q', E K_X3_perform 55 (LC m lim q.2.2.2.1) [] Mc (some (aI v)) Mc' ∧ CQ Mc' q' ∧ Aq S1824 Mc Mc' ∧ ∀ (Mm : AM) (x1 x3 : Int32), MSTP P ct Mm F r q → ∃ Mm', (∀ x4, E K_X7_run 147 (LM x1 (nI lim) x3 x4) [] Mm (some (aI v)) Mm') ∧ MQq Mm' q' ∧ Ag SMr Mm Mm' := by
      intro Mc1 F' r' mo k hk1 e1 t1 u1 a1 o' l' hmo' hw hc hmm
      have S1 := H1.next a1 t1 u1 o' l' ⟨by show mo ≤ 1000000; omega, by show q.2.2.2.1 + 1 ≤ 1000000; omega, by show q.2.2.2.2 + k ≤ 1000000; omega⟩
      obtain ⟨Mc', v, q', E1, z1, z3, zz⟩ := ih Mc1 F' r' (kq q (jJ (ct (po P (Fj F) (Fi F)).toNat)) mo k) (by show lim - (q.2.2.2.1 + 1) = f; omega) (by show q.2.2.2.1 + 1 ≤ lim; omega) S1 (a1.mt hS hM) hmo' (by show q.2.2.2.2 + k ≤ q.2.2.2.1 + 1; omega) hw
      refine ⟨Mc', v, q', p_go hS hM hk' hl e1 E1, z1, a1.tr z3, fun Mm x1 x3 H2 => ?_⟩
      obtain ⟨Mm1, e2, t2, h36, h40, a2⟩ := hmm Mm H2
      have S2 := H2.next a2 t2 h36 h40 o' l' (by omega) hw
      obtain ⟨Mm', E2, z2, z4⟩ := zz Mm1 x1 x3 S2.1
      exact ⟨Mm', fun x4 => h_go H2 hne hc e2 (E2 _), z2, S2.2.tr z4⟩
    have hsm : ∀ (n a k : Nat), SM n a k → SDo a k := fun n a k z => by unfold SM at z; unfold SDo; omega
    rcases (by omega : po P (Fj F) (Fi F) ≤ 11 ∨ (12 ≤ po P (Fj F) (Fi F) ∧ po P (Fj F) (Fi F) ≤ 15) ∨ po P (Fj F) (Fi F) = 16 ∨ po P (Fj F) (Fi F) = 17) with e | e | e | e
    · obtain ⟨Mc1, e1, t1, u1, a1⟩ := c_hand hP H1 e
      have hx := hO.1.nx hP (by omega) (by omega)
      have hO' : OKL P 0 (nf P F :: r) := ⟨hx.1, by rw [hx.2]; exact hO.2⟩
      have hw := wd_le hP hO' hln
      refine go Mc1 _ r _ 0 (by omega) e1 t1 u1 a1 hO' hln (by omega) (by omega) (fun z => by omega) (fun Mm H2 => ?_)
      obtain ⟨q1, q2, q3, q4, q5, q6⟩ := H2.pre
      obtain ⟨Mm1, e2, t2, h36, a2⟩ := m_hand hP q1 e
      exact ⟨Mm1, e2, t2, h36, (a2.i (by unfold SM; omega)).trans q6, a2.mo (hsm _)⟩
    · obtain ⟨Mc1, e1, t1, u1, a1⟩ := c_flow hP H1 e.1 e.2
      have hx := hO.1.nx hP (by omega) (by omega)
      have hO' : OKL P 0 (nf P F :: r) := ⟨hx.1, by rw [hx.2]; exact hO.2⟩
      have hw := wd_le hP hO' hln
      refine go Mc1 _ r _ 0 (by omega) e1 t1 u1 a1 hO' hln (by omega) (by omega) (fun z => by omega) (fun Mm H2 => ?_)
      obtain ⟨q1, q2, q3, q4, q5, q6⟩ := H2.pre
      obtain ⟨Mm1, e2, t2, h36, a2⟩ := m_flow hP q1 e.1 e.2
      exact ⟨Mm1, e2, t2, h36, (a2.i (by unfold SM; omega)).trans q6, a2.mo (hsm _)⟩
    · have hca' := hO.1.call hP e
      by_cases hs : Sd (DP P (pa P (Fj F) (Fi F)).toNat)
      · by_cases h99 : r.length = 99
        · obtain ⟨Mc1, e1, u1⟩ := c_call3 hP H1 e hs h99
          rw [u1] at e1
          exact ⟨Mc, 3, q, p_end hS hM hk' hl (by decide) e1, H1.2.2.2.2.1, Aq.rf, fun Mm x1 x3 H2 => ⟨Mm, fun x4 => (h_ref H2 hne e ⟨hca'.1, hca'.2.1⟩).2 hs h99, H2.2.2.1, Ag.rf⟩⟩
        · obtain ⟨Mc1, e1, t1, u1, a1⟩ := c_call hP H1 e hs (by omega)
          have hO' : OKL P 0 (ef P F :: cf P F :: r) := ⟨OKF.new hP (by omega) hs _, hca'.2.2.2, hO.2⟩
          have hl' : (cf P F :: r).length < 100 := by show r.length + 1 < 100; omega
          have hw := wd_le hP hO' hl'
          refine go Mc1 _ _ _ 1 (by omega) e1 t1 u1 a1 hO' hl' (by omega) (by omega) (fun _ => ⟨hca'.1, hca'.2.1, hs, by omega⟩) (fun Mm H2 => ?_)
          obtain ⟨q1, q2, q3, q4, q5, q6⟩ := H2.pre
          obtain ⟨Mm1, e2, t2, h36, h40, a2⟩ := m_call (ca := q.2.2.2.2) hP q1 e (by omega) q6
          exact ⟨Mm1, e2, t2, h36, h40, a2.mo (fun a k z => z.elim (hsm _ a k) (fun y => by unfold SDo; omega))⟩
      · obtain ⟨Mc1, e1, u1⟩ := c_call4 hP H1 e hs
        rw [u1] at e1
        exact ⟨Mc, 4, q, p_end hS hM hk' hl (by decide) e1, H1.2.2.2.2.1, Aq.rf, fun Mm x1 x3 H2 => ⟨Mm, fun x4 => (h_ref H2 hne e ⟨hca'.1, hca'.2.1⟩).1 hs, H2.2.2.1, Ag.rf⟩⟩
    · cases r with
      | nil =>
        obtain ⟨Mc1, e1, u1, a1⟩ := c_ret0 hP H1 e
        refine ⟨Mc1, 1, _, p_end hS hM hk' hl (by decide) e1, u1, a1, fun Mm x1 x3 H2 => ?_⟩
        obtain ⟨q1, q2, q3, q4, q5, q6⟩ := H2.pre
        obtain ⟨Mm1, e2, g1, g2, g3, a2⟩ := m_ret0 hP q1 e
        have aa : Ag SMr Mm Mm1 := q2.tr (a2.mo (fun r k z => by unfold SM at z; unfold SMr; omega))
        refine ⟨Mm1, fun x4 => h_go H2 hne (fun z => by omega) e2 (h_end (a2.st q1.1) g1), ?_, aa⟩
        exact ⟨g2, (a2.j (by unfold SM; omega)).trans q4, g3, (a2.i (by unfold SM; omega)).trans q5, (a2.i (by unfold SM; omega)).trans q6⟩
      | cons G s =>
        obtain ⟨Mc1, e1, t1, u1, a1⟩ := c_ret1 hP H1 e
        have hll : (G :: s).length = s.length + 1 := rfl
        have hb := OKF.bk (F := F) (G := G) hO.2.1 (hO.1.rng hP).2.2.2.1
        have hO' : OKL P 0 (bf P F G :: s) := ⟨hb.1, by rw [hb.2]; exact hO.2.2⟩
        have hw : wd P (bf P F G) s ≤ q.2.2.1 := by
          have eW : wd P F (G :: s) = sz P s + (pL P (Fj G) + Fh G) + (pL P (Fj F) + Fh F) + 2 * (s.length + 1) := rfl
          have hb1 : wd P (bf P F G) s ≤ sz P s + (pL P (Fj G) + (Fh G + 1)) + 2 * s.length := by
            unfold bf
            by_cases z : 0 < pR P (Fj F)
            · rw [if_pos z]; exact Nat.le_refl _
            · rw [if_neg z]; unfold wd fz; omega
          omega
        refine go Mc1 _ _ _ 0 (by omega) e1 t1 u1 a1 hO' (by omega) hmo hw (fun z => by omega) (fun Mm H2 => ?_)
        obtain ⟨q1, q2, q3, q4, q5, q6⟩ := H2.pre
        obtain ⟨Mm1, e2, t2, h36, a2⟩ := m_ret1 hP q1 e
        exact ⟨Mm1, e2, t2, h36, (a2.i (by unfold SM; omega)).trans q6, a2.mo (hsm _)⟩
end RUN
