/-! ===== PURE: the reference's sums are the lengths ===== -/
section VAL
variable {D : DD} {ct : Nat → Nat} {T : Nat → Option Nat} {j : Nat}
def Pend (D : DD) (i : Nat) (s : Nat → Option Nat) (G : Nat → Option Nat) (x : Int) : Prop := ∀ p, i ≤ p → p < dn D → Le (pl (s p) (G p)) x
def upO (s : Nat → Option Nat) (t : Nat) (v : Option Nat) : Nat → Option Nat := fun p => if p = t then v else s p
theorem Pend.split {i : Nat} {s G : Nat → Option Nat} {x : Int} (h : i < dn D) : Pend D i s G x ↔ Pend D (i + 1) s G x ∧ Le (pl (s i) (G i)) x := by
  constructor
  · exact fun z => ⟨fun p h1 h2 => z p (by omega) h2, z i (by omega) h⟩
  · intro z p h1 h2
    by_cases e : p = i
    · rw [e]; exact z.2
    · exact z.1 p (by omega) h2
theorem Pend.up {i t : Nat} {s G : Nat → Option Nat} {v : Option Nat} {x : Int} (h1 : i ≤ t) (h2 : t < dn D) : Pend D i (upO s t (mx (s t) v)) G x ↔ Pend D i s G x ∧ Le (pl v (G t)) x := by
  have e : ∀ p, p ≠ t → upO s t (mx (s t) v) p = s p := fun p z => if_neg z
  have et : upO s t (mx (s t) v) t = mx (s t) v := if_pos rfl
  constructor
  · intro z
    have zt := z t h1 h2
    rw [et, pl_mx, Le.mx] at zt
    refine ⟨fun p q1 q2 => ?_, zt.2⟩
    by_cases c : p = t
    · rw [c]; exact zt.1
    · have := z p q1 q2
      rw [e p c] at this
      exact this
  · intro z p q1 q2
    by_cases c : p = t
    · rw [c, et, pl_mx, Le.mx]
      exact ⟨z.1 t h1 h2, z.2⟩
    · rw [e p c]
      exact z.1 p q1 q2
def RX (D : DD) (ct : Nat → Nat) (T : Nat → Option Nat) (l0 : Nat) (s0 : List Nat) (i : Nat) (M : AM) (bk wh : Int64) (A B : Int → Prop) : Prop :=
  ∃ (s : Nat → Option Nat) (w b : Option Nat), (∀ p, i ≤ p → p ≤ dn D → mJ M 46 p = sJ (s p)) ∧ (∀ p, i ≤ p → s p ≠ none → p < dn D ∧ 0 ≤ HH D p ∧ stk D p = s0) ∧ wh = sJ w ∧ bk = sJ b ∧ (∀ x, Le (FF2 D ct T l0).1 x ↔ Le w x ∧ Pend D i s (fun p => (FF2 D ct T p).1) x ∧ A x) ∧ (∀ x, Le (FF2 D ct T l0).2 x ↔ Le b x ∧ Pend D i s (fun p => (FF2 D ct T p).2) x ∧ B x)
abbrev TT : Int → Prop := fun _ => True
variable {l0 : Nat} {s0 : List Nat} {i : Nat} {M : AM} {bk wh : Int64} {A B A' B' : Int → Prop}
theorem RX.iff (h : RX D ct T l0 s0 i M bk wh A B) (ha : ∀ x, A x ↔ A' x) (hb : ∀ x, B x ↔ B' x) : RX D ct T l0 s0 i M bk wh A' B' := by
  obtain ⟨s, w, b, h1, h2, h3, h4, h5, h6⟩ := h
  exact ⟨s, w, b, h1, h2, h3, h4, fun x => by rw [h5, ha], fun x => by rw [h6, hb]⟩
theorem RX.reach {t : Nat} {v : Option Nat} (ht1 : i ≤ t) (ht2 : t ≤ dn D) (hv : v ≠ none → t < dn D ∧ 0 ≤ HH D t ∧ stk D t = s0) (h : RX D ct T l0 s0 i M bk wh (fun x => Le (pl v (FF2 D ct T t).1) x ∧ A x) (fun x => Le (pl v (FF2 D ct T t).2) x ∧ B x)) : RX D ct T l0 s0 i (rch M t (sJ v)) bk wh A B := by
  obtain ⟨s, w, b, h1, h2, h3, h4, h5, h6⟩ := h
  refine ⟨upO s t (mx (s t) v), w, b, fun p q1 q2 => ?_, fun p q1 q2 => ?_, h3, h4, fun x => ?_, fun x => ?_⟩
  · unfold rch
    by_cases e : p = t
    · rw [e, wrJ_s, h1 t ht1 ht2, fgr_s]
      show _ = sJ (upO s t (mx (s t) v) t)
      unfold upO
      rw [if_pos rfl]
    · rw [wrJ_j e, h1 p q1 q2]
      unfold upO
      rw [if_neg e]
  · unfold upO at q2
    by_cases e : p = t
    · rw [if_pos e] at q2
      rw [e]
      rcases mx_ne.mp q2 with z | z
      · exact h2 t ht1 z
      · exact hv z
    · rw [if_neg e] at q2
      exact h2 p q1 q2
  · rw [h5]
    by_cases c : t < dn D
    · rw [Pend.up ht1 c]
      exact ⟨fun z => ⟨z.1, ⟨z.2.1, z.2.2.1⟩, z.2.2.2⟩, fun z => ⟨z.1, z.2.1.1, z.2.1.2, z.2.2⟩⟩
    · have hn : v = none := by
        cases v with
        | none => rfl
        | some v => exact absurd (hv (by simp)).1 c
      subst hn
      have ep : ∀ p, p < dn D → upO s t (mx (s t) none) p = s p := fun p q => if_neg (by omega)
      have e0 : Pend D i (upO s t (mx (s t) none)) (fun p => (FF2 D ct T p).1) x ↔ Pend D i s (fun p => (FF2 D ct T p).1) x := ⟨fun z p q1 q2 => by have := z p q1 q2; rw [ep p q2] at this; exact this, fun z p q1 q2 => by rw [ep p q2]; exact z p q1 q2⟩
      rw [e0]
      exact ⟨fun z => ⟨z.1, z.2.1, z.2.2.2⟩, fun z => ⟨z.1, z.2.1, Le.none, z.2.2⟩⟩
  · rw [h6]
    by_cases c : t < dn D
    · rw [Pend.up ht1 c]
      exact ⟨fun z => ⟨z.1, ⟨z.2.1, z.2.2.1⟩, z.2.2.2⟩, fun z => ⟨z.1, z.2.1.1, z.2.1.2, z.2.2⟩⟩
    · have hn : v = none := by
        cases v with
        | none => rfl
        | some v => exact absurd (hv (by simp)).1 c
      subst hn
      have ep : ∀ p, p < dn D → upO s t (mx (s t) none) p = s p := fun p q => if_neg (by omega)
      have e0 : Pend D i (upO s t (mx (s t) none)) (fun p => (FF2 D ct T p).2) x ↔ Pend D i s (fun p => (FF2 D ct T p).2) x := ⟨fun z p q1 q2 => by have := z p q1 q2; rw [ep p q2] at this; exact this, fun z p q1 q2 => by rw [ep p q2]; exact z p q1 q2⟩
      rw [e0]
      exact ⟨fun z => ⟨z.1, z.2.1, z.2.2.2⟩, fun z => ⟨z.1, z.2.1, Le.none, z.2.2⟩⟩
theorem RX.back {v : Option Nat} (h : RX D ct T l0 s0 i M bk wh A (fun x => Le v x ∧ B x)) : RX D ct T l0 s0 i M (fgr bk (sJ v)) wh A B := by
  obtain ⟨s, w, b, h1, h2, h3, h4, h5, h6⟩ := h
  refine ⟨s, w, mx b v, h1, h2, h3, by rw [h4, fgr_s], h5, fun x => ?_⟩
  rw [h6, Le.mx]
  exact ⟨fun z => ⟨⟨z.1, z.2.2.1⟩, z.2.1, z.2.2.2⟩, fun z => ⟨z.1.1, z.2.1, z.1.2, z.2.2⟩⟩
theorem RX.whole {v : Option Nat} (h : RX D ct T l0 s0 i M bk wh (fun x => Le v x ∧ A x) B) : RX D ct T l0 s0 i M bk (fgr wh (sJ v)) A B := by
  obtain ⟨s, w, b, h1, h2, h3, h4, h5, h6⟩ := h
  refine ⟨s, mx w v, b, h1, h2, by rw [h3, fgr_s], h4, fun x => ?_, h6⟩
  rw [h5, Le.mx]
  exact ⟨fun z => ⟨⟨z.1, z.2.2.1⟩, z.2.1, z.2.2.2⟩, fun z => ⟨z.1.1, z.2.1, z.1.2, z.2.2⟩⟩
theorem RX.start (hi : i < dn D) (h : RX D ct T l0 s0 i M bk wh TT TT) : ∃ si, mJ M 46 i = sJ si ∧ (si ≠ none → 0 ≤ HH D i ∧ stk D i = s0) ∧ RX D ct T l0 s0 (i + 1) M bk wh (fun x => Le (pl si (FF2 D ct T i).1) x) (fun x => Le (pl si (FF2 D ct T i).2) x) := by
  obtain ⟨s, w, b, h1, h2, h3, h4, h5, h6⟩ := h
  refine ⟨s i, h1 i (by omega) (by omega), fun z => ⟨(h2 i (by omega) z).2.1, (h2 i (by omega) z).2.2⟩, s, w, b, fun p q1 q2 => h1 p (by omega) q2, fun p q1 q2 => h2 p (by omega) q2, h3, h4, fun x => ?_, fun x => ?_⟩
  · rw [h5, Pend.split hi]
    exact ⟨fun z => ⟨z.1, z.2.1.1, z.2.1.2⟩, fun z => ⟨z.1, ⟨z.2.1, z.2.2⟩, trivial⟩⟩
  · rw [h6, Pend.split hi]
    exact ⟨fun z => ⟨z.1, z.2.1.1, z.2.1.2⟩, fun z => ⟨z.1, ⟨z.2.1, z.2.2⟩, trivial⟩⟩
/-- what the reference has before it goes through the region of L -/
def VX (M : AM) (j : Nat) (D : DD) (ct : Nat → Nat) (T : Nat → Option Nat) (L : Int) : Prop := (∀ k, k < 18 → mJ M 33 k = sJ (some (ct k))) ∧ (∀ i, i < dn D → 0 ≤ HH D i → dO D i = 16 → mJ M 45 (dA D i).toNat = sJ (T (dA D i).toNat) ∧ T (dA D i).toNat ≠ none) ∧ ∀ i, L < (i : Nat) → i < dn D → 0 ≤ HH D i → dO D i = 14 → 0 < dA D i → mJ M 47 i = sJ (FF2 D ct T (i + 1)).1 ∧ mJ M 48 i = sJ (FF2 D ct T (i + 1)).2
theorem VX.s46 {L : Int} {M' : AM} (h : VX M j D ct T L) (a : Ag S46 M M') : VX M' j D ct T L :=
  ⟨fun k hk => by rw [a.j (by unfold S46; omega)]; exact h.1 k hk, fun i h1 h2 h3 => by rw [a.j (by unfold S46; omega)]; exact h.2.1 i h1 h2 h3, fun i h0 h1 h2 h3 h4 => by rw [a.j (by unfold S46; omega), a.j (by unfold S46; omega)]; exact h.2.2 i h0 h1 h2 h3 h4⟩
theorem sJ_m1 {a : Option Nat} : sJ a = -1 ↔ a = none := by
  rw [eq64, sJ_t]
  cases a with
  | none => exact ⟨fun _ => rfl, fun _ => rfl⟩
  | some a =>
    constructor
    · intro z
      exfalso
      have z : sat (some a) = -1 := z
      simp only [sat] at z
      split at z <;> omega
    · intro z; simp at z
theorem mx_none {a : Option Nat} : mx a none = a := by cases a <;> rfl
def bfo (o r : Option Nat) (k : Nat) : Option Nat := match r with
  | none => o
  | some r => pl o (some (r * k))
theorem rst_valid {L : Int} (hs : Sd D) (hd : Ds D) (hL : -1 ≤ L) (h0 : hdI s0 = L) (hv : VX M j D ct T L) (hi : i < dn D) (hLi : L < i) (h : RX D ct T l0 s0 i M bk wh TT TT) : RX D ct T l0 s0 (i + 1) (rst D j L i M bk wh).1 (rst D j L i M bk wh).2.1 (rst D j L i M bk wh).2.2 TT TT := by
  obtain ⟨si, e46, hsi, hX⟩ := h.start hi
  cases si with
  | none =>
    have e : rst D j L i M bk wh = (M, bk, wh) := by unfold rst; rw [if_neg (fun z => z.2 (by rw [e46]; rfl))]
    rw [e]
    exact hX.iff (fun x => ⟨fun _ => trivial, fun _ => Le.none⟩) (fun x => ⟨fun _ => trivial, fun _ => Le.none⟩)
  | some u =>
    have hm := hsi (by simp)
    have hff := hs.ff hi
    have fo := ffo hff
    have ein : ins D i = L := by unfold ins; rw [hm.2]; exact h0
    have ne : mJ M 46 i ≠ -1 := by rw [e46]; exact fun z => by have := sJ_m1.mp z; simp at this
    have er : rst D j L i M bk wh = (if dO D i = 17 then (M, fgr bk (rgv D j i M), wh) else if dO D i = 15 then (M, bk, fgr wh (rgv D j i M)) else if dO D i = 14 ∧ 0 < dA D i then (rgm D i M (rgv D j i M), rgb D i M bk (rgv D j i M), wh) else (rgo D i M (rgv D j i M), bk, wh)) := by unfold rst; rw [if_pos ⟨ein, ne⟩]
    have e33 := hv.1 (dO D i).toNat (by omega)
    have eF := FF2.eq (ct := ct) (T := T) hs.all.1 ⟨hi, hm.1⟩
    have v0 : fpl (mJ M 46 i) (mJ M 33 (dO D i).toNat) = sJ (pl (some u) (own D ct i)) := by rw [e46, e33]; exact fpl_s u _
    rw [er]
    by_cases o17 : dO D i = 17
    · have ev : rgv D j i M = sJ (pl (some u) (own D ct i)) := by unfold rgv; rw [if_neg (by omega)]; exact v0
      rw [if_pos o17, ev]
      have eL : FF2 D ct T i = (none, own D ct i) := by rw [eF]; unfold lens; rw [if_pos o17]
      refine (hX.iff (A' := TT) (B' := fun x => Le (pl (some u) (own D ct i)) x ∧ TT x) (fun x => ?_) (fun x => ?_)).back
      · rw [eL]; exact ⟨fun _ => trivial, fun _ => Le.none⟩
      · rw [eL]; exact ⟨fun z => ⟨z, trivial⟩, fun z => z.1⟩
    rw [if_neg o17]
    by_cases o15 : dO D i = 15
    · have ev : rgv D j i M = sJ (pl (some u) (own D ct i)) := by unfold rgv; rw [if_neg (by omega)]; exact v0
      rw [if_pos o15, ev]
      have eL : FF2 D ct T i = (own D ct i, none) := by rw [eF]; unfold lens; rw [if_neg o17, if_pos o15]
      refine (hX.iff (A' := fun x => Le (pl (some u) (own D ct i)) x ∧ TT x) (B' := TT) (fun x => ?_) (fun x => ?_)).whole
      · rw [eL]; exact ⟨fun z => ⟨z, trivial⟩, fun z => z.1⟩
      · rw [eL]; exact ⟨fun _ => trivial, fun _ => Le.none⟩
    rw [if_neg o15]
    by_cases o14 : dO D i = 14 ∧ 0 < dA D i
    · rw [if_pos o14]
      have ev : rgv D j i M = sJ (pl (some u) (own D ct i)) := by unfold rgv; rw [if_neg (by omega)]; exact v0
      have fl := ffl hff o14.1
      have bg := beh_gt hff o14.1
      obtain ⟨e47, e48⟩ := hv.2.2 i hLi hi hm.1 o14.1 o14.2
      obtain ⟨p, q1, q2, q3, q4, q5, q6, q7, q8⟩ := loop_end o14.1 fl.2.2.1
      have eL : FF2 D ct T i = (pl (pl (own D ct i) (rp (FF2 D ct T (i + 1)).1 (dA D i).toNat)) (FF2 D ct T (beh D i)).1, mx (pl (pl (own D ct i) (rp (FF2 D ct T (i + 1)).1 (dA D i).toNat)) (FF2 D ct T (beh D i)).2) (pl (bfo (own D ct i) (FF2 D ct T (i + 1)).1 ((dA D i).toNat - 1)) (FF2 D ct T (i + 1)).2)) := by
        rw [eF]
        unfold lens
        rw [if_neg (by omega), if_neg (by omega), if_neg (by omega), if_neg (by omega), if_pos o14.1, if_pos o14.2]
        rfl
      have hmet : (FF2 D ct T (i + 1)).1 ≠ none → beh D i < dn D ∧ 0 ≤ HH D (beh D i) ∧ stk D (beh D i) = s0 := fun c => by
        obtain ⟨l, t, e, p', e1, e2, e3, e4⟩ := ff2_B hs hd _ (i + 1) rfl c
        rw [stk_in o14.1] at e
        injection e with e e'
        subst e
        have : p' = p := by omega
        subst this
        have mb := met_next hs hd e2 e3 (by omega) (by omega) (by omega)
        rw [q8]
        exact ⟨mb.1, mb.2.1, by rw [q6]; exact hm.2⟩
      rw [ev]
      have ea1 : jJ (dA D i - 1) = jJ (((dA D i).toNat - 1 : Nat) : Int) := by congr 1; omega
      have ea : jJ (dA D i) = jJ ((dA D i).toNat : Int) := by congr 1; omega
      generalize hF1 : FF2 D ct T (i + 1) = F1 at *
      obtain ⟨F11, F12⟩ := F1
      -- back
      have hbk : rgb D i M bk (sJ (pl (some u) (own D ct i))) = fgr bk (sJ (pl (pl (some u) (bfo (own D ct i) F11 ((dA D i).toNat - 1))) F12)) ∨ (F12 = none ∧ rgb D i M bk (sJ (pl (some u) (own D ct i))) = bk) := by
        unfold rgb
        rw [e47, e48]
        cases F12 with
        | none => exact Or.inr ⟨rfl, by rw [if_pos (sJ_m1.mpr rfl)]⟩
        | some f12 =>
          left
          rw [if_neg (fun z => by have := sJ_m1.mp z; simp at this)]
          cases F11 with
          | none =>
            rw [if_pos (sJ_m1.mpr rfl)]
            have : fpl (sJ (pl (some u) (own D ct i))) 0 = sJ (pl (some u) (own D ct i)) := by
              show fpl (sJ (some (u + ct (dO D i).toNat))) (sJ (some 0)) = _
              rw [fpl_s]
              rfl
            rw [this]
            show fgr bk (fpl (sJ (some _)) (sJ (some _))) = _
            rw [fpl_s]
            rfl
          | some f11 =>
            rw [if_neg (fun z => by have := sJ_m1.mp z; simp at this), ea1, ftm_s f11 (by omega)]
            have : fpl (sJ (pl (some u) (own D ct i))) (sJ (rp (some f11) ((dA D i).toNat - 1))) = sJ (pl (some u) (pl (own D ct i) (some (f11 * ((dA D i).toNat - 1))))) := by
              show fpl (sJ (some _)) (sJ (some _)) = _
              rw [fpl_s, ← pl_assoc]
              rfl
            rw [this]
            show fgr bk (fpl (sJ (some _)) (sJ (some _))) = _
            rw [fpl_s]
            rfl
      have hm' : rgm D i M (sJ (pl (some u) (own D ct i))) = rch M (beh D i) (sJ (pl (pl (some u) (own D ct i)) (rp F11 (dA D i).toNat))) ∨ (F11 = none ∧ rgm D i M (sJ (pl (some u) (own D ct i))) = M) := by
        unfold rgm
        rw [e47]
        cases F11 with
        | none => exact Or.inr ⟨rfl, by rw [if_pos (sJ_m1.mpr rfl)]⟩
        | some f11 =>
          left
          rw [if_neg (fun z => by have := sJ_m1.mp z; simp at this), ea, ftm_s f11 (by omega)]
          congr 1
          show fpl (sJ (some _)) (sJ (some _)) = _
          rw [fpl_s]
          rfl
      have base : RX D ct T l0 s0 (i + 1) M bk wh (fun x => Le (pl (pl (pl (some u) (own D ct i)) (rp F11 (dA D i).toNat)) (FF2 D ct T (beh D i)).1) x ∧ TT x) (fun x => Le (pl (pl (pl (some u) (own D ct i)) (rp F11 (dA D i).toNat)) (FF2 D ct T (beh D i)).2) x ∧ (Le (pl (pl (some u) (bfo (own D ct i) F11 ((dA D i).toNat - 1))) F12) x ∧ TT x)) := by
        refine hX.iff (fun x => ?_) (fun x => ?_)
        · rw [eL]
          show Le (pl (some u) (pl (pl (own D ct i) (rp F11 (dA D i).toNat)) (FF2 D ct T (beh D i)).1)) x ↔ _
          rw [← pl_assoc, ← pl_assoc]
          exact ⟨fun z => ⟨z, trivial⟩, fun z => z.1⟩
        · rw [eL]
          show Le (pl (some u) (mx (pl (pl (own D ct i) (rp F11 (dA D i).toNat)) (FF2 D ct T (beh D i)).2) (pl _ F12))) x ↔ _
          rw [mx_pl, Le.mx, ← pl_assoc, ← pl_assoc, ← pl_assoc]
          exact ⟨fun z => ⟨z.1, z.2, trivial⟩, fun z => ⟨z.1, z.2.1⟩⟩
      have b1 : RX D ct T l0 s0 (i + 1) (rgm D i M (sJ (pl (some u) (own D ct i)))) bk wh TT (fun x => Le (pl (pl (some u) (bfo (own D ct i) F11 ((dA D i).toNat - 1))) F12) x ∧ TT x) := by
        rcases hm' with z | z
        · rw [z]
          exact RX.reach (by omega) (by omega) (fun c => hmet (rp_ne.mp (pl_ne.mp c).2)) base
        · rw [z.2]
          refine base.iff (fun x => ⟨fun _ => trivial, fun _ => ⟨?_, trivial⟩⟩) (fun x => ⟨fun q => q.2, fun q => ⟨?_, q⟩⟩)
          · rw [z.1]; exact Le.none
          · rw [z.1]; exact Le.none
      rcases hbk with z | z
      · rw [z]; exact b1.back
      · rw [z.2]
        refine b1.iff (fun x => Iff.rfl) (fun x => ⟨fun q => trivial, fun _ => ⟨?_, trivial⟩⟩)
        rw [z.1]
        cases F11 <;> exact Le.none
    rw [if_neg o14]
    -- the others
    obtain ⟨V, ev, hV, eL⟩ : ∃ V, rgv D j i M = sJ V ∧ V = pl (some u) (if dO D i = 16 then pl (own D ct i) (T (dA D i).toNat) else own D ct i) ∧ lens D ct T i (FF2 D ct T) = (if dO D i = 12 then pl2 (own D ct i) (FF2 D ct T (dA D i).toNat) else if dO D i = 13 then mx2 (pl2 (own D ct i) (FF2 D ct T (i + 1))) (pl2 (own D ct i) (FF2 D ct T (dA D i).toNat)) else if dO D i = 14 then pl2 (own D ct i) (FF2 D ct T (beh D i)) else pl2 (if dO D i = 16 then pl (own D ct i) (T (dA D i).toNat) else own D ct i) (FF2 D ct T (i + 1))) := by
      refine ⟨_, ?_, rfl, ?_⟩
      · unfold rgv
        by_cases o16 : dO D i = 16
        · rw [if_pos o16, if_pos o16, v0]
          obtain ⟨t1, t2⟩ := hv.2.1 i hi hm.1 o16
          rw [t1]
          cases ht : T (dA D i).toNat with
          | none => exact absurd ht t2
          | some t =>
            show fpl (sJ (some _)) (sJ (some _)) = _
            rw [fpl_s, ← pl_assoc]
            rfl
        · rw [if_neg o16, if_neg o16, v0]
      · unfold lens
        rw [if_neg o17, if_neg o15]
        by_cases p12 : dO D i = 12
        · rw [if_pos p12, if_pos p12]
        rw [if_neg p12, if_neg p12]
        by_cases p13 : dO D i = 13
        · rw [if_pos p13, if_pos p13]
        rw [if_neg p13, if_neg p13]
        by_cases p14 : dO D i = 14
        · rw [if_pos p14, if_pos p14, if_neg (by omega)]
        rw [if_neg p14, if_neg p14]
        by_cases p16 : dO D i = 16
        · rw [if_pos p16, if_pos p16]
        · rw [if_neg p16, if_neg p16]
    rw [ev]
    rw [eL] at eF
    unfold rgo
    by_cases o12 : dO D i = 12
    · have fj := ffj hff (Or.inl o12)
      have mj := met_jump hs hd hi hm.1 (Or.inl o12)
      have eo : onw D i = -1 := by unfold onw; rw [if_pos (Or.inl o12)]
      rw [if_pos o12] at eF
      rw [if_neg (by omega)] at hV
      rw [if_pos (Or.inl o12), if_neg (by omega)]
      refine RX.reach (by omega) (by omega) (fun _ => ⟨mj.1, mj.2.1, by rw [stk_jump hff (Or.inl o12)]; exact hm.2⟩) (hX.iff (fun x => ?_) (fun x => ?_))
      · rw [eF, hV, pl_assoc]; exact ⟨fun z => ⟨z, trivial⟩, fun z => z.1⟩
      · rw [eF, hV, pl_assoc]; exact ⟨fun z => ⟨z, trivial⟩, fun z => z.1⟩
    rw [if_neg o12] at eF
    by_cases o13 : dO D i = 13
    · have fj := ffj hff (Or.inr o13)
      have mj := met_jump hs hd hi hm.1 (Or.inr o13)
      have mn := met_next hs hd hi hm.1 o12 o17 (by omega)
      have eo : onw D i = i + 1 := by unfold onw; rw [if_neg (by omega), if_neg (by omega)]
      have eo' : (onw D i).toNat = i + 1 := by omega
      rw [if_pos o13] at eF
      rw [if_neg (by omega)] at hV
      rw [if_pos (Or.inr o13), if_pos (by omega), eo']
      refine RX.reach (by omega) (by omega) (fun _ => ⟨mj.1, mj.2.1, by rw [stk_jump hff (Or.inr o13)]; exact hm.2⟩) (RX.reach (by omega) (by omega) (fun _ => ⟨mn.1, mn.2.1, by rw [stk_next (by omega) (by omega)]; exact hm.2⟩) (hX.iff (fun x => ?_) (fun x => ?_)))
      · rw [eF, hV, pl_assoc, pl_assoc]
        show Le (pl (some u) (mx (pl (own D ct i) (FF2 D ct T (i + 1)).1) (pl (own D ct i) (FF2 D ct T (dA D i).toNat).1))) x ↔ _
        rw [mx_pl, Le.mx]
        exact ⟨fun z => ⟨z.1, z.2, trivial⟩, fun z => ⟨z.1, z.2.1⟩⟩
      · rw [eF, hV, pl_assoc, pl_assoc]
        show Le (pl (some u) (mx (pl (own D ct i) (FF2 D ct T (i + 1)).2) (pl (own D ct i) (FF2 D ct T (dA D i).toNat).2))) x ↔ _
        rw [mx_pl, Le.mx]
        exact ⟨fun z => ⟨z.1, z.2, trivial⟩, fun z => ⟨z.1, z.2.1⟩⟩
    rw [if_neg o13] at eF
    rw [if_neg (by omega)]
    by_cases p14 : dO D i = 14
    · have fl := ffl hff p14
      have bg := beh_gt hff p14
      have mb := met_beh hs hd hi hm.1 p14 (by omega)
      obtain ⟨p, q1, q2, q3, q4, q5, q6, q7, q8⟩ := loop_end p14 fl.2.2.1
      have eo : onw D i = mat D (dn D) i + 1 := by unfold onw; rw [if_neg (by omega), if_pos ⟨p14, by omega⟩]
      have eo' : (onw D i).toNat = beh D i := by omega
      rw [if_pos p14] at eF
      rw [if_neg (by omega)] at hV
      rw [if_pos (by omega), eo']
      refine RX.reach (by omega) (by omega) (fun _ => ⟨mb.1, mb.2.1, by rw [q8, q6]; exact hm.2⟩) (hX.iff (fun x => ?_) (fun x => ?_))
      · rw [eF, hV, pl_assoc]; exact ⟨fun z => ⟨z, trivial⟩, fun z => z.1⟩
      · rw [eF, hV, pl_assoc]; exact ⟨fun z => ⟨z, trivial⟩, fun z => z.1⟩
    rw [if_neg p14] at eF
    have mn := met_next hs hd hi hm.1 o12 o17 (by omega)
    have eo : onw D i = i + 1 := by unfold onw; rw [if_neg (by omega), if_neg (by omega)]
    have eo' : (onw D i).toNat = i + 1 := by omega
    rw [if_pos (by omega), eo']
    refine RX.reach (by omega) (by omega) (fun _ => ⟨mn.1, mn.2.1, by rw [stk_next (by omega) (by omega)]; exact hm.2⟩) (hX.iff (fun x => ?_) (fun x => ?_))
    · rw [eF, hV, pl_assoc]; exact ⟨fun z => ⟨z, trivial⟩, fun z => z.1⟩
    · rw [eF, hV, pl_assoc]; exact ⟨fun z => ⟨z, trivial⟩, fun z => z.1⟩
end VAL
