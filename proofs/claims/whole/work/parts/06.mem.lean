def KF (k : Nat) (C : String) (T : u_T) (N : Nat) : Prop := k < 8 ∧ cls9[k]? = some (C, T, N) ∧ (∀ w ∈ u_ws C T N, w ∈ gtbl) ∧ (∀ j, j < N → parseFieldDescriptor (T j).2.2.1 = some (tyK k j)) ∧ (∀ a, a < N → ∀ b, b < N → a ≠ b → (T a).2.1 ≠ (T b).2.1)
theorem KF0 : KF 0 RX0 TX0 7 := ⟨by decide, rfl, inG0, tyX0_ok, nmX0⟩
theorem KF1 : KF 1 RX1 TX1 5 := ⟨by decide, rfl, inG1, tyX1_ok, nmX1⟩
theorem KF2 : KF 2 RX2 TX2 4 := ⟨by decide, rfl, inG2, tyX2_ok, nmX2⟩
theorem KF3 : KF 3 RX3 TX3 15 := ⟨by decide, rfl, inG3, tyX3_ok, nmX3⟩
theorem KF4 : KF 4 RX4 TX4 11 := ⟨by decide, rfl, inG4, tyX4_ok, nmX4⟩
theorem KF5 : KF 5 RX5 TX5 3 := ⟨by decide, rfl, inG5, tyX5_ok, nmX5⟩
theorem KF6 : KF 6 RX6 TX6 7 := ⟨by decide, rfl, inG6, tyX6_ok, nmX6⟩
theorem KF7 : KF 7 RX7 TX7 41 := ⟨by decide, rfl, inG7, tyX7_ok, nmX7⟩
theorem cellOK_obj {G : Gm} {M : AM} {r k : Nat} {H : Heap} (h : cellOK G M r H) (hs : (mS M r).1 = k) (hk : k < 11) : ∃ q : vw_C, cls9[k]? = some q ∧ t_OB (ad G r) (G.2.2.1.1 k) q.2.2 (G.2.2.1.2 k) H (fv G k M r) := by
  unfold cellOK at h
  rw [hs] at h
  split at h
  · omega
  · omega
  · omega
  · omega
  · exact h
theorem cellOK_mk {G : Gm} {M : AM} {r k : Nat} {H : Heap} (hs : (mS M r).1 = k) (hk : k < 11) {q : vw_C} (hq : cls9[k]? = some q) (ht : t_OB (ad G r) (G.2.2.1.1 k) q.2.2 (G.2.2.1.2 k) H (fv G k M r)) : cellOK G M r H := by
  unfold cellOK
  rw [hs]
  split
  · omega
  · omega
  · omega
  · omega
  · exact ⟨q, hq, ht⟩
theorem tag_le (t : FieldType) : tag t = 0 ∨ tag t = 1 ∨ tag t = 2 := by cases t <;> simp [tag]
def fvB (t : Nat) (x : Int32) (y : Int64) (z : Option Nat) : AV := match t with
  | 0 => aI x
  | 1 => aJ y
  | _ => aR z
def fvA (k : Nat) (M : AM) (r j : Nat) : AV := fvB (tag (tyK k j)) (mI M r j) (mJ M r j) (mR M r j)
theorem fvA_cv {G : Gm} {k : Nat} {M : AM} {r j : Nat} : cv G (fvA k M r j) = fv G k M r j := by
  unfold fvA fv
  rcases tag_le (tyK k j) with h | h | h <;> rw [h] <;> rfl
def wrA (M : AM) (r j : Nat) : AV → AM
  | .inl x => wrI M r j x
  | .inr (.inl x) => wrJ M r j x
  | .inr (.inr x) => wrR M r j x
def tagV : AV → Nat
  | .inl _ => 0
  | .inr (.inl _) => 1
  | .inr (.inr _) => 2
theorem fv_wr {G : Gm} {k : Nat} {M : AM} {r j : Nat} {v : AV} (ht : tagV v = tag (tyK k j)) (i : Nat) : updV (fv G k M r) j (cv G v) i = fv G k (wrA M r j v) r i := by
  by_cases e : i = j
  · subst e
    rcases v with x | x | x
    · have ht : 0 = tag (tyK k i) := ht
      simp [updV, fv, fvOf, ← ht, wrA, wrI, up2, cv, mI]
    · have ht : 1 = tag (tyK k i) := ht
      simp [updV, fv, fvOf, ← ht, wrA, wrJ, up2, cv, mJ]
    · have ht : 2 = tag (tyK k i) := ht
      simp [updV, fv, fvOf, ← ht, wrA, wrR, up2, cv, mR]
  · have e1 : updV (fv G k M r) j (cv G v) i = fv G k M r i := if_neg e
    rw [e1]
    unfold fv
    rcases v with x | x | x
    · exact congrArg (fun z => fvOf G (tag (tyK k i)) z (mJ M r i) (mR M r i)) (show mI M r i = mI (wrI M r j x) r i from (if_neg (fun z => e z.2)).symm)
    · exact congrArg (fun z => fvOf G (tag (tyK k i)) (mI M r i) z (mR M r i)) (show mJ M r i = mJ (wrJ M r j x) r i from (if_neg (fun z => e z.2)).symm)
    · exact congrArg (fun z => fvOf G (tag (tyK k i)) (mI M r i) (mJ M r i) z) (show mR M r i = mR (wrR M r j x) r i from (if_neg (fun z => e z.2)).symm)
theorem WD.wr {G : Gm} {M : AM} {H H1 : Heap} {r j : Nat} {v : AV} (h : WD G M H) (h3 : 3 ≤ r) (hc : cellOK G (wrA M r j v) r H1) (hz : H1.size = H.size) (ho : ∀ q, q ≠ ad G r → H1[q]? = H[q]?) : WD G (wrA M r j v) H1 := by
  refine h.upd h3 hc hz ho ?_ (fun q _ => ?_) (fun q hq => ?_) (fun q hq => ?_) (fun q hq => ?_)
  · rcases v with x | x | x <;> rfl
  · rcases v with x | x | x <;> rfl
  · rcases v with x | x | x
    · exact up2_row hq
    · rfl
    · rfl
  · rcases v with x | x | x
    · rfl
    · exact up2_row hq
    · rfl
  · rcases v with x | x | x
    · rfl
    · rfl
    · exact up2_row hq
theorem wrA_S {M : AM} {r j : Nat} {v : AV} : mS (wrA M r j v) = mS M := by rcases v with x | x | x <;> rfl
theorem wrA_N {M : AM} {r j : Nat} {v : AV} : mN (wrA M r j v) = mN M := by rcases v with x | x | x <;> rfl
theorem wrA_U {M : AM} {r j : Nat} {v : AV} : mU (wrA M r j v) = mU M := by rcases v with x | x | x <;> rfl
section MEMS
variable {G : Gm} {X : Sc} {K : MK} {pc : Nat} {L : LVs} {st : List AV} {M : AM} {fin : Fin'}
/-- a cell that can be used -/
def Lv (M : AM) (r k : Nat) : Prop := 3 ≤ r ∧ r < mN M ∧ (mS M r).1 = k
theorem g_getf {k N j idx r : Nat} {C : String} {T : u_T} (hk : KF k C T N) (hj : j < N) (hr : Lv M r k) (hC : (T j).1 = C) (hw : Cond.fieldLink (kO K) idx C (T j).2.1 (T j).2.2.1 ∈ gtbl) (hd : decode (kC K) pc = .ok (.getfield idx, 3)) (kk : GW G X K (pc + 3) L (fvA k M r j :: st) M fin) : GW G X K pc L (aR (some r) :: st) M fin := GW.op (fun {p l e R s m args below meth c H locs cells slots Q ls} ct lv wd hs kk => by
  obtain ⟨h8, hcl, hin, -, -⟩ := hk
  obtain ⟨q, hq, cell, q1, q2, q3, q4⟩ := cellOK_obj (wd.1 r hr.1 hr.2.1) hr.2.2 (by omega)
  cases Option.some.inj (hcl.symm.trans hq)
  obtain ⟨hSl, hfc, kCl, hkC, hkind⟩ := ct.2.2.2.2.2.2.2.2.2.2.2.2.1.1.1 k _ hcl
  obtain ⟨cf, kf, fi, f, hi, hsl⟩ := hSl j hj
  have kk : W p l e R s m args below meth c H locs cells slots Q (F0 m (pc + 3) ls (cv G (fvA k M r j) :: st.map (cv G))) := kk
  rw [fvA_cv] at kk
  refine W.getf ct.1 ct.2.1 ct.2.2.2.1 (ct.2.2.2.2.1 _ hw) (by rw [← hC]; exact hi) (u_facts hfc hkC (u_lays ct.2.2.2.2.1 hin hj) hi).1 q1 (by rw [q3]; exact fun h => by cases h) (v := fv G k M r j) (by rw [hsl]; exact q4 j hj) rfl rfl hd kk) kk
theorem g_getN {k N j idx r : Nat} {C : String} {T : u_T} (hk : KF k C T N) (hj : j < N) (hr : Lv M r k) (hC : (T j).1 = C) (hw : ∃ host, Cond.fieldLinkNest (kO K) idx C (T j).2.1 (T j).2.2.1 host ∈ ntbl) (hd : decode (kC K) pc = .ok (.getfield idx, 3)) (kk : GW G X K (pc + 3) L (fvA k M r j :: st) M fin) : GW G X K pc L (aR (some r) :: st) M fin := GW.op (fun {p l e R s m args below meth c H locs cells slots Q ls} ct lv wd hs kk => by
  obtain ⟨h8, hcl, hin, -, -⟩ := hk
  obtain ⟨q, hq, cell, q1, q2, q3, q4⟩ := cellOK_obj (wd.1 r hr.1 hr.2.1) hr.2.2 (by omega)
  cases Option.some.inj (hcl.symm.trans hq)
  obtain ⟨hSl, hfc, kCl, hkC, hkind⟩ := ct.2.2.2.2.2.2.2.2.2.2.2.2.1.1.1 k _ hcl
  obtain ⟨cf, kf, fi, f, hi, hsl⟩ := hSl j hj
  have kk : W p l e R s m args below meth c H locs cells slots Q (F0 m (pc + 3) ls (cv G (fvA k M r j) :: st.map (cv G))) := kk
  rw [fvA_cv] at kk
  refine va_Wgetf ct.1 ct.2.1 ct.2.2.2.1 (va_Nw.use rfl (ct.2.2.2.2.2.2.2.2.2.2.2.2.1.2.1 _ hw.choose_spec)) (by rw [← hC]; exact hi) (u_facts hfc hkC (u_lays ct.2.2.2.2.1 hin hj) hi).1 q1 (by rw [q3]; exact fun h => by cases h) (v := fv G k M r j) (by rw [hsl]; exact q4 j hj) rfl rfl hd kk) kk
theorem g_putf {k N j idx r : Nat} {C : String} {T : u_T} {v : AV} (hk : KF k C T N) (hj : j < N) (hr : Lv M r k) (hC : (T j).1 = C) (ht : tagV v = tag (tyK k j)) (hn : narrow (tyK k j) (cv G v) = cv G v) (hft : fits (tyK k j) (cv G v) = true) (hfin : (T j).2.2.2 = false) (hw : Cond.fieldLink (kO K) idx C (T j).2.1 (T j).2.2.1 ∈ gtbl) (hd : decode (kC K) pc = .ok (.putfield idx, 3)) (kk : GW G X K (pc + 3) L st (wrA M r j v) fin) : GW G X K pc L (v :: aR (some r) :: st) M fin := fun p l e R s m args below meth c H locs cells slots mc ms ls ct lv wd hs h1 h2 h3 h4 h5 h6 => by
  obtain ⟨h8, hcl, hin, hty, hnm⟩ := hk
  have hap := va_apart (own := C) ct.2.2.2.2.1 hin (tyK k) hty hnm ct.2.2.2.2.2.2.2.2.2.2.2.2.1.1 hcl
  obtain ⟨q, hq, cell, q1, q2, q3, q4⟩ := cellOK_obj (wd.1 r hr.1 hr.2.1) hr.2.2 (by omega)
  cases Option.some.inj (hcl.symm.trans hq)
  obtain ⟨hSl, hfc, kCl, hkC, hkind⟩ := ct.2.2.2.2.2.2.2.2.2.2.2.2.1.1.1 k _ hcl
  obtain ⟨cf, kf, fi, f, hi, hsl⟩ := hSl j hj
  have hlay := ct.2.2.2.2.1 _ (hin _ (u_in_lay hj))
  unfold u_lay at hlay
  rw [if_neg (by rw [hfin]; decide)] at hlay
  have hst := (u_facts hfc hkC (u_lays ct.2.2.2.2.1 hin hj) hi).1
  have h9 := u_store hfc hkC hkind hlay hi (hty j hj) hn hft
  refine W.putK ct.1 ct.2.1 (f := f) ⟨ct.2.2.2.1, ct.2.2.2.2.1 _ hw, ⟨_, _, _, (by rw [← hC]; exact hi)⟩, hst⟩ (by rw [q2]; exact h9) q1 q3 (by rw [hsl]; exact k2_hasslot (q4 j hj)) rfl rfl hd fun H' e1 e2 e3 => ?_
  rw [hsl] at e1
  refine kk p l e R s m args below meth c H' _ cells slots mc ms ls ct lv (wd.wr hr.1 (cellOK_mk (k := k) (by rw [wrA_S]; exact hr.2.2) (by omega) hcl (t_OB.to ⟨_, e1, q2, q3, t_set q4 hap hj (cv G v)⟩ (fun i _ => fv_wr ht i))) e2 e3) (hs.put e2 e3 (gA_ad hr.1)) (by rw [wrA_N]; exact h1) (by rw [wrA_U]; exact h2) h3 h4 (by rw [wrA_N]; exact h5) (by rw [wrA_U]; exact h6)
theorem g_putN {k N j idx r : Nat} {C : String} {T : u_T} {v : AV} (hk : KF k C T N) (hj : j < N) (hr : Lv M r k) (hC : (T j).1 = C) (ht : tagV v = tag (tyK k j)) (hn : narrow (tyK k j) (cv G v) = cv G v) (hft : fits (tyK k j) (cv G v) = true) (hfin : (T j).2.2.2 = false) (hw : ∃ host, Cond.fieldLinkNest (kO K) idx C (T j).2.1 (T j).2.2.1 host ∈ ntbl) (hd : decode (kC K) pc = .ok (.putfield idx, 3)) (kk : GW G X K (pc + 3) L st (wrA M r j v) fin) : GW G X K pc L (v :: aR (some r) :: st) M fin := fun p l e R s m args below meth c H locs cells slots mc ms ls ct lv wd hs h1 h2 h3 h4 h5 h6 => by
  obtain ⟨h8, hcl, hin, hty, hnm⟩ := hk
  have hap := va_apart (own := C) ct.2.2.2.2.1 hin (tyK k) hty hnm ct.2.2.2.2.2.2.2.2.2.2.2.2.1.1 hcl
  obtain ⟨q, hq, cell, q1, q2, q3, q4⟩ := cellOK_obj (wd.1 r hr.1 hr.2.1) hr.2.2 (by omega)
  cases Option.some.inj (hcl.symm.trans hq)
  obtain ⟨hSl, hfc, kCl, hkC, hkind⟩ := ct.2.2.2.2.2.2.2.2.2.2.2.2.1.1.1 k _ hcl
  obtain ⟨cf, kf, fi, f, hi, hsl⟩ := hSl j hj
  have hlay := ct.2.2.2.2.1 _ (hin _ (u_in_lay hj))
  unfold u_lay at hlay
  rw [if_neg (by rw [hfin]; decide)] at hlay
  have hst := (u_facts hfc hkC (u_lays ct.2.2.2.2.1 hin hj) hi).1
  have h9 := u_store hfc hkC hkind hlay hi (hty j hj) hn hft
  refine va_WputK ct.1 ct.2.1 (f := f) ct.2.2.2.1 (va_Nw.use rfl (ct.2.2.2.2.2.2.2.2.2.2.2.2.1.2.1 _ hw.choose_spec)) (by rw [← hC]; exact hi) hst (by rw [q2]; exact h9) q1 q3 (by rw [hsl]; exact k2_hasslot (q4 j hj)) rfl rfl hd fun H' e1 e2 e3 => ?_
  rw [hsl] at e1
  refine kk p l e R s m args below meth c H' _ cells slots mc ms ls ct lv (wd.wr hr.1 (cellOK_mk (k := k) (by rw [wrA_S]; exact hr.2.2) (by omega) hcl (t_OB.to ⟨_, e1, q2, q3, t_set q4 hap hj (cv G v)⟩ (fun i _ => fv_wr ht i))) e2 e3) (hs.put e2 e3 (gA_ad hr.1)) (by rw [wrA_N]; exact h1) (by rw [wrA_U]; exact h2) h3 h4 (by rw [wrA_N]; exact h5) (by rw [wrA_U]; exact h6)
theorem g_putF {k N j idx r : Nat} {C : String} {T : u_T} {v : AV} (hk : KF k C T N) (hj : j < N) (hr : Lv M r k) (hC : (T j).1 = C) (ht : tagV v = tag (tyK k j)) (hn : narrow (tyK k j) (cv G v) = cv G v) (hft : fits (tyK k j) (cv G v) = true) (hfin : (T j).2.2.2 = true) (hin2 : kM K = "<init>") (hown : C = kO K) (hw : Cond.fieldLink (kO K) idx C (T j).2.1 (T j).2.2.1 ∈ gtbl) (hd : decode (kC K) pc = .ok (.putfield idx, 3)) (kk : GW G X K (pc + 3) L st (wrA M r j v) fin) : GW G X K pc L (v :: aR (some r) :: st) M fin := fun p l e R s m args below meth c H locs cells slots mc ms ls ct lv wd hs h1 h2 h3 h4 h5 h6 => by
  obtain ⟨h8, hcl, hin, hty, hnm⟩ := hk
  have hap := va_apart (own := C) ct.2.2.2.2.1 hin (tyK k) hty hnm ct.2.2.2.2.2.2.2.2.2.2.2.2.1.1 hcl
  obtain ⟨q, hq, cell, q1, q2, q3, q4⟩ := cellOK_obj (wd.1 r hr.1 hr.2.1) hr.2.2 (by omega)
  cases Option.some.inj (hcl.symm.trans hq)
  obtain ⟨hSl, hfc, kCl, hkC, hkind⟩ := ct.2.2.2.2.2.2.2.2.2.2.2.2.1.1.1 k _ hcl
  obtain ⟨cf, kf, fi, f, hi, hsl⟩ := hSl j hj
  have hlay := ct.2.2.2.2.1 _ (hin _ (u_in_lay hj))
  unfold u_lay at hlay
  rw [if_pos hfin] at hlay
  have hst := (u_facts hfc hkC (u_lays ct.2.2.2.2.1 hin hj) hi).1
  have hcf : m.cls = cf := by
    obtain ⟨_, _, c', _, _, _, -, -, hf', -, -, -, hown2, -⟩ := Cond.laysFinal_spec hlay
    have e1 : c' = cf := by have := hi.symm.trans hf'; simp at this; exact this.1.symm
    rw [hC, hown] at hown2
    rw [← e1]; exact Option.some.inj (ct.2.2.2.1.symm.trans hown2)
  have h9 := u_fits hfc hkC hkind (Or.inr hlay) hi (hty j hj) hn hft
  refine W.putFinK ct.1 ct.2.1 ct.2.2.2.1 (ct.2.2.2.2.1 _ hw) (by rw [← hC]; exact hi) hst hcf (ct.2.2.2.2.2.2.2.1.trans hin2) (by rw [q2]; exact h9) q1 q3 (by rw [hsl]; exact k2_hasslot (q4 j hj)) rfl rfl hd fun H' e1 e2 e3 => ?_
  rw [hsl] at e1
  refine kk p l e R s m args below meth c H' _ cells slots mc ms ls ct lv (wd.wr hr.1 (cellOK_mk (k := k) (by rw [wrA_S]; exact hr.2.2) (by omega) hcl (t_OB.to ⟨_, e1, q2, q3, t_set q4 hap hj (cv G v)⟩ (fun i _ => fv_wr ht i))) e2 e3) (hs.put e2 e3 (gA_ad hr.1)) (by rw [wrA_N]; exact h1) (by rw [wrA_U]; exact h2) h3 h4 (by rw [wrA_N]; exact h5) (by rw [wrA_U]; exact h6)
theorem vp_lt {x : Int32} {n : Nat} (h : vp_in x n) : x.toNatClampNeg < n := Nat.not_le.mp fun q => h (Or.inr q)
theorem cellOK_I {G : Gm} {M : AM} {r : Nat} {H : Heap} (h : cellOK G M r H) (hs : (mS M r).1 = 11) : H[ad G r]? = some (arrV G.2.2.2.1 (mS M r).2 (fun j => .int (mI M r j))) := by
  unfold cellOK at h; rw [hs] at h; exact h
theorem cellOK_J {G : Gm} {M : AM} {r : Nat} {H : Heap} (h : cellOK G M r H) (hs : (mS M r).1 = 12) : H[ad G r]? = some (arrV G.2.2.2.2.1 (mS M r).2 (fun j => .long (mJ M r j))) := by
  unfold cellOK at h; rw [hs] at h; exact h
theorem cellOK_Z {G : Gm} {M : AM} {r : Nat} {H : Heap} (h : cellOK G M r H) (hs : (mS M r).1 = 13) : H[ad G r]? = some (arrV G.2.2.2.2.2.1 (mS M r).2 (fun j => .int (mI M r j))) := by
  unfold cellOK at h; rw [hs] at h; exact h
theorem cellOK_Q {G : Gm} {M : AM} {r : Nat} {H : Heap} (h : cellOK G M r H) (hs : (mS M r).1 = 14) : H[ad G r]? = some (arrV G.2.2.2.2.2.2 (mS M r).2 (fun j => va_rf ((mR M r j).map (ad G)))) := by
  unfold cellOK at h; rw [hs] at h; exact h
theorem cellOK_I' {G : Gm} {M : AM} {r : Nat} {H : Heap} (hs : (mS M r).1 = 11) (h : H[ad G r]? = some (arrV G.2.2.2.1 (mS M r).2 (fun j => .int (mI M r j)))) : cellOK G M r H := by
  unfold cellOK; rw [hs]; exact h
theorem cellOK_J' {G : Gm} {M : AM} {r : Nat} {H : Heap} (hs : (mS M r).1 = 12) (h : H[ad G r]? = some (arrV G.2.2.2.2.1 (mS M r).2 (fun j => .long (mJ M r j)))) : cellOK G M r H := by
  unfold cellOK; rw [hs]; exact h
theorem cellOK_Z' {G : Gm} {M : AM} {r : Nat} {H : Heap} (hs : (mS M r).1 = 13) (h : H[ad G r]? = some (arrV G.2.2.2.2.2.1 (mS M r).2 (fun j => .int (mI M r j)))) : cellOK G M r H := by
  unfold cellOK; rw [hs]; exact h
theorem cellOK_Q' {G : Gm} {M : AM} {r : Nat} {H : Heap} (hs : (mS M r).1 = 14) (h : H[ad G r]? = some (arrV G.2.2.2.2.2.2 (mS M r).2 (fun j => va_rf ((mR M r j).map (ad G))))) : cellOK G M r H := by
  unfold cellOK; rw [hs]; exact h
theorem g_iald {r : Nat} {x : Int32} (hr : Lv M r 11) (hx : vp_in x (mS M r).2) (hd : decode (kC K) pc = .ok (.iaload, 1)) (kk : GW G X K (pc + 1) L (aI (mI M r x.toNatClampNeg) :: st) M fin) : GW G X K pc L (aI x :: aR (some r) :: st) M fin := GW.op (fun ct lv wd hs kk => by
  exact W.iald ct.1 ct.2.1 (cellOK_I (wd.1 r hr.1 hr.2.1) hr.2.2) ((ct.2.2.2.2.2.2.2.2.2.2.2.2.1.1.2 0 _ rfl).1 (mS M r).2 (fun j => .int (mI M r j))) (fun q => by cases q) (by rw [arrV_size]; exact hx) (by rw [arrV_read _ _ (vp_lt hx)]; rfl) rfl rfl hd kk) kk
theorem g_lald {r : Nat} {x : Int32} (hr : Lv M r 12) (hx : vp_in x (mS M r).2) (hd : decode (kC K) pc = .ok (.laload, 1)) (kk : GW G X K (pc + 1) L (aJ (mJ M r x.toNatClampNeg) :: st) M fin) : GW G X K pc L (aI x :: aR (some r) :: st) M fin := GW.op (fun ct lv wd hs kk => by
  exact W.lald ct.1 ct.2.1 (cellOK_J (wd.1 r hr.1 hr.2.1) hr.2.2) ((ct.2.2.2.2.2.2.2.2.2.2.2.2.1.1.2 1 _ rfl).1 (mS M r).2 (fun j => .long (mJ M r j))) (fun q => by cases q) (by rw [arrV_size]; exact hx) (by rw [arrV_read _ _ (vp_lt hx)]; rfl) rfl rfl hd kk) kk
theorem g_zald {r : Nat} {x : Int32} (hr : Lv M r 13) (hx : vp_in x (mS M r).2) (hd : decode (kC K) pc = .ok (.baload, 1)) (kk : GW G X K (pc + 1) L (aI (mI M r x.toNatClampNeg) :: st) M fin) : GW G X K pc L (aI x :: aR (some r) :: st) M fin := GW.op (fun ct lv wd hs kk => by
  exact W.zald ct.1 ct.2.1 (cellOK_Z (wd.1 r hr.1 hr.2.1) hr.2.2) ((ct.2.2.2.2.2.2.2.2.2.2.2.2.1.1.2 2 _ rfl).1 (mS M r).2 (fun j => .int (mI M r j))) (fun q => by cases q) (by rw [arrV_size]; exact hx) (by rw [arrV_read _ _ (vp_lt hx)]; rfl) rfl rfl hd kk) kk
theorem g_aald {r : Nat} {x : Int32} (hr : Lv M r 14) (hx : vp_in x (mS M r).2) (hd : decode (kC K) pc = .ok (.aaload, 1)) (kk : GW G X K (pc + 1) L (aR (mR M r x.toNatClampNeg) :: st) M fin) : GW G X K pc L (aI x :: aR (some r) :: st) M fin := GW.op (fun ct lv wd hs kk => by
  exact W.aald ct.1 ct.2.1 (cellOK_Q (wd.1 r hr.1 hr.2.1) hr.2.2) ((ct.2.2.2.2.2.2.2.2.2.2.2.2.1.1.2 3 _ rfl).1 (mS M r).2 (fun j => va_rf ((mR M r j).map (ad G)))) rfl (fun q => by cases q) (by rw [arrV_size]; exact hx) (by rw [arrV_read _ _ (vp_lt hx)]; rfl) rfl rfl hd kk) kk
theorem g_roald {t : Nat} {x : Int32} (ht : t < 3) (hx : vp_in x (roL X t)) (hd : decode (kC K) pc = .ok (.iaload, 1)) (kk : GW G X K (pc + 1) L (aI (roI X t x.toNatClampNeg) :: st) M fin) : GW G X K pc L (aI x :: aR (some t) :: st) M fin := GW.op (fun {p l e R s m args below meth c H locs cells slots Q ls} ct lv wd hs kk => by
  have eA : ad G t = G.2.1 t := if_pos ht
  show W p l e R s m args below meth c H locs cells slots Q (F0 m pc ls (.int x :: .ref (ad G t) :: st.map (cv G)))
  rw [eA]
  exact va_ti ct.1 ct.2.1 (ct.2.2.2.2.2.2.2.2.2.2.2.2.2.1 t ht) hs hx rfl hd kk) kk
theorem g_rolen {t : Nat} (ht : t < 3) (hd : decode (kC K) pc = .ok (.arraylength, 1)) (kk : GW G X K (pc + 1) L (aI (Int32.ofNat (roL X t)) :: st) M fin) : GW G X K pc L (aR (some t) :: st) M fin := GW.op (fun {p l e R s m args below meth c H locs cells slots Q ls} ct lv wd hs kk => by
  have eA : ad G t = G.2.1 t := if_pos ht
  show W p l e R s m args below meth c H locs cells slots Q (F0 m pc ls (.ref (ad G t) :: st.map (cv G)))
  rw [eA]
  exact va_tlen ct.1 ct.2.1 (ct.2.2.2.2.2.2.2.2.2.2.2.2.2.1 t ht) hs rfl hd kk) kk
theorem g_lenI {r : Nat} (hr : Lv M r 11) (hd : decode (kC K) pc = .ok (.arraylength, 1)) (kk : GW G X K (pc + 1) L (aI (Int32.ofNat (mS M r).2) :: st) M fin) : GW G X K pc L (aR (some r) :: st) M fin := GW.op (fun ct lv wd hs kk => by
  exact W.alen (n := Int32.ofNat (mS M r).2) ct.1 ct.2.1 (cellOK_I (wd.1 r hr.1 hr.2.1) hr.2.2) ((ct.2.2.2.2.2.2.2.2.2.2.2.2.1.1.2 0 _ rfl).1 (mS M r).2 (fun j => .int (mI M r j))) (by rw [arrV_size] <;> rfl) rfl rfl hd kk) kk
theorem g_lenJ {r : Nat} (hr : Lv M r 12) (hd : decode (kC K) pc = .ok (.arraylength, 1)) (kk : GW G X K (pc + 1) L (aI (Int32.ofNat (mS M r).2) :: st) M fin) : GW G X K pc L (aR (some r) :: st) M fin := GW.op (fun ct lv wd hs kk => by
  exact W.alen (n := Int32.ofNat (mS M r).2) ct.1 ct.2.1 (cellOK_J (wd.1 r hr.1 hr.2.1) hr.2.2) ((ct.2.2.2.2.2.2.2.2.2.2.2.2.1.1.2 1 _ rfl).1 (mS M r).2 (fun j => .long (mJ M r j))) (by rw [arrV_size] <;> rfl) rfl rfl hd kk) kk
theorem g_lenZ {r : Nat} (hr : Lv M r 13) (hd : decode (kC K) pc = .ok (.arraylength, 1)) (kk : GW G X K (pc + 1) L (aI (Int32.ofNat (mS M r).2) :: st) M fin) : GW G X K pc L (aR (some r) :: st) M fin := GW.op (fun ct lv wd hs kk => by
  exact W.alen (n := Int32.ofNat (mS M r).2) ct.1 ct.2.1 (cellOK_Z (wd.1 r hr.1 hr.2.1) hr.2.2) ((ct.2.2.2.2.2.2.2.2.2.2.2.2.1.1.2 2 _ rfl).1 (mS M r).2 (fun j => .int (mI M r j))) (by rw [arrV_size] <;> rfl) rfl rfl hd kk) kk
theorem g_lenQ {r : Nat} (hr : Lv M r 14) (hd : decode (kC K) pc = .ok (.arraylength, 1)) (kk : GW G X K (pc + 1) L (aI (Int32.ofNat (mS M r).2) :: st) M fin) : GW G X K pc L (aR (some r) :: st) M fin := GW.op (fun ct lv wd hs kk => by
  exact W.alen (n := Int32.ofNat (mS M r).2) ct.1 ct.2.1 (cellOK_Q (wd.1 r hr.1 hr.2.1) hr.2.2) ((ct.2.2.2.2.2.2.2.2.2.2.2.2.1.1.2 3 _ rfl).1 (mS M r).2 (fun j => va_rf ((mR M r j).map (ad G)))) (by rw [arrV_size] <;> rfl) rfl rfl hd kk) kk
theorem g_iast {r : Nat} {x : Int32} {v : Int32} (hr : Lv M r 11) (hx : vp_in x (mS M r).2) (hd : decode (kC K) pc = .ok (.iastore, 1)) (kk : GW G X K (pc + 1) L st (wrI M r x.toNatClampNeg v) fin) : GW G X K pc L (aI v :: aI x :: aR (some r) :: st) M fin := fun p l e R s m args below meth c H locs cells slots mc ms ls ct lv wd hs h1 h2 h3 h4 h5 h6 => by
  refine W.iast ct.1 ct.2.1 (cellOK_I (wd.1 r hr.1 hr.2.1) hr.2.2) ((ct.2.2.2.2.2.2.2.2.2.2.2.2.1.1.2 0 _ rfl).1 (mS M r).2 (fun j => .int (mI M r j))) (fun q => by cases q) (by rw [arrV_size]; exact hx) rfl rfl hd fun H1 e1 e2 e3 => ?_
  refine kk p l e R s m args below meth c H1 _ cells slots mc ms ls ct lv (wd.wr (v := aI v) hr.1 (cellOK_I' (by rw [wrA_S]; exact hr.2.2) ?_) e2 e3) (hs.put e2 e3 (gA_ad hr.1)) h1 h2 h3 h4 h5 h6
  rw [e1, arrV_store]
  congr 2
  funext j
  by_cases hj : j = x.toNatClampNeg
  · subst hj
    simp [updV, wrA, wrI, up2, mI, mJ]
  · simp [updV, wrA, wrI, up2, hj, mI, mJ]
theorem g_last {r : Nat} {x : Int32} {v : Int64} (hr : Lv M r 12) (hx : vp_in x (mS M r).2) (hd : decode (kC K) pc = .ok (.lastore, 1)) (kk : GW G X K (pc + 1) L st (wrJ M r x.toNatClampNeg v) fin) : GW G X K pc L (aJ v :: aI x :: aR (some r) :: st) M fin := fun p l e R s m args below meth c H locs cells slots mc ms ls ct lv wd hs h1 h2 h3 h4 h5 h6 => by
  refine W.last ct.1 ct.2.1 (cellOK_J (wd.1 r hr.1 hr.2.1) hr.2.2) ((ct.2.2.2.2.2.2.2.2.2.2.2.2.1.1.2 1 _ rfl).1 (mS M r).2 (fun j => .long (mJ M r j))) (fun q => by cases q) (by rw [arrV_size]; exact hx) rfl rfl hd fun H1 e1 e2 e3 => ?_
  refine kk p l e R s m args below meth c H1 _ cells slots mc ms ls ct lv (wd.wr (v := aJ v) hr.1 (cellOK_J' (by rw [wrA_S]; exact hr.2.2) ?_) e2 e3) (hs.put e2 e3 (gA_ad hr.1)) h1 h2 h3 h4 h5 h6
  rw [e1, arrV_store]
  congr 2
  funext j
  by_cases hj : j = x.toNatClampNeg
  · subst hj
    simp [updV, wrA, wrJ, up2, mI, mJ]
  · simp [updV, wrA, wrJ, up2, hj, mI, mJ]
theorem g_zast {r : Nat} {x : Int32} {v : Int32} (hr : Lv M r 13) (hx : vp_in x (mS M r).2) (hv : v = 0 ∨ v = 1) (hd : decode (kC K) pc = .ok (.bastore, 1)) (kk : GW G X K (pc + 1) L st (wrI M r x.toNatClampNeg v) fin) : GW G X K pc L (aI v :: aI x :: aR (some r) :: st) M fin := fun p l e R s m args below meth c H locs cells slots mc ms ls ct lv wd hs h1 h2 h3 h4 h5 h6 => by
  refine W.zast ct.1 ct.2.1 (cellOK_Z (wd.1 r hr.1 hr.2.1) hr.2.2) ((ct.2.2.2.2.2.2.2.2.2.2.2.2.1.1.2 2 _ rfl).1 (mS M r).2 (fun j => .int (mI M r j))) (fun q => by cases q) (by rw [arrV_size]; exact hx) rfl rfl hd fun H1 e1 e2 e3 => ?_
  refine kk p l e R s m args below meth c H1 _ cells slots mc ms ls ct lv (wd.wr (v := aI v) hr.1 (cellOK_Z' (by rw [wrA_S]; exact hr.2.2) ?_) e2 e3) (hs.put e2 e3 (gA_ad hr.1)) h1 h2 h3 h4 h5 h6
  rw [e1, arrV_store, show narrow .boolean (.int v) = .int v from by rcases hv with rfl | rfl <;> rfl]
  congr 2
  funext j
  by_cases hj : j = x.toNatClampNeg
  · subst hj
    simp [updV, wrA, wrI, up2, mI, mJ]
  · simp [updV, wrA, wrI, up2, hj, mI, mJ]
theorem g_aast {r q : Nat} {x : Int32} (hr : Lv M r 14) (hq : Lv M q 4) (hx : vp_in x (mS M r).2) (hd : decode (kC K) pc = .ok (.aastore, 1)) (kk : GW G X K (pc + 1) L st (wrR M r x.toNatClampNeg (some q)) fin) : GW G X K pc L (aR (some q) :: aI x :: aR (some r) :: st) M fin := fun p l e R s m args below meth c H locs cells slots mc ms ls ct lv wd hs h1 h2 h3 h4 h5 h6 => by
  have hlt := vp_lt hx
  have h0 : ¬ x < 0 := fun q => hx (Or.inl q)
  obtain ⟨r', hr', cellV, g1, g2, g3, -⟩ := cellOK_obj (wd.1 q hq.1 hq.2.1) hq.2.2 (by omega)
  have hcls := (ct.2.2.2.2.2.2.2.2.2.2.2.2.1.1.1 4 _ rfl).2
  obtain ⟨kA, comp, k1, k2, k3, -⟩ := (ct.2.2.2.2.2.2.2.2.2.2.2.2.1.1.2 3 _ rfl).2
  have hcomp : comp = G.2.2.1.1 4 := Option.some.inj (k3.symm.trans hcls.1)
  subst hcomp
  obtain ⟨kC, hkC, -⟩ := hcls.2
  refine W.aast ct.1 ct.2.1 (cellOK_Q (wd.1 r hr.1 hr.2.1) hr.2.2) (fun q h => by cases h) (fun h => by cases h) k1 k2 rfl hkC ⟨h0, by rw [arrV_size]; exact hlt⟩ g1 (fun q h => by rw [g3] at h; cases h) (by rw [g2]; exact hkC) (by rw [g2]; exact va_assign hcls) rfl rfl hd fun H1 e1 e2 e3 => ?_
  refine kk p l e R s m args below meth c H1 _ cells slots mc ms ls ct lv (wd.wr (v := aR (some q)) hr.1 (cellOK_Q' (by rw [wrA_S]; exact hr.2.2) ?_) e2 e3) (hs.put e2 e3 (gA_ad hr.1)) h1 h2 h3 h4 h5 h6
  rw [e1, arrV_store]
  congr 2
  funext j
  by_cases hj : j = x.toNatClampNeg
  · subst hj
    simp [updV, wrA, wrR, up2, mR, va_rf]
  · simp [updV, wrA, wrR, up2, hj, mR]
end MEMS
