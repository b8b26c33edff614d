def plainT : FieldType → Bool
  | .float => false
  | .double => false
  | _ => true
theorem dflt_fv {G : Gm} {t : FieldType} (h : plainT t = true) : defaultValue t = fvOf G (tag t) 0 0 none := by cases t <;> first | rfl | exact absurd h Bool.false_ne_true
theorem PT0 : ∀ j, j < 7 → plainT (tyK 0 j) = true := by decide +kernel
theorem PT1 : ∀ j, j < 5 → plainT (tyK 1 j) = true := by decide +kernel
theorem PT2 : ∀ j, j < 4 → plainT (tyK 2 j) = true := by decide +kernel
theorem PT3 : ∀ j, j < 15 → plainT (tyK 3 j) = true := by decide +kernel
theorem PT4 : ∀ j, j < 11 → plainT (tyK 4 j) = true := by decide +kernel
theorem PT5 : ∀ j, j < 3 → plainT (tyK 5 j) = true := by decide +kernel
theorem PT6 : ∀ j, j < 7 → plainT (tyK 6 j) = true := by decide +kernel
theorem PT7 : ∀ j, j < 41 → plainT (tyK 7 j) = true := by decide +kernel
section MADE
variable {G : Gm} {X : Sc} {K : MK} {pc : Nat} {L : LVs} {st : List AV} {M : AM} {fin : Fin'}
theorem va_S.grow {A : Nat → Prop} {H0 H H1 : Heap} {locs : List Loc} (hs : va_S A H0 H locs) (hz : H1.size = H.size + 1) (ho : ∀ q, q < H.size → H1[q]? = H[q]?) : va_S A H0 H1 locs :=
  ⟨Nat.le_trans hs.1 (by omega), fun x h1 h2 => (ho x (Nat.lt_of_lt_of_le h1 hs.1)).trans (hs.2.1 x h1 h2), hs.2.2⟩
theorem mk_S {M : AM} {k n : Nat} : mS (mk M k n) (mN M) = (k, n) := va_up_self _ _ _
theorem g_new {k N idx : Nat} {C : String} {T : u_T} (hk : KF k C T N) (hp : ∀ j, j < N → plainT (tyK k j) = true) (w1 : Cond.classLink (kO K) idx C ∈ gtbl) (w2 : Cond.instantiable C N ∈ gtbl) (w3 : Cond.initialized C ∈ gtbl) (hd : decode (kC K) pc = .ok (.new idx, 3))
    (hN : mN M + 1 ≤ mN (fM fin)) (hU : mU M + N ≤ mU (fM fin)) (kk : GW G X K (pc + 3) L (aR (some (mN M)) :: st) (mk M k N) fin) : GW G X K pc L st M fin := fun p l e R s m args below meth c H locs cells slots mc ms ls ct lv wd hs h1 h2 h3 h4 h5 h6 => by
  obtain ⟨h8, hcl, hin, hty, hnm⟩ := hk
  have hKn := ct.2.2.2.2.2.2.2.2.2.2.2.2.1.1.1 k _ hcl
  refine W.newcK ct.1 ct.2.1 ct.2.2.2.1 (ct.2.2.2.2.1 _ w1) (ct.2.2.2.2.1 _ w2) (ct.2.2.2.2.1 _ w3) rfl hd (by omega) (by omega) hKn.2.1 wd.size fun H1 kC hkC e1 z1 o1 => ?_
  have hz : H1.size = H.size + 1 := by rw [wd.size]; exact z1
  have ho : ∀ q, q < H.size → H1[q]? = H[q]? := fun q hq => o1 q (by rw [← wd.size]; exact hq)
  refine kk p l e R s m args below meth c H1 locs (cells + 1) (slots + N) mc ms ls ct lv (wd.new (cellOK_mk (k := k) (by rw [mk_S]) (by omega) hcl ((u_born (tyK k) ct.2.2.2.2.1 hin hKn hkC e1 hty).to (fun j hj => ?_))) hz ho) (hs.grow hz ho) (by show cells + 1 + (_ - (mN M + 1)) ≤ mc; omega) (by show slots + N + (_ - (mU M + N)) ≤ ms; omega) h3 h4 hN hU
  rw [dflt_fv (G := G) (hp j hj)]
  show _ = fvOf G (tag (tyK k j)) (row0 (mI M) (mN M) 0 (mN M) j) (row0 (mJ M) (mN M) 0 (mN M) j) (row0 (mR M) (mN M) none (mN M) j)
  simp only [row0, if_true]
theorem g_newaI {x : Int32} (hw : Cond.arrayClass .int ∈ gtbl) (hd : decode (kC K) pc = .ok (.newarray .int, 2)) (hx : ¬ x < 0) (hb : x.toNatClampNeg ≤ 60000000) (hN : mN M + 1 ≤ mN (fM fin)) (hU : mU M + x.toNatClampNeg ≤ mU (fM fin)) (kk : GW G X K (pc + 2) L (aR (some (mN M)) :: st) (mk M 11 x.toNatClampNeg) fin) : GW G X K pc L (aI x :: st) M fin := fun p l e R s m args below meth c H locs cells slots mc ms ls ct lv wd hs h1 h2 h3 h4 h5 h6 => by
  refine va_newaK ct.1 ct.2.1 (atype := .int) (ct.2.2.2.2.1 _ hw) rfl hd rfl hx rfl (by show _ * 4 ≤ _; omega) (by omega) (by omega) wd.size fun H1 cA e1 z1 o1 hAr hNm => ?_
  have hc : G.2.2.2.1 = cA := Option.some.inj ((ct.2.2.2.2.2.2.2.2.2.2.2.2.1.1.2 0 _ rfl).2.symm.trans hNm)
  have hz : H1.size = H.size + 1 := by rw [wd.size]; exact z1
  have ho : ∀ q, q < H.size → H1[q]? = H[q]? := fun q hq => o1 q (by rw [← wd.size]; exact hq)
  refine kk p l e R s m args below meth c H1 locs (cells + 1) (slots + x.toNatClampNeg) mc ms ls ct lv (wd.new (cellOK_I' (by rw [mk_S]) ?_) hz ho) (hs.grow hz ho) (by show cells + 1 + (_ - (mN M + 1)) ≤ mc; omega) (by show slots + _ + (_ - (mU M + _)) ≤ ms; omega) h3 h4 hN hU
  rw [e1, hc, mk_S]
  congr 2
  funext j
  show _ = Value.int (row0 (mI M) (mN M) 0 (mN M) j)
  simp [row0, defaultValue, newarray.typeOf]
theorem g_newaJ {x : Int32} (hw : Cond.arrayClass .long ∈ gtbl) (hd : decode (kC K) pc = .ok (.newarray .long, 2)) (hx : ¬ x < 0) (hb : x.toNatClampNeg ≤ 60000000) (hN : mN M + 1 ≤ mN (fM fin)) (hU : mU M + x.toNatClampNeg ≤ mU (fM fin)) (kk : GW G X K (pc + 2) L (aR (some (mN M)) :: st) (mk M 12 x.toNatClampNeg) fin) : GW G X K pc L (aI x :: st) M fin := fun p l e R s m args below meth c H locs cells slots mc ms ls ct lv wd hs h1 h2 h3 h4 h5 h6 => by
  refine va_newaK ct.1 ct.2.1 (atype := .long) (ct.2.2.2.2.1 _ hw) rfl hd rfl hx rfl (by show _ * 8 ≤ _; omega) (by omega) (by omega) wd.size fun H1 cA e1 z1 o1 hAr hNm => ?_
  have hc : G.2.2.2.2.1 = cA := Option.some.inj ((ct.2.2.2.2.2.2.2.2.2.2.2.2.1.1.2 1 _ rfl).2.symm.trans hNm)
  have hz : H1.size = H.size + 1 := by rw [wd.size]; exact z1
  have ho : ∀ q, q < H.size → H1[q]? = H[q]? := fun q hq => o1 q (by rw [← wd.size]; exact hq)
  refine kk p l e R s m args below meth c H1 locs (cells + 1) (slots + x.toNatClampNeg) mc ms ls ct lv (wd.new (cellOK_J' (by rw [mk_S]) ?_) hz ho) (hs.grow hz ho) (by show cells + 1 + (_ - (mN M + 1)) ≤ mc; omega) (by show slots + _ + (_ - (mU M + _)) ≤ ms; omega) h3 h4 hN hU
  rw [e1, hc, mk_S]
  congr 2
  funext j
  show _ = Value.long (row0 (mJ M) (mN M) 0 (mN M) j)
  simp [row0, defaultValue, newarray.typeOf]
theorem g_newaZ {x : Int32} (hw : Cond.arrayClass .boolean ∈ gtbl) (hd : decode (kC K) pc = .ok (.newarray .boolean, 2)) (hx : ¬ x < 0) (hb : x.toNatClampNeg ≤ 60000000) (hN : mN M + 1 ≤ mN (fM fin)) (hU : mU M + x.toNatClampNeg ≤ mU (fM fin)) (kk : GW G X K (pc + 2) L (aR (some (mN M)) :: st) (mk M 13 x.toNatClampNeg) fin) : GW G X K pc L (aI x :: st) M fin := fun p l e R s m args below meth c H locs cells slots mc ms ls ct lv wd hs h1 h2 h3 h4 h5 h6 => by
  refine va_newaK ct.1 ct.2.1 (atype := .boolean) (ct.2.2.2.2.1 _ hw) rfl hd rfl hx rfl (by show _ * 1 ≤ _; omega) (by omega) (by omega) wd.size fun H1 cA e1 z1 o1 hAr hNm => ?_
  have hc : G.2.2.2.2.2.1 = cA := Option.some.inj ((ct.2.2.2.2.2.2.2.2.2.2.2.2.1.1.2 2 _ rfl).2.symm.trans hNm)
  have hz : H1.size = H.size + 1 := by rw [wd.size]; exact z1
  have ho : ∀ q, q < H.size → H1[q]? = H[q]? := fun q hq => o1 q (by rw [← wd.size]; exact hq)
  refine kk p l e R s m args below meth c H1 locs (cells + 1) (slots + x.toNatClampNeg) mc ms ls ct lv (wd.new (cellOK_Z' (by rw [mk_S]) ?_) hz ho) (hs.grow hz ho) (by show cells + 1 + (_ - (mN M + 1)) ≤ mc; omega) (by show slots + _ + (_ - (mU M + _)) ≤ ms; omega) h3 h4 hN hU
  rw [e1, hc, mk_S]
  congr 2
  funext j
  show _ = Value.int (row0 (mI M) (mN M) 0 (mN M) j)
  simp [row0, defaultValue, newarray.typeOf]
theorem g_anew {x : Int32} {idx : Nat} (w1 : Cond.classLink (kO K) idx RX4 ∈ gtbl) (hd : decode (kC K) pc = .ok (.anewarray idx, 3)) (hx : ¬ x < 0) (hb : x.toNatClampNeg ≤ 60000000) (hN : mN M + 1 ≤ mN (fM fin)) (hU : mU M + x.toNatClampNeg ≤ mU (fM fin)) (kk : GW G X K (pc + 3) L (aR (some (mN M)) :: st) (mk M 14 x.toNatClampNeg) fin) : GW G X K pc L (aI x :: st) M fin := fun p l e R s m args below meth c H locs cells slots mc ms ls ct lv wd hs h1 h2 h3 h4 h5 h6 => by
  refine W.anew ct.1 ct.2.1 ct.2.2.2.1 (ct.2.2.2.2.1 _ w1) (va_AO.use ct.2.2.2.2.2.2.2.2.2.2.2.2.1.2.2.1) rfl hd rfl hx (by omega) (by omega) (by omega) fun cA kA comp f1 f2 f3 f4 => ?_
  generalize hH1 : H.push ({ cls := cA, slots := Array.replicate x.toNatClampNeg .null, vm := .none } : Cell) = H1
  have hz : H1.size = H.size + 1 := by rw [← hH1, Array.size_push]
  have e1 : H1[H.size]? = some (arrV cA x.toNatClampNeg (fun _ => .null)) := by rw [← hH1, Array.getElem?_push_size, ← arrV_new]
  have ho : ∀ q : Nat, q < H.size → H1[q]? = H[q]? := fun q hq => by rw [← hH1, Array.getElem?_push, if_neg (Nat.ne_of_lt hq)]
  have hc : G.2.2.2.2.2.2 = cA := by
    obtain ⟨kB, cmp, -, -, -, h9⟩ := (ct.2.2.2.2.2.2.2.2.2.2.2.2.1.1.2 3 _ rfl).2
    exact Option.some.inj (h9.symm.trans f1)
  rw [wd.size] at e1
  rw [wd.size]
  refine kk p l e R s m args below meth c H1 locs (cells + 1) (slots + x.toNatClampNeg) mc ms ls ct lv (wd.new (cellOK_Q' (by rw [mk_S]) ?_) hz ho) (hs.grow hz ho) (by show cells + 1 + (_ - (mN M + 1)) ≤ mc; omega) (by show slots + _ + (_ - (mU M + _)) ≤ ms; omega) h3 h4 hN hU
  rw [e1, hc, mk_S]
  congr 2
  funext j
  show _ = va_rf ((row0 (mR M) (mN M) none (mN M) j).map (ad G))
  simp [row0, va_rf]
theorem g_getsTAKES {idx : Nat} (hw : Cond.fieldLink (kO K) idx RX2 "TAKES" "[I" ∈ gtbl) (hd : decode (kC K) pc = .ok (.getstatic idx, 3)) (kk : GW G X K (pc + 3) L (aR (some 1) :: st) M fin) : GW G X K pc L st M fin := GW.op (fun {p l e R s m args below meth c H locs cells slots Q ls} ct lv wd hs kk => by
  have eA : ad G 1 = G.2.1 1 := if_pos (by omega)
  have kk : W p l e R s m args below meth c H locs cells slots Q (F0 m (pc + 3) ls (.ref (ad G 1) :: st.map (cv G))) := kk
  rw [eA] at kk
  exact va_gets ct.1 ct.2.1 ct.2.2.2.2.2.2.2.2.2.2.2.2.2.2.1 hs ct.2.2.2.1 (ct.2.2.2.2.1 _ hw) (fun _ h => h) hd kk) kk
theorem g_getsGIVES {idx : Nat} (hw : Cond.fieldLink (kO K) idx RX2 "GIVES" "[I" ∈ gtbl) (hd : decode (kC K) pc = .ok (.getstatic idx, 3)) (kk : GW G X K (pc + 3) L (aR (some 2) :: st) M fin) : GW G X K pc L st M fin := GW.op (fun {p l e R s m args below meth c H locs cells slots Q ls} ct lv wd hs kk => by
  have eA : ad G 2 = G.2.1 2 := if_pos (by omega)
  have kk : W p l e R s m args below meth c H locs cells slots Q (F0 m (pc + 3) ls (.ref (ad G 2) :: st.map (cv G))) := kk
  rw [eA] at kk
  exact va_gets ct.1 ct.2.1 ct.2.2.2.2.2.2.2.2.2.2.2.2.2.2.2.1 hs ct.2.2.2.1 (ct.2.2.2.2.1 _ hw) (fun _ h => h) hd kk) kk
theorem g_iret {v : Int32} (hr : kR K = some .int) (hd : decode (kC K) pc = .ok (.ireturn, 1)) : GW G X K pc L ([aI v]) M (.inl (some (aI v), M)) := fun p l e R s m args below meth c H locs cells slots mc ms ls ct lv wd hs h1 h2 h3 h4 h5 h6 => by
  have hlocks := ct.2.2.2.2.2.2.1
  refine W.widen (k := mc) (n := ms) (by omega) (by omega) (vx_ret ?_)
  exact W.iret (v := v) ct.1 ct.2.1 (ct.2.2.2.2.2.1.trans hr) (fun t ht hW => ⟨rfl, by rw [ht]; exact wd, hs.F ht⟩) hs.2.2 hd
theorem g_zret {v : Int32} (hr : kR K = some .boolean) (hv : v = 0 ∨ v = 1) (hd : decode (kC K) pc = .ok (.ireturn, 1)) : GW G X K pc L ([aI v]) M (.inl (some (aI v), M)) := fun p l e R s m args below meth c H locs cells slots mc ms ls ct lv wd hs h1 h2 h3 h4 h5 h6 => by
  have hlocks := ct.2.2.2.2.2.2.1
  refine W.widen (k := mc) (n := ms) (by omega) (by omega) (vx_ret ?_)
  exact W.zret (v := v) (ty := .boolean) ct.1 ct.2.1 (ct.2.2.2.2.2.1.trans hr) (by rcases hv with rfl | rfl <;> rfl) (fun t ht hW => ⟨rfl, by rw [ht]; exact wd, hs.F ht⟩) hs.2.2 hd
theorem g_lret {v : Int64} (hr : kR K = some .long) (hd : decode (kC K) pc = .ok (.lreturn, 1)) : GW G X K pc L ([aJ v]) M (.inl (some (aJ v), M)) := fun p l e R s m args below meth c H locs cells slots mc ms ls ct lv wd hs h1 h2 h3 h4 h5 h6 => by
  have hlocks := ct.2.2.2.2.2.2.1
  refine W.widen (k := mc) (n := ms) (by omega) (by omega) (vx_ret ?_)
  exact W.lret (v := v) ct.1 ct.2.1 (ct.2.2.2.2.2.1.trans hr) (fun t ht hW => ⟨rfl, by rw [ht]; exact wd, hs.F ht⟩) hs.2.2 hd
theorem g_aret {v : Option Nat} {n : String} (hr : kR K = some (.object n)) (hd : decode (kC K) pc = .ok (.areturn, 1)) : GW G X K pc L ([aR v]) M (.inl (some (aR v), M)) := fun p l e R s m args below meth c H locs cells slots mc ms ls ct lv wd hs h1 h2 h3 h4 h5 h6 => by
  have hlocks := ct.2.2.2.2.2.2.1
  refine W.widen (k := mc) (n := ms) (by omega) (by omega) (vx_ret ?_)
  exact W.aret (v := va_rf (v.map (ad G))) ct.1 ct.2.1 (ct.2.2.2.2.2.1.trans hr) (Or.inl ⟨_, rfl⟩) (by cases v with | none => exact Or.inl rfl | some v => exact Or.inr ⟨_, rfl⟩) (fun t ht hW => ⟨rfl, by rw [ht]; exact wd, hs.F ht⟩) hs.2.2 hd
theorem g_vret  (hr : kR K = none) (hd : decode (kC K) pc = .ok (.return_, 1)) : GW G X K pc L ([]) M (.inl (none, M)) := fun p l e R s m args below meth c H locs cells slots mc ms ls ct lv wd hs h1 h2 h3 h4 h5 h6 => by
  have hlocks := ct.2.2.2.2.2.2.1
  refine W.widen (k := mc) (n := ms) (by omega) (by omega) (vx_ret ?_)
  exact W.vret ct.1 ct.2.1 (ct.2.2.2.2.2.1.trans hr) (fun t ht hW => ⟨rfl, by rw [ht]; exact wd, hs.F ht⟩) hs.2.2 hd
def tsw (lo : Int) (tg : List Nat) (d : Nat) (x : Int32) : Nat := if x.toInt < lo then d else tg.getD (x.toInt - lo).toNat d
theorem g_tsw {dflt lo hi : Int} {offs : Array Int} {len d : Nat} {tg : List Nat} {x : Int32} (hd : decode (kC K) pc = .ok (.tableswitch dflt lo hi offs, len)) (hdf : (pc : Int) + dflt = (d : Int)) (hhi : hi = lo + tg.length - 1) (ho : offs.toList.map (fun o => (pc : Int) + o) = tg.map (fun n : Nat => (n : Int)))
    (kk : GW G X K (tsw lo tg d x) L st M fin) : GW G X K pc L (aI x :: st) M fin := GW.op (fun ct lv wd hs kk => by
  unfold tsw at kk
  by_cases h : x.toInt < lo
  · rw [if_pos h] at kk
    exact lv_tableOut ct.1 ct.2.1 hd (Or.inl h) hdf kk
  · rw [if_neg h] at kk
    by_cases h2 : hi < x.toInt
    · rw [List.getD_eq_getElem?_getD, List.getElem?_eq_none (by omega)] at kk
      exact lv_tableOut ct.1 ct.2.1 hd (Or.inr h2) hdf kk
    · have hi2 : (x.toInt - lo).toNat < tg.length := by omega
      have e := congrArg (fun z => z[(x.toInt - lo).toNat]?) ho
      simp only [List.getElem?_map, List.getElem?_eq_getElem hi2, Option.map_some] at e
      cases h9 : offs.toList[(x.toInt - lo).toNat]? with
      | none => rw [h9] at e; cases e
      | some off =>
        rw [h9] at e
        have e : (pc : Int) + off = (tg[(x.toInt - lo).toNat] : Int) := Option.some.inj e
        rw [List.getD_eq_getElem?_getD, List.getElem?_eq_getElem hi2] at kk
        exact lv_tableIn ct.1 ct.2.1 hd h h2 (by rw [← Array.getElem?_toList]; exact h9) e kk) kk
def lsw : List (Int × Nat) → Nat → Int32 → Nat
  | [], d, _ => d
  | (a, t) :: r, d, x => if a = x.toInt then t else lsw r d x
theorem lsw_off {pc : Nat} {x : Int32} {d : Nat} {dflt : Int} (hdf : (pc : Int) + dflt = (d : Int)) : ∀ (ps : List (Int × Int)) (qs : List (Int × Nat)), ps.map (fun q => (q.1, (pc : Int) + q.2)) = qs.map (fun q => (q.1, (q.2 : Int))) → (pc : Int) + Op.lookupswitch.offset ps dflt x.toInt = (lsw qs d x : Int)
  | [], [], _ => hdf
  | [], _ :: _, h => by simp at h
  | _ :: _, [], h => by simp at h
  | (a, o) :: ps, (b, t) :: qs, h => by
    simp only [List.map_cons, List.cons.injEq, Prod.mk.injEq] at h
    obtain ⟨⟨h1, h2⟩, h3⟩ := h
    subst h1
    rw [Op.lookupswitch.offset_cons]
    by_cases e : a = x.toInt
    · rw [if_pos e]; simp only [lsw, if_pos e]; exact h2
    · rw [if_neg e]; simp only [lsw, if_neg e]; exact lsw_off hdf ps qs h3
theorem g_lsw {dflt : Int} {ps : Array (Int × Int)} {len d : Nat} {qs : List (Int × Nat)} {x : Int32} (hd : decode (kC K) pc = .ok (.lookupswitch dflt ps, len)) (hp : (ps.toList.zip (ps.toList.drop 1)).all (fun (a, next) => a.1 < next.1) = true) (hdf : (pc : Int) + dflt = (d : Int)) (ho : ps.toList.map (fun q => (q.1, (pc : Int) + q.2)) = qs.map (fun q => (q.1, (q.2 : Int))))
    (kk : GW G X K (lsw qs d x) L st M fin) : GW G X K pc L (aI x :: st) M fin := GW.op (fun ct lv wd hs kk => lv_lookup ct.1 ct.2.1 hd hp rfl (lsw_off hdf _ _ ho) kk) kk
end MADE
