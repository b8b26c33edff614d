section VYT
variable {p : Program} {l : Launch} {e : Env} {R : Room} {s : State} {m : MethodId} {args : Array Value} {below : List Frame} {meth : Method} {c : Code} {H : Heap} {locs : List Loc} {cells slots : Nat} {free : Addr → Prop} {ls : Array Slot} {rest : List Value} {Qc : Array Value → State → Outcome → State → Prop} {XC : String → State → State → Prop}
theorem vy_throwS {cc : ByteArray} {pc : Nat} (hexec : p.tables.exec = Jvm.exec) (hb : c.code = cc) (hl : l.stackTraces = false) {own cls text : String} {names : List String} {ik is ic mc ms sa : Nat} {A : Nat → Prop}
    (hown : s.vm.findClass own = some m.cls) (hcls : Bundle.fit cls = true) (hnames : ∀ n ∈ names, Bundle.fit n = true)
    (hk : (Cond.classLink own ik cls).before args s = true) (hini : (Cond.initialized cls).before args s = true) (hstr : vk_R own is text sa s) (hat : ∀ w ∈ vx_atS own ic cls names, w.before args s = true)
    (hgood : ∀ w ∈ Cond.classLink own ik cls :: Cond.initialized cls :: vx_atS own ic cls names, vx_ot w = true)
    (hU : vx_Zq Bundle.tN "UNASSIGNED_STACK" Bundle.steD A s s.heap) (hN : vx_Zq Bundle.tN "SUPPRESSED_SENTINEL" Bundle.listD A s s.heap) (hS : va_S A s.heap H locs) (hsize : ls.size = c.maxLocals)
    (d0 : decode cc pc = .ok (.new ik, 3)) (d3 : decode cc (pc + 3) = .ok (.dup, 1)) (d4 : decode cc (pc + 4) = .ok (.ldc is, 2)) (d6 : decode cc (pc + 6) = .ok (.invokespecial ic, 3)) (d9 : decode cc (pc + 9) = .ok (.athrow, 1))
    (hout : ∀ x ∈ c.exceptionTable.toList, covers x (pc + 9) = false)
    (hRframes : names.length + 3 < R.frames) (hRlocals : (rest.map fun v => v.category).sum + (13 * (names.length + 1) + 43) ≤ R.locals) (hRcells : cells + 1 ≤ R.cells) (hRslots : slots + 6 ≤ R.slots) (hlocks : meth.locks = false)
    (hx : ∀ (t : State) (ce : Cell), s.vm.Alike t.vm → t.heap.size = H.size + 1 → (∀ q : Nat, q < H.size → t.heap[q]? = H[q]?) → t.heap[H.size]? = some ce → ce.vm = .none → s.vm.findClass cls = some ce.cls → XC cls s t)
    (hf : ∀ z ∈ locs, free z.base) (hc : cells + 1 ≤ mc) (hs : slots + 6 ≤ ms) :
    W p l e R s m args below meth c H locs cells slots (vx_MQ below Qc XC args s mc ms free) (F0 m pc ls rest) := by
  intro T hT X
  have htr : e.platform.stackTraces = false := (show e.platform.stackTraces = l.stackTraces by rw [X.admits.platform]).trans hl
  have Y := vx_rebase X (R' := { frames := R.frames, locals := R.locals, cells := 1, slots := 6 }) (Nat.le_refl _) (Nat.le_refl _) hRcells hRslots
  obtain ⟨s', hA⟩ : ∃ z, z = (T.setVm s.vm).setFrames (.invoking m args :: below) := ⟨_, rfl⟩
  rw [← hA] at Y
  have hvm : s'.vm = s.vm := by rw [hA]; rfl
  have hhp : s'.heap = H := by rw [hA]; exact hT
  have hW0 : s.WarmedH s'.vm := by rw [hvm]; exact State.WarmedH.refl s
  have hat' : ∀ w ∈ vx_atS own ic cls names, w.before args s' = true := fun w hw => vx_ot_at hW0 hvm.symm (hgood w (List.mem_cons_of_mem _ (List.mem_cons_of_mem _ hw))) (hat w hw)
  have hk' : (Cond.classLink own ik cls).before args s' = true := vx_ot_at hW0 hvm.symm (hgood _ List.mem_cons_self) hk
  have hini' : (Cond.initialized cls).before args s' = true := vx_ot_at hW0 hvm.symm (hgood _ (List.mem_cons_of_mem _ List.mem_cons_self)) hini
  have hU' : vx_Zq Bundle.tN "UNASSIGNED_STACK" Bundle.steD A s' s'.heap := by rw [hhp]; exact vx_Zq.moved hW0.alike (hU.kept hS.2.1)
  have hN' : vx_Zq Bundle.tN "SUPPRESSED_SENTINEL" Bundle.listD A s' s'.heap := by rw [hhp]; exact vx_Zq.moved hW0.alike (hN.kept hS.2.1)
  have h : ∀ w ∈ Bundle.ownAtoms own ic cls names, w.before args s' = true := vx_own hat' (vx_isRefq hU'.1) (vx_isRefq hN'.1) hU'.2.word hN'.2.word
  have hown' : s'.vm.findClass own = some m.cls := by rw [hvm]; exact hown
  have hins : (Cond.instantiable cls 6).before args s' = true := h _ (by simp [Bundle.ownAtoms])
  obtain ⟨vm₁, cX, kX, hfX, hkX, -, -, X₁, st1⟩ := Y.newCold hexec (own := own) (C := cls) (index := ik) (n := 6) hown' hk' hins hini'
    (g := F0 m pc ls rest) rfl (by rw [hb]; exact d0) (Nat.le_refl _) (Nat.le_refl _)
  generalize hT1 : (T.setVm vm₁).pushCell { cls := cX, slots := kX.instanceTypes.map defaultValue, vm := .none } = T1 at X₁ st1
  have hcat : (Value.ref T.heap.size).category = 1 := rfl
  have hcellA : T1.heap[T.heap.size]? = some (freshCell cX kX) := by rw [← hT1]; exact State.heap_pushCell_size _ _
  have d3' : decode c.code (pc + 3) = .ok (.dup, 1) := by rw [hb]; exact d3
  have d4' : decode c.code (pc + 4) = .ok (.ldc is, 2) := by rw [hb]; exact d4
  have hstr' : vk_R own is text sa s' := vk_R.warm hW0 hstr
  obtain ⟨U, hsteps, hrun, hend, hW, hsame, ce, hce, hO⟩ := X₁.ctorThrowS hexec htr (own := own) (cls := cls) (names := names) (ic := ic) hown' hcls hnames h (fun x hx => nomatch hx) hfX hkX hcellA (by rw [hhp, hT]; exact Nat.le_refl _) (msg := .ref sa) rfl
    (g := { method := m, pc := pc + 6, locals := ls, stack := .ref sa :: .ref T.heap.size :: .ref T.heap.size :: rest, locked := none }) rfl hsize rfl rfl (rest := rest) rfl
    (by rw [hb]; exact d6) (by rw [hb]; exact d9) hout hRframes (by simp only [List.map_cons, List.sum_cons, hcat]; omega) hlocks
  have hsz8 : U.heap.size ≤ H.size + 1 := by
    have h9 := hsame.2.2.1
    rw [hhp] at h9
    exact h9
  obtain ⟨f1, f2⟩ := vx_frame hsame
  rw [hhp] at f1 f2
  have hWs : s.WarmedH U.vm := State.WarmedH.trans hW0 hW
  have hcl : s.vm.findClass cls = some ce.cls := by
    have h9 := hO.cls
    rw [hvm] at h9
    exact h9
  have hall : s.sameButNew ({ U with vm := s.vm } : State) locs mc ms := by
    subst hA
    obtain ⟨e1, e2⟩ := hsame
    rw [State.setFrames_setFrames] at e1
    have h2 : (T.setVm s.vm).sameButNew ({ U with vm := s.vm } : State) [] (0 + 1) (0 + 6) := ⟨e1, e2⟩
    have h3 := X.same.trans h2
    rw [List.append_nil] at h3
    exact h3.mono hc hs
  have hsz9 : U.heap.size = H.size + 1 := by
    have a1 : T.heap.size < U.heap.size := (Array.getElem?_eq_some_iff.mp hce).1
    have a2 : U.heap.size ≤ H.size + 1 := hsz8
    rw [hT] at a1
    omega
  refine ⟨U, ?_, .threw T.heap.size, hrun, hend, Or.inr ⟨T.heap.size, rfl, cls, ce, locs, hx U ce hWs.alike hsz9 (fun q hq => f2 q hq (fun z hz => nomatch hz)) (by rw [← hT]; exact hce) hO.vm hcl, hce, hO.vm, hcl, hWs, hall, hf⟩⟩
  refine st1 _ ?_
  show Steps p.tables e below (T1.setTop { method := m, pc := pc + 3, locals := ls, stack := .ref T.heap.size :: rest, locked := none }) _
  jvm_step X₁.here [X₁.here.top, hexec, d3', Value.category]
  exact X₁.ldcString hexec (own := own) (text := text) (index := is) (a := sa) hown' hstr'.1 hstr'.2
    (g := { method := m, pc := pc + 4, locals := ls, stack := .ref T.heap.size :: .ref T.heap.size :: rest, locked := none }) rfl d4' _ hsteps
end VYT
def exUp : List String := ["java/lang/RuntimeException", "java/lang/Exception"]
theorem g_throw {G : Gm} {X : Sc} {K : MK} {pc : Nat} {L : LVs} {M : AM} {k ik is ic : Nat} {text : String} (hk : k = 8 ∨ k = 9 ∨ k = 10) (hat : ∀ w ∈ vx_atS (kO K) ic (exN k) exUp, w ∈ gtbl ∨ w ∈ ntbl) (hot : ∀ w ∈ vx_atS (kO K) ic (exN k) exUp, vx_ot w = true)
    (w1 : Cond.classLink (kO K) ik (exN k) ∈ gtbl) (w2 : Cond.initialized (exN k) ∈ gtbl) (w3 : Cond.stringRef (kO K) is text ∈ lw_tbl) (hF : 6 ≤ kF K) (hW : 82 ≤ kW K) (hH : kH K = [])
    (d0 : decode (kC K) pc = .ok (.new ik, 3)) (d3 : decode (kC K) (pc + 3) = .ok (.dup, 1)) (d4 : decode (kC K) (pc + 4) = .ok (.ldc is, 2)) (d6 : decode (kC K) (pc + 6) = .ok (.invokespecial ic, 3)) (d9 : decode (kC K) (pc + 9) = .ok (.athrow, 1)) :
    GW G X K pc L [] M (.inr (k, mk M k 6)) := fun p l e R s m args below meth c H locs cells slots mc ms ls ct lv wd hs h1 h2 h3 h4 h5 h6 => by
  obtain ⟨sa, hsa⟩ := ct.2.2.2.2.2.2.2.2.2.2.2.2.1.2.2.2.1 _ _ _ w3
  have e1 : mN (fM (.inr (k, mk M k 6))) = mN M + 1 := rfl
  have e2 : mU (fM (.inr (k, mk M k 6))) = mU M + 6 := rfl
  rw [e1] at h1
  rw [e2] at h2
  have hcl : cls9[k]? = some (exN k, tE, 0) := by rcases hk with rfl | rfl | rfl <;> rfl
  have hKn := ct.2.2.2.2.2.2.2.2.2.2.2.2.1.1.1 k _ hcl
  refine vy_throwS (cls := exN k) (names := exUp) (sa := sa) (text := text) (A := gA G) ct.1 ct.2.1 ct.2.2.2.2.2.2.2.2.2.2.2.1 ct.2.2.2.1 (by rcases hk with rfl | rfl | rfl <;> decide +kernel) (by decide +kernel) (ct.2.2.2.2.1 _ w1) (ct.2.2.2.2.1 _ w2) hsa
    (fun w hw => (hat w hw).elim (ct.2.2.2.2.1 w) (fun h => va_Nw.use (by have h9 := (List.mem_filter.mp h).2; cases w <;> first | rfl | exact absurd h9 Bool.false_ne_true) (ct.2.2.2.2.2.2.2.2.2.2.2.2.1.2.1 w h))) (fun w hw => ?_) ct.2.2.2.2.2.2.2.2.2.2.2.2.2.2.2.2.1 ct.2.2.2.2.2.2.2.2.2.2.2.2.2.2.2.2.2 hs (lv.1.trans ct.2.2.1.symm)
    d0 d3 d4 d6 d9 (fun x hx => by rw [ct.2.2.2.2.2.2.2.2.1, hH] at hx; cases hx) (by have := ct.2.2.2.2.2.2.2.2.2.1; show 2 + 3 < R.frames; omega) (by have := ct.2.2.2.2.2.2.2.2.2.2.1; show 0 + (13 * (2 + 1) + 43) ≤ R.locals; omega) (by omega) (by omega) ct.2.2.2.2.2.2.1
    (fun t ce hvm hz ho hce hcv hcc => ⟨rfl, wd.new (cellOK_mk (k := k) (by rw [mk_S]) (by omega) hcl ⟨ce, by rw [← wd.size]; exact hce, Option.some.inj (hcc.symm.trans hKn.2.1), hcv, fun j hj => absurd hj (Nat.not_lt_zero j)⟩) hz ho, ?_⟩) hs.2.2 (by omega) (by omega)
  · rcases List.mem_cons.mp hw with rfl | hw
    · rfl
    · rcases List.mem_cons.mp hw with rfl | hw
      · rfl
      · exact hot w hw
  · have h9 := hs.grow hz ho
    exact ⟨h9.1, h9.2.1⟩
/-! ===== contracts ===== -/
def Pre9 (G : Gm) (X : Sc) (M : AM) (as : List AV) : Array Value → State → Prop := fun v U => v = (as.map (cv G)).toArray ∧ EN G U ∧ EH G X U U.heap ∧ WD G M U.heap
theorem Pre9.blind {G : Gm} {X : Sc} {M : AM} {as : List AV} : FrameBlind (Pre9 G X M as) := fun a U g mk h => ⟨h.1, h.2.1.warm (U := U.calling g mk a) (State.WarmedH.refl U), h.2.2.1.moved (U := U.calling g mk a) (Vm.Alike.refl U.vm), h.2.2.2⟩
def iniL : List AV → LVs
  | [] => []
  | .inl x :: r => some (.inl x) :: iniL r
  | .inr (.inl x) :: r => some (.inr (.inl x)) :: none :: iniL r
  | .inr (.inr x) :: r => some (.inr (.inr x)) :: iniL r
def ini (n : Nat) (as : List AV) : LVs := iniL as ++ List.replicate (n - (iniL as).length) none
theorem cv_cat {G : Gm} : ∀ v : AV, (cv G v).category = if isJ (some v) then 2 else 1
  | .inl x => rfl
  | .inr (.inl x) => rfl
  | .inr (.inr none) => rfl
  | .inr (.inr (some x)) => rfl
theorem iniL_len {G : Gm} : ∀ as : List AV, (lg_sl (as.map (cv G))).length = (iniL as).length
  | [] => rfl
  | .inl x :: r => by
    have h := iniL_len (G := G) r
    simp only [lg_sl, List.map_cons, List.flatMap_cons, List.length_append, iniL, List.length_cons] at h ⊢
    rw [← h, cv_cat]
    simp [isJ, Nat.add_comm] <;> omega
  | .inr (.inl x) :: r => by
    have h := iniL_len (G := G) r
    simp only [lg_sl, List.map_cons, List.flatMap_cons, List.length_append, iniL, List.length_cons] at h ⊢
    rw [← h, cv_cat]
    simp [isJ, Nat.add_comm] <;> omega
  | .inr (.inr x) :: r => by
    have h := iniL_len (G := G) r
    simp only [lg_sl, List.map_cons, List.flatMap_cons, List.length_append, iniL, List.length_cons] at h ⊢
    rw [← h, cv_cat]
    simp [isJ, Nat.add_comm] <;> omega
theorem iniL_get {G : Gm} : ∀ (as : List AV) (b j : Nat) (v : AV), (iniL as)[j]? = some (some v) → (b + j, cv G v) ∈ lv_args b (as.map (cv G))
  | [], b, j, v, h => by simp [iniL] at h
  | .inl x :: r, b, 0, v, h => by
    have h : some (some (Sum.inl x)) = some (some v) := h
    cases h
    exact List.mem_cons_self
  | .inl x :: r, b, j + 1, v, h => by
    have h2 := iniL_get (G := G) r (b + 1) j v h
    rw [show b + (j + 1) = b + 1 + j by omega]
    refine List.mem_cons_of_mem _ ?_
    rw [cv_cat]
    exact h2
  | .inr (.inl x) :: r, b, 0, v, h => by
    have h : some (some (Sum.inr (Sum.inl x))) = some (some v) := h
    cases h
    exact List.mem_cons_self
  | .inr (.inl x) :: r, b, 1, v, h => by
    have h : some none = some (some v) := h
    cases h
  | .inr (.inl x) :: r, b, j + 2, v, h => by
    have h2 := iniL_get (G := G) r (b + 2) j v h
    rw [show b + (j + 2) = b + 2 + j by omega]
    refine List.mem_cons_of_mem _ ?_
    rw [cv_cat]
    exact h2
  | .inr (.inr x) :: r, b, 0, v, h => by
    have h : some (some (Sum.inr (Sum.inr x))) = some (some v) := h
    cases h
    exact List.mem_cons_self
  | .inr (.inr x) :: r, b, j + 1, v, h => by
    have h2 := iniL_get (G := G) r (b + 1) j v h
    rw [show b + (j + 1) = b + 1 + j by omega]
    refine List.mem_cons_of_mem _ ?_
    rw [cv_cat]
    exact h2
theorem ini_LV {G : Gm} {as : List AV} {n : Nat} (h : (iniL as).length ≤ n) : LV G ((lg_sl (as.map (cv G)) ++ List.replicate (n - (lg_sl (as.map (cv G))).length) Slot.unset).toArray) n (ini n as) := by
  have h0 := lv_entry (as.map (cv G)) (n := n) (by rw [iniL_len]; exact h)
  refine ⟨h0.1, h0.2.1, by simp [ini]; omega, fun i v hv => ?_⟩
  refine h0.2.2 (i, cv G v) ?_
  unfold ini at hv
  by_cases hi : i < (iniL as).length
  · rw [List.getElem?_append_left hi] at hv
    have := iniL_get (G := G) as 0 i v hv
    rwa [Nat.zero_add] at this
  · rw [List.getElem?_append_right (by omega)] at hv
    have := List.eq_of_mem_replicate (List.mem_of_getElem? hv)
    cases this
abbrev ws9 (y : MethodName) (K : MK) : List Cond := .code y (kC K) (kL K) (kR K) :: gtbl
abbrev wsH (y : MethodName) (K : MK) : List Cond := .codeWith y (kC K) (kL K) (kR K) (kH K) :: gtbl
abbrev rm9 (K : MK) (M : AM) (fin : Fin') : Room := { frames := kF K, cells := mN (fM fin) - mN M, slots := mU (fM fin) - mU M, locals := kW K }
def CM (G : Gm) (X : Sc) (y : MethodName) (ws : List Cond) (K : MK) (as : List AV) (M : AM) (fin : Fin') : Prop := ∀ l : Launch, l.stackTraces = false → vx_Met l y ws (rm9 K M fin) (Pre9 G X M as) (QF G fin) (XF G fin) (mN (fM fin) - mN M) (mU (fM fin) - mU M) (gA G)
theorem CM.of {G : Gm} {X : Sc} {y : MethodName} {K : MK} {as : List AV} {M : AM} {fin : Fin'} (hy : plainName y.cls = true) (hc : y.cls = kO K) (hn : y.name = kM K) (hH : kH K = []) (hl : (iniL as).length ≤ kL K) (gw : GW G X K 0 (ini (kL K) as) [] M fin) (hN : mN M ≤ mN (fM fin)) (hU : mU M ≤ mU (fM fin)) : CM G X y (ws9 y K) K as M fin := fun l hst => by
  refine vx_ofW hy rfl ?_
  intro p e s m args below meth c s₁ B hml hnt hv
  obtain ⟨rfl, en, eh, wd⟩ := hv
  rw [lg_entry_eq]
  refine gw p l e _ s m _ below meth c s.heap [] 0 0 _ _ _ ⟨B.exec, B.bytes, hml, by rw [← hc]; exact findClass_of_methodNamed B.named, fun w hw => atoms_spec (ws := ws9 y K) B.pre w (List.mem_cons_of_mem _ hw), B.returns, B.notSynchronized, by rw [← hn]; exact (name_of_methodNamed B.named B.method).1, ?_, Nat.le_refl _, Nat.le_refl _, hst, en, eh⟩ (ini_LV hl) wd va_S.rf (by omega) (by omega) (Nat.le_refl _) (Nat.le_refl _) hN hU
  rw [hH]
  exact List.eq_nil_iff_forall_not_mem.mpr (fun x hx => hnt x hx)
theorem CM.ofH {G : Gm} {X : Sc} {y : MethodName} {K : MK} {as : List AV} {M : AM} {fin : Fin'} (hy : plainName y.cls = true) (hc : y.cls = kO K) (hn : y.name = kM K) (hl : (iniL as).length ≤ kL K) (gw : GW G X K 0 (ini (kL K) as) [] M fin) (hN : mN M ≤ mN (fM fin)) (hU : mU M ≤ mU (fM fin)) : CM G X y (wsH y K) K as M fin := fun l hst => by
  refine vx_ofWH hy rfl ?_
  intro p e s m args below meth c s₁ B hml hv
  obtain ⟨rfl, en, eh, wd⟩ := hv
  rw [lg_entry_eq]
  exact gw p l e _ s m _ below meth c s.heap [] 0 0 _ _ _ ⟨B.exec, B.bytes, hml, by rw [← hc]; exact findClass_of_methodNamed B.named, fun w hw => atoms_spec (ws := wsH y K) B.pre w (List.mem_cons_of_mem _ hw), B.returns, B.notSynchronized, by rw [← hn]; exact (name_of_methodNamed B.named B.method).1, vx_table (x := y) B (atoms_spec (ws := wsH y K) B.pre _ List.mem_cons_self), Nat.le_refl _, Nat.le_refl _, hst, en, eh⟩ (ini_LV hl) wd va_S.rf (by omega) (by omega) (Nat.le_refl _) (Nat.le_refl _) hN hU
theorem met_of {G : Gm} {l : Launch} {y : MethodName} {ws : List Cond} {rm : Room} {Pc : Array Value → State → Prop} {x : Option AV × AM} {mc ms : Nat} {free : Addr → Prop} (h : vx_Met l y ws rm Pc (QF G (.inl x)) (XF G (.inl x)) mc ms free) : Met l y ws rm Pc (QF G (.inl x)) mc ms free := by
  intro p e h1 h2 h3 s m args below h4 h5 h6 h7
  obtain ⟨n, o, a1, a2, a3, a4⟩ := h p e h1 h2 h3 s m args below h4 h5 h6 h7
  refine ⟨n, o, a1, a2, a3, ?_⟩
  rcases a4 with a4 | ⟨q, -, E, ce, L, hX, -⟩
  · exact a4
  · exact hX.elim
/-! ===== calls ===== -/
def GX (G : Gm) (X : Sc) (K : MK) (pc : Nat) (L : LVs) (M : AM) (k : Nat) (fin : Fin') : Prop :=
  ∀ (p : Program) (l : Launch) (e : Env) (R : Room) (s : State) (m : MethodId) (args : Array Value) (below : List Frame) (meth : Method) (c : Code) (H : Heap) (locs : List Loc) (cells slots mc ms : Nat) (ls : Array Slot) (rest : List Value) (q : Addr) (ce : Cell),
    CT G X K p l R s m args meth c → LV G ls (kL K) L → WD G M H → va_S (gA G) s.heap H locs → cells + (mN (fM fin) - mN M) ≤ mc → slots + (mU (fM fin) - mU M) ≤ ms → mc ≤ R.cells → ms ≤ R.slots → mN M ≤ mN (fM fin) → mU M ≤ mU (fM fin) →
    H[q]? = some ce → ce.vm = .none → s.vm.findClass (exN k) = some ce.cls → vx_W p l e R s m args below meth c H locs cells slots (vx_MQ below (QF G fin) (XF G fin) args s mc ms (gA G)) (F0 m pc ls rest) q
theorem GX.out {G : Gm} {X : Sc} {K : MK} {pc : Nat} {L : LVs} {M : AM} {k : Nat} (hH : kH K = []) : GX G X K pc L M k (.inr (k, M)) := fun p l e R s m args below meth c H locs cells slots mc ms ls rest q ce ct lv wd hs h1 h2 h3 h4 h5 h6 hq hv hc => by
  refine vx_out (E := exN k) (ce := ce) (fun x hx => by rw [ct.2.2.2.2.2.2.2.2.1, hH] at hx; cases hx) ct.2.2.2.2.2.2.1 hq hv hc (fun t ht hvm => ⟨rfl, by rw [ht]; exact wd, hs.F ht⟩) hs.2.2 (by omega) (by omega)
section CALLS
variable {G : Gm} {X : Sc} {K Kc : MK} {pc idx : Nat} {L : LVs} {rest As : List AV} {M : AM} {fin fc : Fin'} {y : MethodName}
theorem vy_call {p : Program} {l : Launch} {e : Env} {R : Room} {s : State} {m : MethodId} {args : Array Value} {below : List Frame} {meth : Method} {c : Code} {H H0 : Heap} {locs : List Loc} {cells slots mc ms : Nat} {Q : State → Prop} {ls : Array Slot} {st0 rs : List Value} {a : Array Value}
    (hr : vx_Run p l e R s m args below meth c H locs cells slots mc ms (F0 m pc ls st0) rs (QF G fc a) (XF G fc) (gA G)) (hs : va_S (gA G) H0 H locs)
    (kk : ∀ (v : Option AV) (M' : AM), fc = .inl (v, M') → ∀ (H1 : Heap) (locs1 : List Loc), WD G M' H1 → va_S (gA G) H0 H1 locs1 → W p l e R s m args below meth c H1 locs1 (cells + mc) (slots + ms) Q (F0 m (pc + 3) ls ((v.map (cv G)).toList ++ rs)))
    (kx : ∀ (k : Nat) (M' : AM), fc = .inr (k, M') → ∀ (H1 : Heap) (locs1 : List Loc) (q : Addr) (ce : Cell), WD G M' H1 → va_S (gA G) H0 H1 locs1 → H1[q]? = some ce → ce.vm = .none → s.vm.findClass (exN k) = some ce.cls → vx_W p l e R s m args below meth c H1 locs1 (cells + mc) (slots + ms) Q (F0 m pc ls rs) q) :
    W p l e R s m args below meth c H locs cells slots Q (F0 m pc ls st0) := by
  intro T hT X9
  rcases hr T hT X9 with ⟨v, st₀, t, T', L9, h0, X', hL, e1, e2, hQ, st⟩ | ⟨q, st₀, t, T', L9, E, ce, h0, X', hL, e1, e2, hX, hce, hcv, hcl, st⟩
  · rcases fc with ⟨v9, M'⟩ | x
    · obtain ⟨ho, hwd, hF⟩ := hQ
      cases Outcome.returned.inj ho
      obtain ⟨k1, k2, k3⟩ := vx_keep h0 e1 hs (fun q _ h => h) (fun q h => h) hL hF
      obtain ⟨t2, a1, b1⟩ := kk v9 M' rfl T'.heap (locs ++ L9) (by rw [e1]; exact hwd) k3 T' rfl X'
      exact ⟨t2, st t2 a1, b1⟩
    · exact hQ.elim
  · rcases fc with x | ⟨k9, M'⟩
    · exact hX.elim
    · obtain ⟨rfl, hwd, hF⟩ := hX
      obtain ⟨k1, k2, k3⟩ := vx_keep h0 e1 hs (fun q _ h => h) (fun q h => h) hL hF
      obtain ⟨t2, a1, b1⟩ := kx k9 M' rfl T'.heap (locs ++ L9) q ce (by rw [e1]; exact hwd) k3 (by rw [e1]; exact hce) hcv hcl T' rfl X'
      exact ⟨t2, st.trans a1, b1⟩
theorem vy_callR {x : Option AV × AM} {p : Program} {l : Launch} {e : Env} {R : Room} {s : State} {m : MethodId} {args : Array Value} {below : List Frame} {meth : Method} {c : Code} {H H0 : Heap} {locs : List Loc} {cells slots mc ms : Nat} {Q : State → Prop} {ls : Array Slot} {st0 rs : List Value} {a : Array Value}
    (hr : va_Run p l e R s m args below meth c H locs cells slots mc ms (F0 m pc ls st0) rs (QF G (.inl x) a) (gA G)) (hs : va_S (gA G) H0 H locs)
    (kk : ∀ (H1 : Heap) (locs1 : List Loc), WD G x.2 H1 → va_S (gA G) H0 H1 locs1 → W p l e R s m args below meth c H1 locs1 (cells + mc) (slots + ms) Q (F0 m (pc + 3) ls ((x.1.map (cv G)).toList ++ rs))) :
    W p l e R s m args below meth c H locs cells slots Q (F0 m pc ls st0) := by
  intro T hT X9
  obtain ⟨v, st₀, t, T', L9, h0, X', hL, e1, e2, hQ, st⟩ := hr T hT X9
  obtain ⟨v9, M'⟩ := x
  obtain ⟨ho, hwd, hF⟩ := hQ
  cases Outcome.returned.inj ho
  obtain ⟨k1, k2, k3⟩ := vx_keep h0 e1 hs (fun q _ h => h) (fun q h => h) hL hF
  obtain ⟨t2, a1, b1⟩ := kk T'.heap (locs ++ L9) (by rw [e1]; exact hwd) k3 T' rfl X'
  exact ⟨t2, st t2 a1, b1⟩
def catA : AV → Nat
  | .inr (.inl _) => 2
  | _ => 1
theorem catA_cv : ∀ v : AV, (cv G v).category = catA v
  | .inl x => rfl
  | .inr (.inl x) => rfl
  | .inr (.inr none) => rfl
  | .inr (.inr (some x)) => rfl
theorem catA_sum : ∀ rs : List AV, ((rs.map (cv G)).map fun v => v.category).sum = (rs.map catA).sum
  | [] => rfl
  | v :: rs => by simp only [List.map_cons, List.sum_cons]; rw [catA_cv, catA_sum rs]
theorem push_cv (v : Option AV) (rs : List AV) : (v.map (cv G)).toList ++ rs.map (cv G) = (v.toList ++ rs).map (cv G) := by cases v <;> rfl
theorem good9 (hw : Cond.code y (kC Kc) (kL Kc) (kR Kc) ∈ gtbl) : GoodIn gtbl (ws9 y Kc) := fun w h => by
  rcases List.mem_cons.mp h with rfl | h
  · exact gtbl_in _ hw
  · exact gtbl_in w h
theorem goodH (hw : Cond.codeWith y (kC Kc) (kL Kc) (kR Kc) (kH Kc) ∈ gtbl) : GoodIn gtbl (wsH y Kc) := fun w h => by
  rcases List.mem_cons.mp h with rfl | h
  · exact gtbl_in _ hw
  · exact gtbl_in w h
theorem goodSH (w1 : Cond.methodLink (kO K) idx y ∈ gtbl) (w2 : Cond.static y ∈ gtbl) (w3 : Cond.initialized y.cls ∈ gtbl) (w5 : Cond.codeWith y (kC Kc) (kL Kc) (kR Kc) (kH Kc) ∈ gtbl) : GoodIn gtbl (va_wsS (kO K) idx y (wsH y Kc)) := by
  intro w hw
  unfold va_wsS at hw
  rcases List.mem_append.mp hw with hw | hw
  · refine gtbl_in w ?_
    simp only [List.mem_cons, List.not_mem_nil, or_false] at hw
    rcases hw with rfl | rfl | rfl <;> assumption
  · exact goodH w5 w hw
def mhOK (y : MethodName) (n : Nat) : Prop := y.cls ≠ "java/lang/invoke/MethodHandle" ∧ y.cls ≠ "java/lang/invoke/VarHandle" ∧ (parseMethodDescriptor y.desc).map (fun d => d.parameters.length) = some n
def rOK (K Kc : MK) : Prop := kF Kc + 1 ≤ kF K ∧ 8 + (kL Kc + 11) + kW Kc ≤ kW K
/-- what a call owes to its count of cells and slots -/
def nOK (M : AM) (fc fin : Fin') : Prop := mN M ≤ mN (fM fc) ∧ mU M ≤ mU (fM fc) ∧ mN (fM fc) ≤ mN (fM fin) ∧ mU (fM fc) ≤ mU (fM fin)
theorem g_callV {k N r : Nat} {C : String} {T : u_T} (hcm : CM G X y (ws9 y Kc) Kc (aR (some r) :: As) M fc) (hn : nOK M fc fin) (hk : KF k C T N) (hr : Lv M r k) (hyC : y.cls = C) (w1 : Cond.methodLink (kO K) idx y ∈ gtbl) (w2 : Cond.instanceMethod y ∈ gtbl) (w3 : Cond.selects C y y ∈ gtbl) (w4 : Cond.initialized C ∈ gtbl) (w5 : Cond.code y (kC Kc) (kL Kc) (kR Kc) ∈ gtbl) (hmh : mhOK y As.length) (hR : rOK K Kc) (hst : (rest.map catA).sum ≤ 8) (hd : decode (kC K) pc = .ok (.invokevirtual idx, 3))
    (kr : ∀ (v : Option AV) (M' : AM), fc = .inl (v, M') → GW G X K (pc + 3) L (v.toList ++ rest) M' fin) (kx : ∀ (q : Nat) (M' : AM), fc = .inr (q, M') → GX G X K pc L M' q fin) : GW G X K pc L (As.reverse ++ aR (some r) :: rest) M fin := fun p l e R s m args below meth c H locs cells slots mc ms ls ct lv wd hs h1 h2 h3 h4 h5 h6 => by
  obtain ⟨h8, hcl, -⟩ := hk
  obtain ⟨q, hq, cell, q1, q2, q3, q4⟩ := cellOK_obj (wd.1 r hr.1 hr.2.1) hr.2.2 (by omega)
  obtain ⟨n1, n2, n3, n4⟩ := hn
  have hfr := ct.2.2.2.2.2.2.2.2.2.1
  have hlo := ct.2.2.2.2.2.2.2.2.2.2.1
  refine vy_call (vx_runV (C := C) (y := y) (ws := ws9 y Kc) (rm := rm9 Kc M fc) (bytes := kC Kc) (maxL := kL Kc) (ret := kR Kc) (As := As.map (cv G)) (b := ad G r) (rest := rest.map (cv G)) (Ts := gtbl) ⟨ct.1, ct.2.1, ct.2.2.1, ct.2.2.2.1, ct.2.2.2.2.1⟩ (hcm l ct.2.2.2.2.2.2.2.2.2.2.2.1)
    (cwV As.length ct.2.2.2.2.1 ?_ rfl rfl rfl ⟨hyC, hmh⟩ ⟨Nat.le_trans hR.1 hfr, Nat.le_trans hR.2 hlo⟩) ⟨Pre9.blind, ⟨cell, q1, by rw [q3]; rfl, ?_⟩, fun U hU hW => ⟨rfl, ct.2.2.2.2.2.2.2.2.2.2.2.2.1.warm hW, (ct.2.2.2.2.2.2.2.2.2.2.2.2.2.kept (H1 := U.heap) (fun a h7 h8 => by rw [hU]; exact hs.2.1 a h7 h8)).moved hW.alike, by rw [hU]; exact wd⟩⟩ rfl (List.length_map _) lv.1 ?_ (lv_room (by rw [catA_sum]; exact hst)) hd ⟨by omega, by omega⟩) hs (fun v M' e9 H1 l1 hwd hS => ?_) (fun q' M' e9 H1 l1 a9 ce hwd hS f1 f2 f3 => ?_)
  · intro w hw
    unfold wsV at hw
    rcases List.mem_append.mp hw with hw | hw
    · refine gtbl_in w ?_
      simp only [List.mem_cons, List.not_mem_nil, or_false] at hw
      rcases hw with rfl | rfl | rfl | rfl <;> assumption
    · exact good9 w5 w hw
  · rw [q2]
    exact (ct.2.2.2.2.2.2.2.2.2.2.2.2.1.1.1 k _ hcl).2.1
  · show (As.reverse ++ aR (some r) :: rest).map (cv G) = (As.map (cv G)).reverse ++ .ref (ad G r) :: rest.map (cv G)
    rw [List.map_append, List.map_reverse]
    rfl
  · subst e9
    rw [push_cv]
    exact kr v M' rfl p l e R s m args below meth c H1 l1 _ _ mc ms ls ct lv hwd hS (by have : mN (fM (.inl (v, M'))) = mN M' := rfl; omega) (by have : mU (fM (.inl (v, M'))) = mU M' := rfl; omega) h3 h4 n3 n4
  · subst e9
    exact kx q' M' rfl p l e R s m args below meth c H1 l1 _ _ mc ms ls _ a9 ce ct lv hwd hS (by have : mN (fM (.inr (q', M'))) = mN M' := rfl; omega) (by have : mU (fM (.inr (q', M'))) = mU M' := rfl; omega) h3 h4 n3 n4 f1 f2 f3
theorem g_callS {x : Option AV × AM} (hcm : CM G X y (ws9 y Kc) Kc (As) M (.inl x)) (hn : nOK M (.inl x) fin) (w1 : Cond.methodLink (kO K) idx y ∈ gtbl) (w2 : Cond.static y ∈ gtbl) (w3 : Cond.initialized y.cls ∈ gtbl) (w5 : Cond.code y (kC Kc) (kL Kc) (kR Kc) ∈ gtbl) (hmh : mhOK y As.length) (hR : rOK K Kc) (hst : (rest.map catA).sum ≤ 8) (hd : decode (kC K) pc = .ok (.invokestatic idx, 3)) (kr : GW G X K (pc + 3) L (x.1.toList ++ rest) x.2 fin) : GW G X K pc L (As.reverse ++ rest) M fin := fun p l e R s m args below meth c H locs cells slots mc ms ls ct lv wd hs h1 h2 h3 h4 h5 h6 => by
  obtain ⟨n1, n2, n3, n4⟩ := hn
  have hfr := ct.2.2.2.2.2.2.2.2.2.1
  have hlo := ct.2.2.2.2.2.2.2.2.2.2.1
  refine vy_callR (va_runS (y := y) (ws := (ws9 y Kc)) (rm := rm9 Kc M (.inl x)) (bytes := kC Kc) (maxL := kL Kc) (ret := kR Kc) (As := As.map (cv G)) (rest := rest.map (cv G)) (Ts := gtbl) ⟨ct.1, ct.2.1, ct.2.2.1, ct.2.2.2.1, ct.2.2.2.2.1⟩ (met_of (hcm l ct.2.2.2.2.2.2.2.2.2.2.2.1))
    ⟨callB_of As.length ct.2.2.2.2.1 (good9 w5) rfl rfl rfl (ct.2.2.2.2.1 _ w3) (ct.2.2.2.2.1 _ w1) hmh ⟨Nat.le_trans hR.1 hfr, Nat.le_trans hR.2 hlo⟩, ct.2.2.2.2.1 _ w2⟩ ⟨Pre9.blind, fun U hU hW => ⟨rfl, ct.2.2.2.2.2.2.2.2.2.2.2.2.1.warm hW, (ct.2.2.2.2.2.2.2.2.2.2.2.2.2.kept (H1 := U.heap) (fun a h7 h8 => by rw [hU]; exact hs.2.1 a h7 h8)).moved hW.alike, by rw [hU]; exact wd⟩⟩ rfl (List.length_map _) lv.1 (by show List.map (cv G) (As.reverse ++ rest) = _; rw [List.map_append, List.map_reverse]; try rfl) (lv_room (by rw [catA_sum]; exact hst)) hd ⟨by omega, by omega⟩) hs (fun H1 l1 hwd hS => ?_)
  rw [push_cv]
  exact kr p l e R s m args below meth c H1 l1 _ _ mc ms ls ct lv hwd hS (by have : mN (fM (.inl x)) = mN x.2 := rfl; omega) (by have : mU (fM (.inl x)) = mU x.2 := rfl; omega) h3 h4 n3 n4
theorem g_callSN {host : String} {x : Option AV × AM} (hcm : CM G X y (ws9 y Kc) Kc (As) M (.inl x)) (hn : nOK M (.inl x) fin) (w1 : Cond.methodLinkNest (kO K) idx y host ∈ ntbl) (w2 : Cond.static y ∈ gtbl) (w3 : Cond.initialized y.cls ∈ gtbl) (w5 : Cond.code y (kC Kc) (kL Kc) (kR Kc) ∈ gtbl) (hmh : mhOK y As.length) (hR : rOK K Kc) (hst : (rest.map catA).sum ≤ 8) (hd : decode (kC K) pc = .ok (.invokestatic idx, 3)) (kr : GW G X K (pc + 3) L (x.1.toList ++ rest) x.2 fin) : GW G X K pc L (As.reverse ++ rest) M fin := fun p l e R s m args below meth c H locs cells slots mc ms ls ct lv wd hs h1 h2 h3 h4 h5 h6 => by
  obtain ⟨n1, n2, n3, n4⟩ := hn
  have hfr := ct.2.2.2.2.2.2.2.2.2.1
  have hlo := ct.2.2.2.2.2.2.2.2.2.2.1
  refine vy_callR (va_runSN (y := y) (ws := (ws9 y Kc)) (rm := rm9 Kc M (.inl x)) (bytes := kC Kc) (maxL := kL Kc) (ret := kR Kc) (As := As.map (cv G)) (rest := rest.map (cv G)) (Ts := gtbl) ⟨ct.1, ct.2.1, ct.2.2.1, ct.2.2.2.1, ct.2.2.2.2.1⟩ (met_of (hcm l ct.2.2.2.2.2.2.2.2.2.2.2.1))
    ⟨va_cnB As.length ct.2.2.2.2.1 (good9 w5) rfl rfl rfl (ct.2.2.2.2.2.2.2.2.2.2.2.2.1.2.1 _ w1) (ct.2.2.2.2.1 _ w3) hmh ⟨Nat.le_trans hR.1 hfr, Nat.le_trans hR.2 hlo⟩, ct.2.2.2.2.1 _ w2, trivial⟩ ⟨Pre9.blind, fun U hU hW => ⟨rfl, ct.2.2.2.2.2.2.2.2.2.2.2.2.1.warm hW, (ct.2.2.2.2.2.2.2.2.2.2.2.2.2.kept (H1 := U.heap) (fun a h7 h8 => by rw [hU]; exact hs.2.1 a h7 h8)).moved hW.alike, by rw [hU]; exact wd⟩⟩ rfl (List.length_map _) lv.1 (by show List.map (cv G) (As.reverse ++ rest) = _; rw [List.map_append, List.map_reverse]; try rfl) (lv_room (by rw [catA_sum]; exact hst)) hd ⟨by omega, by omega⟩) hs (fun H1 l1 hwd hS => ?_)
  rw [push_cv]
  exact kr p l e R s m args below meth c H1 l1 _ _ mc ms ls ct lv hwd hS (by have : mN (fM (.inl x)) = mN x.2 := rfl; omega) (by have : mU (fM (.inl x)) = mU x.2 := rfl; omega) h3 h4 n3 n4
theorem g_callI {r : Nat} {x : Option AV × AM} (hcm : CM G X y (ws9 y Kc) Kc (aR (some r) :: As) M (.inl x)) (hn : nOK M (.inl x) fin) (hnm : y.name = "<init>") (hrt : kR Kc = none) (w1 : Cond.methodLink (kO K) idx y ∈ gtbl) (w2 : Cond.instanceMethod y ∈ gtbl) (w3 : Cond.initialized y.cls ∈ gtbl) (w5 : Cond.code y (kC Kc) (kL Kc) (kR Kc) ∈ gtbl) (hmh : mhOK y As.length) (hR : rOK K Kc) (hst : (rest.map catA).sum ≤ 8) (hd : decode (kC K) pc = .ok (.invokespecial idx, 3)) (kr : GW G X K (pc + 3) L (x.1.toList ++ rest) x.2 fin) : GW G X K pc L (As.reverse ++ aR (some r) :: rest) M fin := fun p l e R s m args below meth c H locs cells slots mc ms ls ct lv wd hs h1 h2 h3 h4 h5 h6 => by
  obtain ⟨n1, n2, n3, n4⟩ := hn
  have hfr := ct.2.2.2.2.2.2.2.2.2.1
  have hlo := ct.2.2.2.2.2.2.2.2.2.2.1
  refine vy_callR (va_runI (y := y) (ws := (ws9 y Kc)) (rm := rm9 Kc M (.inl x)) (bytes := kC Kc) (maxL := kL Kc) (b := ad G r) (As := As.map (cv G)) (rest := rest.map (cv G)) (Ts := gtbl) ⟨ct.1, ct.2.1, ct.2.2.1, ct.2.2.2.1, ct.2.2.2.2.1⟩ (met_of (hcm l ct.2.2.2.2.2.2.2.2.2.2.2.1))
    (cwI As.length ct.2.2.2.2.1 (good9 w5) (by show Cond.code y (kC Kc) (kL Kc) (kR Kc) :: gtbl = _; rw [hrt]) rfl rfl (ct.2.2.2.2.1 _ w3) (ct.2.2.2.2.1 _ w1) (ct.2.2.2.2.1 _ w2) hnm hmh ⟨Nat.le_trans hR.1 hfr, Nat.le_trans hR.2 hlo⟩) ⟨Pre9.blind, fun U hU hW => ⟨rfl, ct.2.2.2.2.2.2.2.2.2.2.2.2.1.warm hW, (ct.2.2.2.2.2.2.2.2.2.2.2.2.2.kept (H1 := U.heap) (fun a h7 h8 => by rw [hU]; exact hs.2.1 a h7 h8)).moved hW.alike, by rw [hU]; exact wd⟩⟩ rfl (List.length_map _) lv.1 (by show List.map (cv G) (As.reverse ++ aR (some r) :: rest) = _; rw [List.map_append, List.map_reverse]; try rfl) (lv_room (by rw [catA_sum]; exact hst)) hd ⟨by omega, by omega⟩) hs (fun H1 l1 hwd hS => ?_)
  rw [push_cv]
  exact kr p l e R s m args below meth c H1 l1 _ _ mc ms ls ct lv hwd hS (by have : mN (fM (.inl x)) = mN x.2 := rfl; omega) (by have : mU (fM (.inl x)) = mU x.2 := rfl; omega) h3 h4 n3 n4
theorem g_callSH {x : Option AV × AM} (hcm : CM G X y (wsH y Kc) Kc (As) M (.inl x)) (hn : nOK M (.inl x) fin) (w1 : Cond.methodLink (kO K) idx y ∈ gtbl) (w2 : Cond.static y ∈ gtbl) (w3 : Cond.initialized y.cls ∈ gtbl) (w5 : Cond.codeWith y (kC Kc) (kL Kc) (kR Kc) (kH Kc) ∈ gtbl) (hmh : mhOK y As.length) (hR : rOK K Kc) (hst : (rest.map catA).sum ≤ 8) (hd : decode (kC K) pc = .ok (.invokestatic idx, 3)) (kr : GW G X K (pc + 3) L (x.1.toList ++ rest) x.2 fin) : GW G X K pc L (As.reverse ++ rest) M fin := fun p l e R s m args below meth c H locs cells slots mc ms ls ct lv wd hs h1 h2 h3 h4 h5 h6 => by
  obtain ⟨n1, n2, n3, n4⟩ := hn
  have hfr := ct.2.2.2.2.2.2.2.2.2.1
  have hlo := ct.2.2.2.2.2.2.2.2.2.2.1
  refine vy_callR (vx_runSW (y := y) (ws := (wsH y Kc)) (rm := rm9 Kc M (.inl x)) (bytes := kC Kc) (maxL := kL Kc) (ret := kR Kc) (hh := kH Kc) (As := As.map (cv G)) (rest := rest.map (cv G)) (Ts := gtbl) ⟨ct.1, ct.2.1, ct.2.2.1, ct.2.2.2.1, ct.2.2.2.2.1⟩ (met_of (hcm l ct.2.2.2.2.2.2.2.2.2.2.2.1))
    (vx_cwSW As.length ct.2.2.2.2.1 (goodSH w1 w2 w3 w5) rfl rfl rfl hmh ⟨Nat.le_trans hR.1 hfr, Nat.le_trans hR.2 hlo⟩) ⟨Pre9.blind, fun U hU hW => ⟨rfl, ct.2.2.2.2.2.2.2.2.2.2.2.2.1.warm hW, (ct.2.2.2.2.2.2.2.2.2.2.2.2.2.kept (H1 := U.heap) (fun a h7 h8 => by rw [hU]; exact hs.2.1 a h7 h8)).moved hW.alike, by rw [hU]; exact wd⟩⟩ rfl (List.length_map _) lv.1 (by show List.map (cv G) (As.reverse ++ rest) = _; rw [List.map_append, List.map_reverse]; try rfl) (lv_room (by rw [catA_sum]; exact hst)) hd ⟨by omega, by omega⟩) hs (fun H1 l1 hwd hS => ?_)
  rw [push_cv]
  exact kr p l e R s m args below meth c H1 l1 _ _ mc ms ls ct lv hwd hS (by have : mN (fM (.inl x)) = mN x.2 := rfl; omega) (by have : mU (fM (.inl x)) = mU x.2 := rfl; omega) h3 h4 n3 n4
theorem g_objI {r : Nat} {st : List AV} (w1 : Cond.methodLink (kO K) idx objectInit ∈ gtbl) (w2 : Cond.instanceMethod objectInit ∈ gtbl) (w3 : Cond.code objectInit ⟨#[0xb1]⟩ 1 none ∈ gtbl) (hF : 1 ≤ kF K) (hW : (st.map catA).sum + 12 ≤ kW K) (hd : decode (kC K) pc = .ok (.invokespecial idx, 3)) (kk : GW G X K (pc + 3) L st M fin) : GW G X K pc L (aR (some r) :: st) M fin := GW.op (fun ct lv wd hs kk => by
  have hfr := ct.2.2.2.2.2.2.2.2.2.1
  have hlo := ct.2.2.2.2.2.2.2.2.2.2.1
  refine W.objInit ct.1 ct.2.1 ct.2.2.2.1 (ct.2.2.2.2.1 _ w1) (ct.2.2.2.2.1 _ w2) (ct.2.2.2.2.1 _ w3) rfl (by rw [ct.2.2.1]; exact lv.1) rfl hd (by omega) ?_ kk
  have e9 := catA_sum (G := G) st
  show 2 * 0 + _ + 12 ≤ _
  omega) kk
end CALLS
