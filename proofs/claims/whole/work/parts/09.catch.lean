section VXC
variable {p : Program} {l : Launch} {e : Env} {R : Room} {s : State} {m : MethodId} {args : Array Value} {below : List Frame} {meth : Method} {c : Code} {H : Heap} {locs : List Loc} {cells slots : Nat} {Q : State → Prop}
variable {mc ms : Nat} {free : Addr → Prop} {A0 A1 : Nat → Prop} {H0 : Heap} {a : Array Value} {pc : Nat} {ls : Array Slot} {st0 rest : List Value}
theorem vx_catch {own name : String} {E : String} {ce : Cell} {q : Addr} (hown : s.vm.findClass own = some m.cls) (pre : List ExceptionTableEntry) (x : ExceptionTableEntry) (suf : List ExceptionTableEntry) (hsplit : c.exceptionTable.toList = pre ++ x :: suf)
    (hpass : ∀ z ∈ pre, covers z pc = false ∨ (z.catchType ≠ 0 ∧ ∃ nm : String, (Cond.classLink own z.catchType nm).before args s = true ∧ va_Nc E nm s)) (hx : covers x pc = true) (h0 : x.catchType ≠ 0)
    (hlink : (Cond.classLink own x.catchType name).before args s = true) (hcast : (Cond.castable E name).before args s = true) (hcell : H[q]? = some ce) (hv : ce.vm = .none) (hcl : s.vm.findClass E = some ce.cls)
    (kk : W p l e R s m args below meth c H locs cells slots Q (F0 m x.handlerPc ls [.ref q])) : vx_W p l e R s m args below meth c H locs cells slots Q (F0 m pc ls rest) q := by
  intro T hT X
  have hpl : e.platform.magicAccessors = ({} : Platform).magicAccessors := by rw [X.admits.platform]
  obtain ⟨c3, c4, hc3, hc4, hasg⟩ := Cond.castable_spec hcast
  cases Option.some.inj (hc3.symm.trans hcl)
  obtain ⟨c5, hc5, hcl5⟩ := Cond.classLink_spec hown hlink e.platform hpl
  cases Option.some.inj (hc4.symm.trans hc5)
  obtain ⟨vm', X', st⟩ := Stand.thenCaughtThrough X q (g := F0 m pc ls rest) rfl (Steps.refl _) (by rw [hT]; exact hcell) (by rw [hv]; rfl) (by obtain ⟨k9, h9, -⟩ := Vm.findClass_spec hcl; exact ⟨k9, h9⟩) pre x suf hsplit
    (fun z hz => by
      rcases hpass z hz with h | ⟨hz0, nm, hl1, hn1⟩
      · exact Or.inl h
      · obtain ⟨c6, hc6, hcl6⟩ := Cond.classLink_spec hown hl1 e.platform hpl
        obtain ⟨a8, b8, h1, h2, h3⟩ := hn1
        cases Option.some.inj (h1.symm.trans hcl)
        cases Option.some.inj (h2.symm.trans hc6)
        exact Or.inr ⟨hz0, _, hcl6, h3⟩) hx (Or.inr ⟨h0, c4, hcl5, hasg⟩)
  obtain ⟨t, a1, b1⟩ := kk (T.setVm vm') hT X'
  exact ⟨t, st.trans a1, b1⟩
end VXC
theorem vx_outP {p : Program} {l : Launch} {e : Env} {R : Room} {s : State} {m : MethodId} {args : Array Value} {below : List Frame} {meth : Method} {c : Code} {H : Heap} {locs : List Loc} {cells slots : Nat} {free : Addr → Prop} {ls : Array Slot} {rest : List Value} {Qc : Array Value → State → Outcome → State → Prop} {XC : String → State → State → Prop}
    {pc : Nat} {own E : String} {ce : Cell} {q : Addr} {mc ms : Nat} (hown : s.vm.findClass own = some m.cls) (hlocks : meth.locks = false)
    (hpass : ∀ z ∈ c.exceptionTable.toList, covers z pc = false ∨ (z.catchType ≠ 0 ∧ ∃ nm : String, (Cond.classLink own z.catchType nm).before args s = true ∧ va_Nc E nm s)) (hcell : H[q]? = some ce) (hv : ce.vm = .none) (hcl : s.vm.findClass E = some ce.cls)
    (hx : ∀ t : State, t.heap = H → s.vm.Alike t.vm → XC E s t) (hf : ∀ z ∈ locs, free z.base) (hc : cells ≤ mc) (hs : slots ≤ ms) :
    vx_W p l e R s m args below meth c H locs cells slots (vx_MQ below Qc XC args s mc ms free) (F0 m pc ls rest) q := by
  intro T hT X
  have hpl : e.platform.magicAccessors = ({} : Platform).magicAccessors := by rw [X.admits.platform]
  obtain ⟨vm', hW', X', st⟩ := Stand.outThrough X hlocks q (g := F0 m pc ls rest) rfl rfl rfl (cell := ce) (by rw [hT]; exact hcell) (by rw [hv]; rfl)
    (by obtain ⟨k9, h9, -⟩ := Vm.findClass_spec hcl; exact ⟨k9, h9⟩) (fun z hz => by
      rcases hpass z hz with h | ⟨hz0, nm, hl1, hn1⟩
      · exact Or.inl h
      · obtain ⟨c6, hc6, hcl6⟩ := Cond.classLink_spec hown hl1 e.platform hpl
        obtain ⟨a8, b8, h1, h2, h3⟩ := hn1
        cases Option.some.inj (h1.symm.trans hcl)
        cases Option.some.inj (h2.symm.trans hc6)
        exact Or.inr ⟨hz0, _, hcl6, h3⟩)
  obtain ⟨g₀, hfr⟩ := X'.frames_eq
  have hcell9 : ((T.setVm vm').setFrames (.throwing q :: below)).heap[q]? = some ce := by
    show T.heap[q]? = some ce
    rw [hT]; exact hcell
  have hend : Ended ((T.setVm vm').setFrames (.throwing q :: below)) below (.threw q) := State.frames_setFrames _ (State.cur_lt_of_frames hfr)
  refine ⟨(T.setVm vm').setFrames (.throwing q :: below), ?_, .threw q, X'.here.running, hend, Or.inr ⟨q, rfl, E, ce, locs, hx _ hT (X'.ends _).1.alike, hcell9, hv, hcl, (X'.ends _).1, (X'.ends _).2.mono hc hs, hf⟩⟩
  rw [X.pushThrowing_eq]
  exact st

def stN (L : LVs) (i : Nat) : LVs := (st1 L i (aI 0)).set i none
theorem LV.sN {G : Gm} {ls ls' : Array Slot} {n i : Nat} {L : LVs} {v : Value} (h : LV G ls n L) (h' : lv_has ls' n ((i, v) :: (prs G 0 L).filter (fun q => !(q.1 == i) && !(q.1 + 1 == i && q.2.category == 2)))) : LV G ls' n (stN L i) := by
  refine ⟨h'.1, h'.2.1, by unfold stN; rw [List.length_set, st1_len]; exact h.2.2.1, fun j w hw => ?_⟩
  unfold stN at hw
  rw [List.getElem?_set] at hw
  by_cases e : i = j
  · rw [if_pos e] at hw
    split at hw <;> cases hw
  · rw [if_neg e] at hw
    rcases st1_get (G := G) L i (aI 0) j w hw with ⟨a, -⟩ | ⟨a, b, c⟩
    · exact absurd a.symm e
    · refine h'.2.2 (j, cv G w) (List.mem_cons_of_mem _ (List.mem_filter.mpr ⟨?_, ?_⟩))
      · have := prs_in (G := G) L 0 j w b
        rwa [Nat.zero_add] at this
      · simp only [Bool.and_eq_true, Bool.not_eq_true', beq_eq_false_iff_ne, ne_eq, Bool.and_eq_false_iff]
        refine ⟨a, ?_⟩
        by_cases e2 : j + 1 = i
        · exact Or.inr (fun z => c ⟨e2, z⟩)
        · exact Or.inl e2
section CATCH
variable {G : Gm} {X : Sc} {K : MK} {pc a b h ct k : Nat} {L : LVs} {M : AM} {fin : Fin'} {pre suf : List (Nat × Nat × Nat × Nat)}
theorem GX.catchW (hH : kH K = pre ++ (a, b, h, ct) :: suf) (hpass : ∀ z ∈ pre, covers (⟨z.1, z.2.1, z.2.2.1, z.2.2.2⟩ : ExceptionTableEntry) pc = false ∨ (z.2.2.2 ≠ 0 ∧ k = 8 ∧ Cond.classLink (kO K) z.2.2.2 (exN 10) ∈ gtbl)) (hcov : covers (⟨a, b, h, ct⟩ : ExceptionTableEntry) pc = true) (h0 : ct ≠ 0) (w1 : Cond.classLink (kO K) ct (exN k) ∈ gtbl) (w2 : Cond.castable (exN k) (exN k) ∈ ntbl)
    (kk : ∀ (p : Program) (l : Launch) (e : Env) (R : Room) (s : State) (m : MethodId) (args : Array Value) (below : List Frame) (meth : Method) (c : Code) (H : Heap) (locs : List Loc) (cells slots mc ms : Nat) (ls : Array Slot) (q : Addr),
      CT G X K p l R s m args meth c → LV G ls (kL K) L → WD G M H → va_S (gA G) s.heap H locs → cells + (mN (fM fin) - mN M) ≤ mc → slots + (mU (fM fin) - mU M) ≤ ms → mc ≤ R.cells → ms ≤ R.slots → mN M ≤ mN (fM fin) → mU M ≤ mU (fM fin) → W p l e R s m args below meth c H locs cells slots (vx_MQ below (QF G fin) (XF G fin) args s mc ms (gA G)) (F0 m h ls [.ref q])) : GX G X K pc L M k fin :=
  fun p l e R s m args below meth c H locs cells slots mc ms ls rest q ce ct9 lv wd hs h1 h2 h3 h4 h5 h6 hq hv hc => by
  refine vx_catch (own := kO K) (name := exN k) (E := exN k) (ce := ce) ct9.2.2.2.1 (tableOf pre) ⟨a, b, h, ct⟩ (tableOf suf) (by rw [ct9.2.2.2.2.2.2.2.2.1, hH]; simp [tableOf]) (fun z hz => ?_) hcov h0 (ct9.2.2.2.2.1 _ w1) (va_Nw.use rfl (ct9.2.2.2.2.2.2.2.2.2.2.2.2.1.2.1 _ w2)) hq hv hc (kk p l e R s m args below meth c H locs cells slots mc ms ls q ct9 lv wd hs h1 h2 h3 h4 h5 h6)
  obtain ⟨y, hy, rfl⟩ := List.mem_map.mp hz
  rcases hpass y hy with h9 | ⟨h9, rfl, h11⟩
  · exact Or.inl h9
  · exact Or.inr ⟨h9, exN 10, ct9.2.2.2.2.1 _ h11, ct9.2.2.2.2.2.2.2.2.2.2.2.2.1.2.2.2.2⟩
theorem GX.catch_n {i : Fin 4} (hH : kH K = pre ++ (a, b, h, ct) :: suf) (hpass : ∀ z ∈ pre, covers (⟨z.1, z.2.1, z.2.2.1, z.2.2.2⟩ : ExceptionTableEntry) pc = false ∨ (z.2.2.2 ≠ 0 ∧ k = 8 ∧ Cond.classLink (kO K) z.2.2.2 (exN 10) ∈ gtbl)) (hcov : covers (⟨a, b, h, ct⟩ : ExceptionTableEntry) pc = true) (h0 : ct ≠ 0) (w1 : Cond.classLink (kO K) ct (exN k) ∈ gtbl) (w2 : Cond.castable (exN k) (exN k) ∈ ntbl)
    (hd : decode (kC K) h = .ok (.astore_n i, 1)) (hi : (i : Nat) < L.length) (kk : GW G X K (h + 1) (stN L i) [] M fin) : GX G X K pc L M k fin := GX.catchW hH hpass hcov h0 w1 w2 (fun p l e R s m args below meth c H locs cells slots mc ms ls q ct9 lv wd hs h1 h2 h3 h4 h5 h6 =>
  lv_astore_n ct9.1 ct9.2.1 hd rfl lv.has (by have := lv.2.2.1; omega) rfl (fun ls hl => kk p l e R s m args below meth c H locs cells slots mc ms ls ct9 (lv.sN hl) wd hs h1 h2 h3 h4 h5 h6))
theorem GX.catch {i : Nat} (hH : kH K = pre ++ (a, b, h, ct) :: suf) (hpass : ∀ z ∈ pre, covers (⟨z.1, z.2.1, z.2.2.1, z.2.2.2⟩ : ExceptionTableEntry) pc = false ∨ (z.2.2.2 ≠ 0 ∧ k = 8 ∧ Cond.classLink (kO K) z.2.2.2 (exN 10) ∈ gtbl)) (hcov : covers (⟨a, b, h, ct⟩ : ExceptionTableEntry) pc = true) (h0 : ct ≠ 0) (w1 : Cond.classLink (kO K) ct (exN k) ∈ gtbl) (w2 : Cond.castable (exN k) (exN k) ∈ ntbl)
    (hd : decode (kC K) h = .ok (.astore i, 2)) (hi : i < L.length) (kk : GW G X K (h + 2) (stN L i) [] M fin) : GX G X K pc L M k fin := GX.catchW hH hpass hcov h0 w1 w2 (fun p l e R s m args below meth c H locs cells slots mc ms ls q ct9 lv wd hs h1 h2 h3 h4 h5 h6 =>
  lv_astore ct9.1 ct9.2.1 hd lv.has (by have := lv.2.2.1; omega) rfl (fun ls hl => kk p l e R s m args below meth c H locs cells slots mc ms ls ct9 (lv.sN hl) wd hs h1 h2 h3 h4 h5 h6))
end CATCH
