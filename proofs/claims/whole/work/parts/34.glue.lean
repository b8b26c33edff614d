/-! THE CLAIM OUT OF ONE WALK OF THE LAW'S BODY. Your part is whole_start (and what it stands on); all else here is the same for every law, but numbers. -/
def R_law : String := "BoundCodeLaw"
def lw_P (b : Addr) (xs : List Int32) (args : Array Value) (s : State) : Prop := args = #[.ref b] ∧ s.IntsAt b xs ∧ xs.length ≤ 3072 ∧ (Jvm.Cond.and given_1 narrow_1).before args s = true
def lw_Q (_ : Array Value) (s : State) (o : Outcome) (t : State) : Prop := o = .returned (some (.int 1)) ∧ Framed s o t [] 601024 7293034
def lw_Z (below : List Frame) (a : Array Value) (s : State) : State → Prop := fun t => ∃ o, t.status = .running ∧ Ended t below o ∧ lw_Q a s o t
/-- the law's own end, with 1 on the stack, nothing written that was there before, its room as the claim has it -/
theorem lw_ret {p : Program} {l : Launch} {e : Env} {s : State} {m : MethodId} {below : List Frame} {meth : Method} {c : Code} {b : Nat} (hx : p.tables.exec = Jvm.exec) (hb : c.code = code) (hr : meth.sig.returnType = ret) (hlocks : meth.locks = false) {pc : Nat} {H : Heap} {ls : Array Slot} (hdg : decode code pc = .ok (.ireturn, 1)) : W p l e room_1 s m #[Value.ref b] below meth c H [] 601024 7293034 (lw_Z below #[Value.ref b] s) (F0 m pc ls [.int 1]) := by
  intro T hT X
  obtain ⟨fs, hret, hrun, hended, hW, hframe⟩ := X.leave (v := some (.int 1)) (hlocks := hlocks) (fun h => by rw [hr] at h; cases h)
  have hmeth' : T.vm.method? m = some meth := X.method'
  refine ⟨T.setFrames fs, ?_, .returned (some (.int 1)), hrun, hended, rfl, ⟨_, rfl⟩, hW, hframe⟩
  jvm_step X.here [X.here.top, hx, hb, hdg, hmeth', hr, ret, narrow_b1]
  (try refine ⟨rfl, ?_⟩); (try refine ⟨rfl, ?_⟩)
  first | (intro acts; rw [hret _ acts rfl rfl rfl]) | rw [hret _ _ rfl rfl rfl]
  exact Steps.refl _
/-- what holds at the law's entry: the machine, the code, the tables' words (any of lw_tbl by 'hts w (by decide +kernel)'), the script of L ints xs at the cell b, what the Statement gives of the start (any of its parts by flat_of_before) -/
def lw_At (p : Program) (s : State) (m : MethodId) (meth : Method) (c : Code) (b L : Nat) (xs : Nat → Int32) : Prop :=
  p.tables.exec = Jvm.exec ∧ c.code = code ∧ meth.sig.returnType = ret ∧ c.maxLocals = 8 ∧ s.vm.findClass R_law = some m.cls ∧ (∀ w ∈ lw_tbl, w.before #[Value.ref b] s = true) ∧ va_X b L xs s s.heap ∧ b < s.heap.size ∧ meth.locks = false ∧ (Jvm.Cond.and given_1 narrow_1).before #[Value.ref b] s = true
section START
variable {s : State} {b : Nat} {A : Nat → Prop}
set_option maxRecDepth 100000 in
theorem st_TAKES (hgv : (Jvm.Cond.and given_1 narrow_1).before #[Value.ref b] s = true) (hA : ∀ a : Nat, a < s.heap.size → ¬ A a) : ∃ t, (Term.static "BoundCode$Checker" "TAKES" "[I").eval #[Value.ref b] s none [] s = some (.ref t) ∧ va_T .int t 18 (fun j => .int (tkI j)) A s s.heap := by
  have hs := flat_of_before _ hgv
  refine va_Tof (by decide) (hs _ (by decide +kernel)) (va_eqt (hs (.eq (.length (.static "BoundCode$Checker" "TAKES" "[I")) (.int 18)) (by decide +kernel))) (fun j hj => ?_) hA
  match j, hj with
  | 0, _ => exact va_eqt (hs (.eq (.elem (.static "BoundCode$Checker" "TAKES" "[I") (.int 0)) (.int 0)) (by decide +kernel))
  | 1, _ => exact va_eqt (hs (.eq (.elem (.static "BoundCode$Checker" "TAKES" "[I") (.int 1)) (.int 1)) (by decide +kernel))
  | 2, _ => exact va_eqt (hs (.eq (.elem (.static "BoundCode$Checker" "TAKES" "[I") (.int 2)) (.int 1)) (by decide +kernel))
  | 3, _ => exact va_eqt (hs (.eq (.elem (.static "BoundCode$Checker" "TAKES" "[I") (.int 3)) (.int 2)) (by decide +kernel))
  | 4, _ => exact va_eqt (hs (.eq (.elem (.static "BoundCode$Checker" "TAKES" "[I") (.int 4)) (.int 2)) (by decide +kernel))
  | 5, _ => exact va_eqt (hs (.eq (.elem (.static "BoundCode$Checker" "TAKES" "[I") (.int 5)) (.int 2)) (by decide +kernel))
  | 6, _ => exact va_eqt (hs (.eq (.elem (.static "BoundCode$Checker" "TAKES" "[I") (.int 6)) (.int 2)) (by decide +kernel))
  | 7, _ => exact va_eqt (hs (.eq (.elem (.static "BoundCode$Checker" "TAKES" "[I") (.int 7)) (.int 2)) (by decide +kernel))
  | 8, _ => exact va_eqt (hs (.eq (.elem (.static "BoundCode$Checker" "TAKES" "[I") (.int 8)) (.int 2)) (by decide +kernel))
  | 9, _ => exact va_eqt (hs (.eq (.elem (.static "BoundCode$Checker" "TAKES" "[I") (.int 9)) (.int 0)) (by decide +kernel))
  | 10, _ => exact va_eqt (hs (.eq (.elem (.static "BoundCode$Checker" "TAKES" "[I") (.int 10)) (.int 1)) (by decide +kernel))
  | 11, _ => exact va_eqt (hs (.eq (.elem (.static "BoundCode$Checker" "TAKES" "[I") (.int 11)) (.int 0)) (by decide +kernel))
  | 12, _ => exact va_eqt (hs (.eq (.elem (.static "BoundCode$Checker" "TAKES" "[I") (.int 12)) (.int 0)) (by decide +kernel))
  | 13, _ => exact va_eqt (hs (.eq (.elem (.static "BoundCode$Checker" "TAKES" "[I") (.int 13)) (.int 1)) (by decide +kernel))
  | 14, _ => exact va_eqt (hs (.eq (.elem (.static "BoundCode$Checker" "TAKES" "[I") (.int 14)) (.int 0)) (by decide +kernel))
  | 15, _ => exact va_eqt (hs (.eq (.elem (.static "BoundCode$Checker" "TAKES" "[I") (.int 15)) (.int 0)) (by decide +kernel))
  | 16, _ => exact va_eqt (hs (.eq (.elem (.static "BoundCode$Checker" "TAKES" "[I") (.int 16)) (.int 0)) (by decide +kernel))
  | 17, _ => exact va_eqt (hs (.eq (.elem (.static "BoundCode$Checker" "TAKES" "[I") (.int 17)) (.int 0)) (by decide +kernel))
  | j + 18, h => exact absurd h (by omega)
set_option maxRecDepth 100000 in
theorem st_GIVES (hgv : (Jvm.Cond.and given_1 narrow_1).before #[Value.ref b] s = true) (hA : ∀ a : Nat, a < s.heap.size → ¬ A a) : ∃ t, (Term.static "BoundCode$Checker" "GIVES" "[I").eval #[Value.ref b] s none [] s = some (.ref t) ∧ va_T .int t 18 (fun j => .int (gvI j)) A s s.heap := by
  have hs := flat_of_before _ hgv
  refine va_Tof (by decide) (hs _ (by decide +kernel)) (va_eqt (hs (.eq (.length (.static "BoundCode$Checker" "GIVES" "[I")) (.int 18)) (by decide +kernel))) (fun j hj => ?_) hA
  match j, hj with
  | 0, _ => exact va_eqt (hs (.eq (.elem (.static "BoundCode$Checker" "GIVES" "[I") (.int 0)) (.int 1)) (by decide +kernel))
  | 1, _ => exact va_eqt (hs (.eq (.elem (.static "BoundCode$Checker" "GIVES" "[I") (.int 1)) (.int 0)) (by decide +kernel))
  | 2, _ => exact va_eqt (hs (.eq (.elem (.static "BoundCode$Checker" "GIVES" "[I") (.int 2)) (.int 2)) (by decide +kernel))
  | 3, _ => exact va_eqt (hs (.eq (.elem (.static "BoundCode$Checker" "GIVES" "[I") (.int 3)) (.int 2)) (by decide +kernel))
  | 4, _ => exact va_eqt (hs (.eq (.elem (.static "BoundCode$Checker" "GIVES" "[I") (.int 4)) (.int 1)) (by decide +kernel))
  | 5, _ => exact va_eqt (hs (.eq (.elem (.static "BoundCode$Checker" "GIVES" "[I") (.int 5)) (.int 1)) (by decide +kernel))
  | 6, _ => exact va_eqt (hs (.eq (.elem (.static "BoundCode$Checker" "GIVES" "[I") (.int 6)) (.int 1)) (by decide +kernel))
  | 7, _ => exact va_eqt (hs (.eq (.elem (.static "BoundCode$Checker" "GIVES" "[I") (.int 7)) (.int 1)) (by decide +kernel))
  | 8, _ => exact va_eqt (hs (.eq (.elem (.static "BoundCode$Checker" "GIVES" "[I") (.int 8)) (.int 1)) (by decide +kernel))
  | 9, _ => exact va_eqt (hs (.eq (.elem (.static "BoundCode$Checker" "GIVES" "[I") (.int 9)) (.int 1)) (by decide +kernel))
  | 10, _ => exact va_eqt (hs (.eq (.elem (.static "BoundCode$Checker" "GIVES" "[I") (.int 10)) (.int 0)) (by decide +kernel))
  | 11, _ => exact va_eqt (hs (.eq (.elem (.static "BoundCode$Checker" "GIVES" "[I") (.int 11)) (.int 0)) (by decide +kernel))
  | 12, _ => exact va_eqt (hs (.eq (.elem (.static "BoundCode$Checker" "GIVES" "[I") (.int 12)) (.int 0)) (by decide +kernel))
  | 13, _ => exact va_eqt (hs (.eq (.elem (.static "BoundCode$Checker" "GIVES" "[I") (.int 13)) (.int 0)) (by decide +kernel))
  | 14, _ => exact va_eqt (hs (.eq (.elem (.static "BoundCode$Checker" "GIVES" "[I") (.int 14)) (.int 0)) (by decide +kernel))
  | 15, _ => exact va_eqt (hs (.eq (.elem (.static "BoundCode$Checker" "GIVES" "[I") (.int 15)) (.int 0)) (by decide +kernel))
  | 16, _ => exact va_eqt (hs (.eq (.elem (.static "BoundCode$Checker" "GIVES" "[I") (.int 16)) (.int 0)) (by decide +kernel))
  | 17, _ => exact va_eqt (hs (.eq (.elem (.static "BoundCode$Checker" "GIVES" "[I") (.int 17)) (.int 0)) (by decide +kernel))
  | j + 18, h => exact absurd h (by omega)
def isSR : Cond → Bool
  | .stringRef .. => true
  | _ => false
theorem sr_list : lw_tbl.filter isSR = [.stringRef "BoundCode" 52 "ARGUMENTS are 0 .. 8", .stringRef "BoundCode" 57 "RESULTS are 0 or 1", .stringRef "BoundCode" 59 "LOCALS are from the ARGUMENTS up to 16", .stringRef "BoundCode" 164 "there is no such METHOD", .stringRef "BoundCode" 170 "there is no such INSTRUCTION", .stringRef "BoundCode" 96 "OPERATIONS are 0 .. 17", .stringRef "BoundCode" 100 "a COST is 0 .. 1000000", .stringRef "BoundCode" 123 "what is 0 .. 2", .stringRef "BoundCode" 128 "what is 0 or 1", .stringRef "BoundCode" 136 "there are eight words", .stringRef "BoundCode" 142 "there are not as many words as ARGUMENTS", .stringRef "BoundCode" 145 "most is 0 .. 100000", .stringRef "BoundCode" 151 "what is 0 .. 4", .stringRef "BoundCode" 156 "what is 0 .. 3"] := by decide +kernel
theorem st_str (hgv : (Jvm.Cond.and given_1 narrow_1).before #[Value.ref b] s = true) (hts : ∀ w ∈ lw_tbl, w.before #[Value.ref b] s = true) (o t : String) (k : Nat) (h : Cond.stringRef o k t ∈ lw_tbl) : ∃ sa, vk_R o k t sa s := by
  have hs := flat_of_before _ hgv
  have h2 : Cond.stringRef o k t ∈ lw_tbl.filter isSR := List.mem_filter.mpr ⟨h, rfl⟩
  have hw := hts _ h
  rw [sr_list] at h2
  simp only [List.mem_cons, List.not_mem_nil, or_false, Cond.stringRef.injEq] at h2
  rcases h2 with ⟨rfl, rfl, rfl⟩ | ⟨rfl, rfl, rfl⟩ | ⟨rfl, rfl, rfl⟩ | ⟨rfl, rfl, rfl⟩ | ⟨rfl, rfl, rfl⟩ | ⟨rfl, rfl, rfl⟩ | ⟨rfl, rfl, rfl⟩ | ⟨rfl, rfl, rfl⟩ | ⟨rfl, rfl, rfl⟩ | ⟨rfl, rfl, rfl⟩ | ⟨rfl, rfl, rfl⟩ | ⟨rfl, rfl, rfl⟩ | ⟨rfl, rfl, rfl⟩ | ⟨rfl, rfl, rfl⟩
  · obtain ⟨a, c, cell, k9, h3, -⟩ := Cond.exactly_spec (hs (.exactly (.string "BoundCode" 52) "java/lang/String") (by decide +kernel)); exact ⟨a, vk_R.of hw h3⟩
  · obtain ⟨a, c, cell, k9, h3, -⟩ := Cond.exactly_spec (hs (.exactly (.string "BoundCode" 57) "java/lang/String") (by decide +kernel)); exact ⟨a, vk_R.of hw h3⟩
  · obtain ⟨a, c, cell, k9, h3, -⟩ := Cond.exactly_spec (hs (.exactly (.string "BoundCode" 59) "java/lang/String") (by decide +kernel)); exact ⟨a, vk_R.of hw h3⟩
  · obtain ⟨a, c, cell, k9, h3, -⟩ := Cond.exactly_spec (hs (.exactly (.string "BoundCode" 164) "java/lang/String") (by decide +kernel)); exact ⟨a, vk_R.of hw h3⟩
  · obtain ⟨a, c, cell, k9, h3, -⟩ := Cond.exactly_spec (hs (.exactly (.string "BoundCode" 170) "java/lang/String") (by decide +kernel)); exact ⟨a, vk_R.of hw h3⟩
  · obtain ⟨a, c, cell, k9, h3, -⟩ := Cond.exactly_spec (hs (.exactly (.string "BoundCode" 96) "java/lang/String") (by decide +kernel)); exact ⟨a, vk_R.of hw h3⟩
  · obtain ⟨a, c, cell, k9, h3, -⟩ := Cond.exactly_spec (hs (.exactly (.string "BoundCode" 100) "java/lang/String") (by decide +kernel)); exact ⟨a, vk_R.of hw h3⟩
  · obtain ⟨a, c, cell, k9, h3, -⟩ := Cond.exactly_spec (hs (.exactly (.string "BoundCode" 123) "java/lang/String") (by decide +kernel)); exact ⟨a, vk_R.of hw h3⟩
  · obtain ⟨a, c, cell, k9, h3, -⟩ := Cond.exactly_spec (hs (.exactly (.string "BoundCode" 128) "java/lang/String") (by decide +kernel)); exact ⟨a, vk_R.of hw h3⟩
  · obtain ⟨a, c, cell, k9, h3, -⟩ := Cond.exactly_spec (hs (.exactly (.string "BoundCode" 136) "java/lang/String") (by decide +kernel)); exact ⟨a, vk_R.of hw h3⟩
  · obtain ⟨a, c, cell, k9, h3, -⟩ := Cond.exactly_spec (hs (.exactly (.string "BoundCode" 142) "java/lang/String") (by decide +kernel)); exact ⟨a, vk_R.of hw h3⟩
  · obtain ⟨a, c, cell, k9, h3, -⟩ := Cond.exactly_spec (hs (.exactly (.string "BoundCode" 145) "java/lang/String") (by decide +kernel)); exact ⟨a, vk_R.of hw h3⟩
  · obtain ⟨a, c, cell, k9, h3, -⟩ := Cond.exactly_spec (hs (.exactly (.string "BoundCode" 151) "java/lang/String") (by decide +kernel)); exact ⟨a, vk_R.of hw h3⟩
  · obtain ⟨a, c, cell, k9, h3, -⟩ := Cond.exactly_spec (hs (.exactly (.string "BoundCode" 156) "java/lang/String") (by decide +kernel)); exact ⟨a, vk_R.of hw h3⟩
theorem st_arr {ty : FieldType} (hts : ∀ w ∈ lw_tbl, w.before #[Value.ref b] s = true) (hw : Cond.arrayClass ty ∈ gtbl) (hp : ∀ C, ty ≠ .object C) : ∃ cA, ArrOfT s cA ty ∧ va_RA s cA ty := by
  obtain ⟨c, k, comp, h1, h2, h3⟩ := Cond.arrayClass_spec (hts _ (List.mem_filter.mp hw).1)
  refine ⟨c, fun n z => ⟨fun k h => (by cases h), k, h2, comp, h3⟩, ?_⟩
  cases ty <;> first | exact h1 | exact absurd rfl (hp _)
end START
def M00 : AM := ((3, 0), fun _ => (0, 0), fun _ _ => 0, fun _ _ => 0, fun _ _ => none)
/-- THE PURE STATEMENT: on every script of at most 3072 ints the law, in my machine, comes to true, and makes no more than the room -/
def LAWOK : Prop := ∀ X : Sc, X.1 ≤ 3072 → ∃ Mf : AM, TX X K_L_law 0 (ini 8 [aR (some 0)]) [] M00 (.inl (some (aI 1), Mf)) ∧ mN Mf ≤ 600000 ∧ mU Mf ≤ 7000000
set_option maxHeartbeats 4000000 in
set_option maxRecDepth 100000 in
theorem whole_start (hlaw : LAWOK) {p : Program} {e : Env} {s : State} {m : MethodId} {below : List Frame} {meth : Method} {c : Code} (l : Launch) (hl : l.stackTraces = false) {b L : Nat} {xs : Nat → Int32} (hL : L ≤ 3072) (C0 : lw_At p s m meth c b L xs) (hnm : meth.name = "law") (htab : c.exceptionTable.toList = []) : W p l e room_1 s m #[Value.ref b] below meth c s.heap [] 0 0 (lw_Z below #[Value.ref b] s) (entryFrame m ([Value.ref b] : List Value).toArray 8) := by
  obtain ⟨hx, hb, hr, hml, hown, hts, hX, hbl, hlocks, hgv⟩ := id C0
  have hs := flat_of_before _ hgv
  have htg : ∀ w ∈ gtbl, w.before #[Value.ref b] s = true := fun w hw => hts w (List.mem_filter.mp hw).1
  obtain ⟨c0, i0, hK0⟩ := u_known (C := RX0) (T := TX0) (N := 7) (n := 7) htg inG0 (htg _ w133)
  obtain ⟨c1, i1, hK1⟩ := u_known (C := RX1) (T := TX1) (N := 5) (n := 5) htg inG1 (htg _ w139)
  obtain ⟨c2, i2, hK2⟩ := u_known (C := RX2) (T := TX2) (N := 4) (n := 4) htg inG2 (htg _ w114)
  obtain ⟨c3, i3, hK3⟩ := u_known (C := RX3) (T := TX3) (N := 15) (n := 15) htg inG3 (htg _ w186)
  obtain ⟨c4, i4, hK4⟩ := u_known (C := RX4) (T := TX4) (N := 11) (n := 11) htg inG4 (htg _ w347)
  obtain ⟨c5, i5, hK5⟩ := u_known (C := RX5) (T := TX5) (N := 3) (n := 3) htg inG5 (htg _ w90)
  obtain ⟨c6, i6, hK6⟩ := u_known (C := RX6) (T := TX6) (N := 7) (n := 7) htg inG6 (htg _ w82)
  obtain ⟨c7, i7, hK7⟩ := u_known (C := RX7) (T := TX7) (N := 41) (n := 41) htg inG7 (htg _ w830)
  obtain ⟨c8, i8, hK8⟩ := u_known (C := exN 8) (T := tE) (N := 0) (n := 6) htg (fun w h => by cases h) (htg _ w273)
  obtain ⟨c9, i9, hK9⟩ := u_known (C := exN 9) (T := tE) (N := 0) (n := 6) htg (fun w h => by cases h) (htg _ w706)
  obtain ⟨c10, i10, hK10⟩ := u_known (C := exN 10) (T := tE) (N := 0) (n := 6) htg (fun w h => by cases h) (htg _ w436)
  obtain ⟨cI, aI1, aI2⟩ := st_arr hts w112 (fun C h => by cases h)
  obtain ⟨cJ, aJ1, aJ2⟩ := st_arr hts w162 (fun C h => by cases h)
  obtain ⟨cZ, aZ1, aZ2⟩ := st_arr hts w959 (fun C h => by cases h)
  have hAO := hts (.arrayOver (.object RX4)) (List.mem_of_getElem? (i := 96) (by decide +kernel))
  obtain ⟨comp, cM, kM9, m1, -, m2, m3, m4⟩ := Cond.arrayOver_spec hAO
  have hA : ∀ a : Nat, a < s.heap.size → ¬ (fun q : Nat => s.heap.size ≤ q) a := fun a h => Nat.not_le.mpr h
  obtain ⟨t1, e1, T1⟩ := st_TAKES (A := fun q : Nat => s.heap.size ≤ q) hgv hA
  obtain ⟨t2, e2, T2⟩ := st_GIVES (A := fun q : Nat => s.heap.size ≤ q) hgv hA
  have Z1 : va_Z RX2 "TAKES" "[I" (.ref t1) (fun q : Nat => s.heap.size ≤ q) s s.heap := va_Zref (hts _ (List.mem_of_getElem? (i := 557) (by decide +kernel))) (htg _ w68) e1 hA
  have Z2 : va_Z RX2 "GIVES" "[I" (.ref t2) (fun q : Nat => s.heap.size ≤ q) s s.heap := va_Zref (hts _ (List.mem_of_getElem? (i := 563) (by decide +kernel))) (htg _ w68) e2 hA
  have Q1 : vx_Zq Bundle.tN "UNASSIGNED_STACK" Bundle.steD (fun q : Nat => s.heap.size ≤ q) s s.heap := vx_Zqof (hts _ (List.mem_of_getElem? (i := 299) (by decide +kernel))) (htg _ w73) (hs _ (by decide +kernel)) hA
  have Q2 : vx_Zq Bundle.tN "SUPPRESSED_SENTINEL" Bundle.listD (fun q : Nat => s.heap.size ≤ q) s s.heap := vx_Zqof (hts _ (List.mem_of_getElem? (i := 301) (by decide +kernel))) (htg _ w73) (hs _ (by decide +kernel)) hA
  -- three cells at least lie there: the script, and the statics of two classes
  have h3 : 3 ≤ s.heap.size := by
    obtain ⟨d1, k1, -, -, a1, ce1, f1, -, -, -, g1, q1, r1, -⟩ := Q1.2
    obtain ⟨d2, k2, j2, ff2, a2, ce2, f2, -, -, -, g2, q2, r2, -⟩ := Cond.laysStatic_spec (hts (.laysStatic RX2 "TAKES" "[I") (List.mem_of_getElem? (i := 557) (by decide +kernel)))
    obtain ⟨scr, x1, x2, -⟩ := hX
    have l1 := (Array.getElem?_eq_some_iff.mp g1).1
    have l2 := (Array.getElem?_eq_some_iff.mp g2).1
    have n1 : a1 ≠ b := fun z => by
      subst z
      cases g1.symm.trans x1
      cases hv : ce1.vm <;> rw [hv] at q1 <;> first | exact x2.1 _ hv | cases q1
    have n2 : a2 ≠ b := fun z => by
      subst z
      cases g2.symm.trans x1
      cases hv : ce2.vm <;> rw [hv] at q2 <;> first | exact x2.1 _ hv | cases q2
    have n3 : a1 ≠ a2 := fun z => by
      subst z
      cases g1.symm.trans g2
      rw [← r1] at f1
      rw [← r2] at f2
      obtain ⟨y1, u1, v1⟩ := Vm.findClass_spec f1
      obtain ⟨y2, u2, v2⟩ := Vm.findClass_spec f2
      cases u1.symm.trans u2
      rw [v1] at v2
      exact absurd v2 (by decide +kernel)
    rcases Nat.lt_or_gt_of_ne n1 with z1 | z1 <;> rcases Nat.lt_or_gt_of_ne n2 with z2 | z2 <;> rcases Nat.lt_or_gt_of_ne n3 with z3 | z3 <;> omega
  obtain ⟨zz, hzz⟩ : ∃ zz, zz + 3 = s.heap.size := ⟨s.heap.size - 3, by omega⟩
  obtain ⟨G, hG⟩ : ∃ G : Gm, G = (zz, (fun t => if t = 0 then b else if t = 1 then t1 else t2), ((fun k => match k with | 0 => c0 | 1 => c1 | 2 => c2 | 3 => c3 | 4 => c4 | 5 => c5 | 6 => c6 | 7 => c7 | 8 => c8 | 9 => c9 | _ => c10), (fun k => match k with | 0 => i0 | 1 => i1 | 2 => i2 | 3 => i3 | 4 => i4 | 5 => i5 | 6 => i6 | 7 => i7 | 8 => i8 | 9 => i9 | _ => i10)), (cI, cJ, cZ, cM)) := ⟨_, rfl⟩
  have hgA : gA G = (fun q : Nat => s.heap.size ≤ q) := by subst hG; funext q; show (zz + 3 ≤ q) = _; rw [hzz]
  have hEN : EN G s := by
    refine ⟨⟨fun k q hq => ?_, fun k q hq => ?_⟩, fun w hw => va_Nw.of (by have h9 := (List.mem_filter.mp hw).2; cases w <;> first | rfl | exact absurd h9 Bool.false_ne_true) (hts w (List.mem_filter.mp hw).1), va_AO.of hAO, st_str hgv hts, va_Nc.of (hs (.not (.castable "java/lang/IllegalArgumentException" "java/lang/IndexOutOfBoundsException")) (by decide +kernel))⟩
    · subst hG
      match k, hq with
      | 0, hq => cases hq; exact hK0
      | 1, hq => cases hq; exact hK1
      | 2, hq => cases hq; exact hK2
      | 3, hq => cases hq; exact hK3
      | 4, hq => cases hq; exact hK4
      | 5, hq => cases hq; exact hK5
      | 6, hq => cases hq; exact hK6
      | 7, hq => cases hq; exact hK7
      | 8, hq => cases hq; exact hK8
      | 9, hq => cases hq; exact hK9
      | 10, hq => cases hq; exact hK10
      | k + 11, hq => simp [cls9] at hq
    · subst hG
      match k, hq with
      | 0, hq => cases hq; exact ⟨aI1, aI2⟩
      | 1, hq => cases hq; exact ⟨aJ1, aJ2⟩
      | 2, hq => cases hq; exact ⟨aZ1, aZ2⟩
      | 3, hq => cases hq; exact ⟨fun N z => ⟨(fun k h => by cases h), kM9, m2, comp, m3⟩, kM9, comp, m2, m3, m1, m4⟩
      | k + 4, hq => simp [tys9] at hq
  have hEH : EH G (L, xs) s s.heap := by
    refine ⟨fun t ht => ?_, ?_, ?_, ?_, ?_⟩
    · rw [hgA]
      subst hG
      match t, ht with
      | 0, _ =>
        obtain ⟨scr, x1, x2, x3, x4, x5⟩ := hX
        exact ⟨scr, x1, x2, x3, by rw [x4]; exact Nat.le_refl _, by rw [x4]; rfl, fun j hj => x5 j hj, hA b hbl⟩
      | 1, _ => exact T1
      | 2, _ => exact T2
      | t + 3, h => exact absurd h (by omega)
    · rw [hgA]; subst hG; exact Z1
    · rw [hgA]; subst hG; exact Z2
    · rw [hgA]; exact Q1
    · rw [hgA]; exact Q2
  have hWD : WD G M00 s.heap := by
    refine ⟨fun r h1 h2 => absurd h2 (Nat.not_lt.mpr h1), ?_, Nat.le_refl 3⟩
    subst hG
    exact hzz.symm
  have hct : CT G (L, xs) K_L_law p l room_1 s m #[Value.ref b] meth c := ⟨hx, hb, hml, hown, htg, hr, hlocks, hnm, htab, by decide, by decide, hl, hEN, hEH⟩
  obtain ⟨Mf, hT, hN, hU⟩ := hlaw (L, xs) hL
  have hcv : ([aR (some 0)] : List AV).map (cv G) = [Value.ref b] := by subst hG; rfl
  rw [lg_entry_eq]
  have key := hT.2.2 G p l e room_1 s m #[Value.ref b] below meth c s.heap [] 0 0 (mN Mf - 3) (mU Mf - 0) _ hct (ini_LV (as := [aR (some 0)]) (n := 8) (Nat.le_of_ble_eq_true rfl)) hWD va_S.rf (by show 0 + (mN Mf - 3) ≤ _; omega) (by show 0 + (mU Mf - 0) ≤ _; omega) (by show mN Mf - 3 ≤ 601024; omega) (by show mU Mf - 0 ≤ 7293034; omega) hT.1 hT.2.1
  rw [hcv] at key
  intro T9 hT9 X9
  obtain ⟨t, st9, oc, hrun, hend, hq⟩ := key T9 hT9 X9
  refine ⟨t, st9, oc, hrun, hend, ?_⟩
  rcases hq with ⟨⟨ho, -, -⟩, L9, ⟨hv, hW9, hsm⟩, hL9⟩ | ⟨q, -, E9, ce, L9, hX9, -⟩
  · refine ⟨ho, hv, hW9, ?_⟩
    exact hsm.weaken (fun y hy hlt => absurd hlt (Nat.not_lt.mpr (by have h9 := hL9 y hy; rw [hgA] at h9; exact h9))) (by omega) (by omega)
  · exact hX9.elim
set_option maxHeartbeats 4000000 in
theorem lw_walk (hlaw : LAWOK) (l : Launch) (hl : l.stackTraces = false) (b : Addr) (xs : List Int32) : MetFree l x (headSpec (Jvm.Cond.code x code maxLocals ret :: tables_1) room_1) (lw_P b xs) (fun _ _ _ _ _ => True) lw_Q := by
  refine MetFree.of_bodyS (code := code) (maxLocals := maxLocals) (ret := ret) (by decide) ?_ ?_
  · intro args s m h hn
    obtain ⟨meth, c, h1, h2, h3, h4, h5, h6, -, -⟩ := Cond.code_spec hn (atoms_spec (ws := Jvm.Cond.code x code maxLocals ret :: tables_1) h _ List.mem_cons_self)
    exact ⟨meth, c, h1, h2, h3, h4, h5, h6⟩
  · intro p e s m args below meth c s₁ B hml0 hP _
    obtain ⟨rfl, hx, hbd, hgv⟩ := hP
    obtain ⟨scr, harrAt, hlist, hof, hsmall⟩ := hx
    obtain ⟨hcb, hkn, -, -⟩ := State.arrayAt?_spec harrAt
    have hown : s.vm.findClass R_law = some m.cls := findClass_of_methodNamed B.named
    have hts0 : ∀ c ∈ (Jvm.Cond.code x code maxLocals ret :: tables_1), c.before #[Value.ref b] s = true := atoms_spec (ws := Jvm.Cond.code x code maxLocals ret :: tables_1) B.pre
    have hts : ∀ w ∈ lw_tbl, w.before #[Value.ref b] s = true := k2_hts_sels lw_privs (fun w hw => hts0 w (List.mem_cons_of_mem _ hw)) lw_privs_ok
    have hml : c.maxLocals = 8 := B.maxLocals_eq (hts0 _ List.mem_cons_self)
    have htab : c.exceptionTable.toList = [] := by
      obtain ⟨meth9, c9, h1, h2, -, -, -, -, h7, -⟩ := Cond.code_spec B.named (hts0 _ List.mem_cons_self)
      cases Option.some.inj (h1.symm.trans B.method)
      cases Option.some.inj (h2.symm.trans (Stand.of_body B).code)
      rw [Array.isEmpty_iff.mp h7]
    have X₀ : Stand p l e room_1 s m #[Value.ref b] below meth c s₁ [] 0 0 := Stand.of_body B
    have hh0 : s₁.heap = s.heap := by rw [B.state]; rfl
    have hsz : scr.slots.size = xs.length := by rw [← Array.length_toList, hlist, List.length_map]
    have hval : ∀ j : Nat, j < xs.length → scr.slots[j]? = some (.int (xs.getD j 0)) := fun j hj => by
      rw [← Array.getElem?_toList, hlist]
      simp [hj]
    have hbl : b < s.heap.size := (Array.getElem?_eq_some_iff.mp hcb).1
    have hX : va_X b xs.length (fun j => xs.getD j 0) s s.heap := ⟨scr, hcb, hof, hkn, hsz, hval⟩
    have K : W p l e room_1 s m #[Value.ref b] below meth c s₁.heap [] 0 0 (lw_Z below #[Value.ref b] s) (entryFrame m ([Value.ref b] : List Value).toArray 8) := by
      rw [hh0]
      exact whole_start hlaw l hl hbd ⟨B.exec, B.bytes, B.returns, hml, hown, hts, hX, hbl, B.notSynchronized, hgv⟩ (name_of_methodNamed B.named B.method).1 htab
    obtain ⟨t, a1, o, b1, b2, b3⟩ := K s₁ rfl X₀
    exact ⟨t, o, a1, b1, b2, b3⟩
theorem lw_pre_spec {args : Array Value} {s : State} (h : (Jvm.Cond.and given_1 narrow_1).before args s = true) (hr : rest_1_c.before args s = true) : ∃ (b : Addr) (xs : List Int32), lw_P b xs args s := by
  have hs := flat_of_before _ h
  have hq := flat_of_before _ hr
  have hc : (Cond.count 1).before args s = true := hs _ (by decide +kernel)
  have harr : (Cond.arrayOf (.arg 0) .int).before args s = true := hs _ (by decide +kernel)
  have hle : (Cond.le (.length (.arg 0)) (.int 3072)).before args s = true := hs _ (by decide +kernel)
  have hlen : (Cond.isInt (.length (.arg 0))).before args s = true := hq _ (by decide +kernel)
  have hall : (Cond.all (.arg 0) (.isInt (.elem (.arg 0) (.index 0)))).before args s = true := hq _ (by decide +kernel)
  obtain ⟨b, xs, hb, hx⟩ := State.ints_of_pre rfl harr hlen hall
  have hsm : xs.length < 2 ^ 31 := hx.choose_spec.2.2.2
  have hev : (Term.length (.arg 0)).eval args s none [] s = some (.int xs.length.toInt32) := hx.length_eval hb
  have hv := Cond.le_ints hev (show (Term.int 3072).eval args s none [] s = some (.int 3072) from rfl)
  have hd : xs.length.toInt32 ≤ 3072 := by
    simpa [Cond.before, Cond.holds, hv] using hle
  have hN : xs.length ≤ 3072 := (Int32.ofNat_le_ofNat hsm (by decide)).mp (show Int32.ofNat xs.length ≤ Int32.ofNat 3072 from hd)
  exact ⟨b, xs, Cond.one_arg hc (show args[0]? = some (.ref b) from hb), hx, hN, h⟩
theorem lw_comes (hlaw : LAWOK) (l : Launch) (hl : l.stackTraces = false) : Comes l x (Jvm.Cond.code x code maxLocals ret :: tables_1) room_1 (fun tb e args s => Calls_1 tb e args s ∧ rest_1 tb e args s ∧ Pre_1 tb e args s)
    (fun _ _ args s o t => lw_Q args s o t) := by
  intro p e ha hc hk s m args below hf hfit hheap happ hpre
  obtain ⟨b, xs, hP⟩ := lw_pre_spec hpre.2.2 hpre.2.1
  obtain ⟨k, o, h1, h2, h3, hQ⟩ := lw_walk hlaw l hl b xs p e ha hc hk s m args below hf ((Spec.applies_iff_loose hf).mp happ).1 hP trivial
  exact ⟨k, o, h1, h2, h3, hQ⟩
theorem lw_frame {s t : State} {o : Outcome} {args : Array Value} (h : Framed s o t [] 601024 7293034) :
    Framed s o t (fieldLocs frame_1_writes args s ++ arrayLocs frame_1_arrays args s ++ staticLocs frame_1_statics s) 601024 7293034 := h
theorem lw_limb (hlaw : LAWOK) (L : Cond) (hL : ∀ (args : Array Value) (s t : State), L.after args s (.returned (some (.int 1))) t = true) :
    ArmFor flags0 classFile x code maxLocals ret World_1 tables_1 room_1 Calls_1 rest_1 Pre_1
      (fun tb e a s o t => postC L tb e a s o t ∧ Framed s o t (fieldLocs frame_1_writes a s ++ arrayLocs frame_1_arrays a s ++ staticLocs frame_1_statics s) 601024 7293034) := by
  intro l hfl _ _ p e ha hc hk s m args below hf hfit hheap happ hpre
  obtain ⟨k, o, h1, h2, h3, rfl, hF⟩ := lw_comes hlaw l (by unfold Launch.stackTraces; rw [hfl]; decide +kernel) p e ha hc hk s m args below hf hfit hheap happ hpre
  exact ⟨k, _, h1, h2, h3, hL args s _, lw_frame hF⟩
theorem i_vc_open (hlaw : LAWOK) : Claimed_1_1 ∧ Claimed_1_2 := ⟨lw_limb hlaw limb_1_1 (fun args s t => by simp [limb_1_1, Cond.after, Cond.holds, Cond.value]), lw_limb hlaw limb_1_2 (fun args s t => Cond.after_iff.mpr (by
  first | (rw [show limb_1_2 = Cond.eq .result (.int 1) from rfl, Cond.eq_ints (x := 1) (y := 1) rfl rfl]; simp; done) | (simp [limb_1_2, Cond.value, Term.eval]; done)))⟩
