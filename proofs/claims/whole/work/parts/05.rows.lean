/-! ===== locals ===== -/
abbrev LVs : Type := List (Option AV)
def isJ : Option AV → Bool
  | some (.inr (.inl _)) => true
  | _ => false
def st1 : LVs → Nat → AV → LVs
  | [], _, _ => []
  | _ :: L, 0, v => some v :: L
  | o :: L, 1, v => (if isJ o then none else o) :: (match L with
    | [] => []
    | _ :: L' => some v :: L')
  | o :: L, i + 2, v => o :: st1 L (i + 1) v
def st2 (L : LVs) (i : Nat) (v : AV) : LVs := (st1 L i v).set (i + 1) none
theorem st1_len : ∀ (L : LVs) (i : Nat) (v : AV), (st1 L i v).length = L.length
  | [], _, _ => rfl
  | _ :: _, 0, _ => rfl
  | _ :: [], 1, _ => rfl
  | _ :: _ :: _, 1, _ => rfl
  | o :: L, i + 2, v => by
    show (st1 L (i + 1) v).length + 1 = L.length + 1
    rw [st1_len L (i + 1) v]
theorem isJ_cat {G : Gm} {w : AV} (h : ¬ isJ (some w) = true) : ¬ (cv G w).category = 2 := by
  rcases w with x | x | x
  · simp [cv, Value.category]
  · exact absurd rfl h
  · cases x <;> simp [cv, va_rf, Value.category]
theorem st1_get {G : Gm} : ∀ (L : LVs) (i : Nat) (v : AV) (j : Nat) (w : AV), (st1 L i v)[j]? = some (some w) → (j = i ∧ w = v) ∨ (j ≠ i ∧ L[j]? = some (some w) ∧ ¬ (j + 1 = i ∧ (cv G w).category = 2))
  | [], _, _, j, w, h => by simp [st1] at h
  | _ :: L, 0, v, 0, w, h => Or.inl ⟨rfl, by simp [st1] at h; exact h.symm⟩
  | _ :: L, 0, v, j + 1, w, h => Or.inr ⟨by omega, h, fun z => by omega⟩
  | o :: L, 1, v, 0, w, h => by
    right
    refine ⟨by omega, ?_, ?_⟩
    · cases L <;> (simp [st1] at h; simp [h.2])
    · intro z
      have h' : (if isJ o = true then none else o) = some w := by cases L <;> (simp [st1] at h; simpa using h)
      by_cases hj : isJ o = true
      · rw [if_pos hj] at h'; cases h'
      · rw [if_neg hj] at h'; subst h'; exact isJ_cat hj z.2
  | o :: [], 1, v, j + 1, w, h => by simp [st1] at h
  | o :: _ :: L, 1, v, 1, w, h => Or.inl ⟨rfl, by simp [st1] at h; exact h.symm⟩
  | o :: _ :: L, 1, v, j + 2, w, h => Or.inr ⟨by omega, h, fun z => by omega⟩
  | o :: L, i + 2, v, 0, w, h => Or.inr ⟨by omega, h, fun z => by omega⟩
  | o :: L, i + 2, v, j + 1, w, h => by
    rcases st1_get (G := G) L (i + 1) v j w h with ⟨a, b⟩ | ⟨a, b, c⟩
    · exact Or.inl ⟨by omega, b⟩
    · exact Or.inr ⟨by omega, b, fun z => c ⟨by omega, z.2⟩⟩
theorem st2_get {G : Gm} {L : LVs} {i : Nat} {v : AV} {j : Nat} {w : AV} (h : (st2 L i v)[j]? = some (some w)) : (j = i ∧ w = v) ∨ (j ≠ i ∧ j ≠ i + 1 ∧ L[j]? = some (some w) ∧ ¬ (j + 1 = i ∧ (cv G w).category = 2)) := by
  unfold st2 at h
  rw [List.getElem?_set] at h
  by_cases e : i + 1 = j
  · rw [if_pos e] at h
    split at h <;> cases h
  · rw [if_neg e] at h
    rcases st1_get (G := G) L i v j w h with a | ⟨a, b, c⟩
    · exact Or.inl a
    · exact Or.inr ⟨a, fun z => e z.symm, b, c⟩
def LV (G : Gm) (ls : Array Slot) (n : Nat) (L : LVs) : Prop := ls.size = n ∧ lv_wf ls ∧ L.length = n ∧ ∀ (i : Nat) (v : AV), L[i]? = some (some v) → ls[i]? = some (.val (cv G v))
def prs (G : Gm) : Nat → LVs → List (Nat × Value)
  | _, [] => []
  | i, none :: L => prs G (i + 1) L
  | i, some v :: L => (i, cv G v) :: prs G (i + 1) L
theorem prs_mem {G : Gm} : ∀ (L : LVs) (i : Nat) (q : Nat × Value), q ∈ prs G i L → ∃ (j : Nat) (v : AV), L[j]? = some (some v) ∧ q = (i + j, cv G v)
  | [], _, _, h => by simp [prs] at h
  | none :: L, i, q, h => by
    obtain ⟨j, v, a, b⟩ := prs_mem L (i + 1) q h
    exact ⟨j + 1, v, a, by rw [b]; congr 1; omega⟩
  | some v :: L, i, q, h => by
    rcases List.mem_cons.mp h with rfl | h
    · exact ⟨0, v, rfl, rfl⟩
    · obtain ⟨j, w, a, b⟩ := prs_mem L (i + 1) q h
      exact ⟨j + 1, w, a, by rw [b]; congr 1; omega⟩
theorem prs_in {G : Gm} : ∀ (L : LVs) (i j : Nat) (v : AV), L[j]? = some (some v) → (i + j, cv G v) ∈ prs G i L
  | [], _, _, _, h => by simp at h
  | none :: L, i, 0, v, h => by simp at h
  | none :: L, i, j + 1, v, h => by
    have := prs_in (G := G) L (i + 1) j v h
    rw [show i + (j + 1) = i + 1 + j by omega]
    exact this
  | some w :: L, i, 0, v, h => by
    have h' : w = v := by simpa using h
    subst h'
    exact List.mem_cons_self
  | some w :: L, i, j + 1, v, h => by
    have := prs_in (G := G) L (i + 1) j v h
    rw [show i + (j + 1) = i + 1 + j by omega]
    exact List.mem_cons_of_mem _ this
theorem LV.has {G : Gm} {ls : Array Slot} {n : Nat} {L : LVs} (h : LV G ls n L) : lv_has ls n (prs G 0 L) := ⟨h.1, h.2.1, fun q hq => by
  obtain ⟨j, v, a, rfl⟩ := prs_mem L 0 q hq
  rw [Nat.zero_add]
  exact h.2.2.2 j v a⟩
theorem LV.s1 {G : Gm} {ls ls' : Array Slot} {n i : Nat} {L : LVs} {v : AV} (h : LV G ls n L) (h' : lv_has ls' n ((i, cv G v) :: (prs G 0 L).filter (fun q => !(q.1 == i) && !(q.1 + 1 == i && q.2.category == 2)))) : LV G ls' n (st1 L i v) := by
  refine ⟨h'.1, h'.2.1, by rw [st1_len]; exact h.2.2.1, fun j w hw => ?_⟩
  rcases st1_get (G := G) L i v j w hw with ⟨rfl, rfl⟩ | ⟨a, b, c⟩
  · exact h'.2.2 _ List.mem_cons_self
  · refine h'.2.2 (j, cv G w) (List.mem_cons_of_mem _ (List.mem_filter.mpr ⟨?_, ?_⟩))
    · have := prs_in (G := G) L 0 j w b
      rwa [Nat.zero_add] at this
    · simp only [Bool.and_eq_true, Bool.not_eq_true', beq_eq_false_iff_ne, ne_eq, Bool.and_eq_false_iff]
      refine ⟨a, ?_⟩
      by_cases e : j + 1 = i
      · exact Or.inr (fun z => c ⟨e, z⟩)
      · exact Or.inl e
theorem LV.s2 {G : Gm} {ls ls' : Array Slot} {n i : Nat} {L : LVs} {v : AV} (h : LV G ls n L) (h' : lv_has ls' n ((i, cv G v) :: (prs G 0 L).filter (fun q => !(q.1 == i) && (!(q.1 == i + 1) && !(q.1 + 1 == i && q.2.category == 2))))) : LV G ls' n (st2 L i v) := by
  refine ⟨h'.1, h'.2.1, by unfold st2; rw [List.length_set, st1_len]; exact h.2.2.1, fun j w hw => ?_⟩
  rcases st2_get (G := G) hw with ⟨rfl, rfl⟩ | ⟨a, a2, b, c⟩
  · exact h'.2.2 _ List.mem_cons_self
  · refine h'.2.2 (j, cv G w) (List.mem_cons_of_mem _ (List.mem_filter.mpr ⟨?_, ?_⟩))
    · have := prs_in (G := G) L 0 j w b
      rwa [Nat.zero_add] at this
    · simp only [Bool.and_eq_true, Bool.not_eq_true', beq_eq_false_iff_ne, ne_eq, Bool.and_eq_false_iff]
      refine ⟨a, a2, ?_⟩
      by_cases e : j + 1 = i
      · exact Or.inr (fun z => c ⟨e, z⟩)
      · exact Or.inl e
/-! ===== the judgement ===== -/
/-- a method: its class, code, locals, what it returns, its name, its handlers, the frames and words that it and what it calls need -/
abbrev MK : Type := String × ByteArray × Nat × Option FieldType × String × List (Nat × Nat × Nat × Nat) × Nat × Nat
abbrev kO (K : MK) : String := K.1
abbrev kC (K : MK) : ByteArray := K.2.1
abbrev kL (K : MK) : Nat := K.2.2.1
abbrev kR (K : MK) : Option FieldType := K.2.2.2.1
abbrev kM (K : MK) : String := K.2.2.2.2.1
abbrev kH (K : MK) : List (Nat × Nat × Nat × Nat) := K.2.2.2.2.2.1
abbrev kF (K : MK) : Nat := K.2.2.2.2.2.2.1
abbrev kW (K : MK) : Nat := K.2.2.2.2.2.2.2
abbrev Fin' : Type := (Option AV × AM) ⊕ (Nat × AM)
def fM : Fin' → AM
  | .inl (_, M) => M
  | .inr (_, M) => M
def CT (G : Gm) (X : Sc) (K : MK) (p : Program) (l : Launch) (R : Room) (s : State) (m : MethodId) (args : Array Value) (meth : Method) (c : Code) : Prop :=
  p.tables.exec = Jvm.exec ∧ c.code = kC K ∧ c.maxLocals = kL K ∧ s.vm.findClass (kO K) = some m.cls ∧ (∀ w ∈ gtbl, w.before args s = true) ∧ meth.sig.returnType = kR K ∧ meth.locks = false ∧ meth.name = kM K ∧ c.exceptionTable.toList = tableOf (kH K) ∧ kF K ≤ R.frames ∧ kW K ≤ R.locals ∧ l.stackTraces = false ∧ EN G s ∧ EH G X s s.heap
def QF (G : Gm) (fin : Fin') : Array Value → State → Outcome → State → Prop := fun _ st o t => match fin with
  | .inl (v, M') => o = .returned (v.map (cv G)) ∧ WD G M' t.heap ∧ va_F (gA G) st t
  | .inr _ => False
def XF (G : Gm) (fin : Fin') : String → State → State → Prop := fun E st t => match fin with
  | .inr (k, M') => E = exN k ∧ WD G M' t.heap ∧ va_F (gA G) st t
  | .inl _ => False
def GW (G : Gm) (X : Sc) (K : MK) (pc : Nat) (L : LVs) (st : List AV) (M : AM) (fin : Fin') : Prop :=
  ∀ (p : Program) (l : Launch) (e : Env) (R : Room) (s : State) (m : MethodId) (args : Array Value) (below : List Frame) (meth : Method) (c : Code) (H : Heap) (locs : List Loc) (cells slots mc ms : Nat) (ls : Array Slot),
    CT G X K p l R s m args meth c → LV G ls (kL K) L → WD G M H → va_S (gA G) s.heap H locs → cells + (mN (fM fin) - mN M) ≤ mc → slots + (mU (fM fin) - mU M) ≤ ms → mc ≤ R.cells → ms ≤ R.slots → mN M ≤ mN (fM fin) → mU M ≤ mU (fM fin) →
    W p l e R s m args below meth c H locs cells slots (vx_MQ below (QF G fin) (XF G fin) args s mc ms (gA G)) (F0 m pc ls (st.map (cv G)))
section OPS
variable {G : Gm} {X : Sc} {K : MK} {pc : Nat} {L : LVs} {st : List AV} {M : AM} {fin : Fin'}
theorem GW.op {pc' : Nat} {st' : List AV} (h : ∀ {p : Program} {l : Launch} {e : Env} {R : Room} {s : State} {m : MethodId} {args : Array Value} {below : List Frame} {meth : Method} {c : Code} {H : Heap} {locs : List Loc} {cells slots : Nat} {Q : State → Prop} {ls : Array Slot}, CT G X K p l R s m args meth c → LV G ls (kL K) L → WD G M H → va_S (gA G) s.heap H locs →
      W p l e R s m args below meth c H locs cells slots Q (F0 m pc' ls (st'.map (cv G))) → W p l e R s m args below meth c H locs cells slots Q (F0 m pc ls (st.map (cv G)))) (k : GW G X K pc' L st' M fin) : GW G X K pc L st M fin :=
  fun p l e R s m args below meth c H locs cells slots mc ms ls ct lv wd hs h1 h2 h3 h4 h5 h6 => h ct lv wd hs (k p l e R s m args below meth c H locs cells slots mc ms ls ct lv wd hs h1 h2 h3 h4 h5 h6)
theorem GW.op2 {pc1 pc2 : Nat} {st1 st2 : List AV} {cnd : Prop} (h : ∀ {p : Program} {l : Launch} {e : Env} {R : Room} {s : State} {m : MethodId} {args : Array Value} {below : List Frame} {meth : Method} {c : Code} {H : Heap} {locs : List Loc} {cells slots : Nat} {Q : State → Prop} {ls : Array Slot}, CT G X K p l R s m args meth c →
      (cnd → W p l e R s m args below meth c H locs cells slots Q (F0 m pc1 ls (st1.map (cv G)))) → (¬ cnd → W p l e R s m args below meth c H locs cells slots Q (F0 m pc2 ls (st2.map (cv G)))) → W p l e R s m args below meth c H locs cells slots Q (F0 m pc ls (st.map (cv G))))
    (k1 : cnd → GW G X K pc1 L st1 M fin) (k2 : ¬ cnd → GW G X K pc2 L st2 M fin) : GW G X K pc L st M fin :=
  fun p l e R s m args below meth c H locs cells slots mc ms ls ct lv wd hs h1 h2 h3 h4 h5 h6 => h ct (fun z => k1 z p l e R s m args below meth c H locs cells slots mc ms ls ct lv wd hs h1 h2 h3 h4 h5 h6) (fun z => k2 z p l e R s m args below meth c H locs cells slots mc ms ls ct lv wd hs h1 h2 h3 h4 h5 h6)
theorem g_iadd {x y : Int32} (hd : decode (kC K) pc = .ok (.iadd, 1))  (k : GW G X K (pc + 1) L (aI (x + y) :: st) M fin) : GW G X K pc L (aI y :: aI x :: st) M fin := GW.op (fun ct lv wd hs k => lv_iadd ct.1 ct.2.1 hd k) k
theorem g_isub {x y : Int32} (hd : decode (kC K) pc = .ok (.isub, 1))  (k : GW G X K (pc + 1) L (aI (x - y) :: st) M fin) : GW G X K pc L (aI y :: aI x :: st) M fin := GW.op (fun ct lv wd hs k => lv_isub ct.1 ct.2.1 hd k) k
theorem g_imul {x y : Int32} (hd : decode (kC K) pc = .ok (.imul, 1))  (k : GW G X K (pc + 1) L (aI (x * y) :: st) M fin) : GW G X K pc L (aI y :: aI x :: st) M fin := GW.op (fun ct lv wd hs k => lv_imul ct.1 ct.2.1 hd k) k
theorem g_iand {x y : Int32} (hd : decode (kC K) pc = .ok (.iand, 1))  (k : GW G X K (pc + 1) L (aI (x &&& y) :: st) M fin) : GW G X K pc L (aI y :: aI x :: st) M fin := GW.op (fun ct lv wd hs k => lv_iand ct.1 ct.2.1 hd k) k
theorem g_ior {x y : Int32} (hd : decode (kC K) pc = .ok (.ior, 1))  (k : GW G X K (pc + 1) L (aI (x ||| y) :: st) M fin) : GW G X K pc L (aI y :: aI x :: st) M fin := GW.op (fun ct lv wd hs k => lv_ior ct.1 ct.2.1 hd k) k
theorem g_ixor {x y : Int32} (hd : decode (kC K) pc = .ok (.ixor, 1))  (k : GW G X K (pc + 1) L (aI (x ^^^ y) :: st) M fin) : GW G X K pc L (aI y :: aI x :: st) M fin := GW.op (fun ct lv wd hs k => lv_ixor ct.1 ct.2.1 hd k) k
theorem g_ishl {x y : Int32} (hd : decode (kC K) pc = .ok (.ishl, 1))  (k : GW G X K (pc + 1) L (aI (x <<< (y &&& 31)) :: st) M fin) : GW G X K pc L (aI y :: aI x :: st) M fin := GW.op (fun ct lv wd hs k => lv_ishl ct.1 ct.2.1 hd k) k
theorem g_ladd {x y : Int64} (hd : decode (kC K) pc = .ok (.ladd, 1))  (k : GW G X K (pc + 1) L (aJ (x + y) :: st) M fin) : GW G X K pc L (aJ y :: aJ x :: st) M fin := GW.op (fun ct lv wd hs k => lv_ladd ct.1 ct.2.1 hd k) k
theorem g_lsub {x y : Int64} (hd : decode (kC K) pc = .ok (.lsub, 1))  (k : GW G X K (pc + 1) L (aJ (x - y) :: st) M fin) : GW G X K pc L (aJ y :: aJ x :: st) M fin := GW.op (fun ct lv wd hs k => lv_lsub ct.1 ct.2.1 hd k) k
theorem g_lmul {x y : Int64} (hd : decode (kC K) pc = .ok (.lmul, 1))  (k : GW G X K (pc + 1) L (aJ (x * y) :: st) M fin) : GW G X K pc L (aJ y :: aJ x :: st) M fin := GW.op (fun ct lv wd hs k => lv_lmul ct.1 ct.2.1 hd k) k
theorem g_land {x y : Int64} (hd : decode (kC K) pc = .ok (.land, 1))  (k : GW G X K (pc + 1) L (aJ (x &&& y) :: st) M fin) : GW G X K pc L (aJ y :: aJ x :: st) M fin := GW.op (fun ct lv wd hs k => lv_land ct.1 ct.2.1 hd k) k
theorem g_lor {x y : Int64} (hd : decode (kC K) pc = .ok (.lor, 1))  (k : GW G X K (pc + 1) L (aJ (x ||| y) :: st) M fin) : GW G X K pc L (aJ y :: aJ x :: st) M fin := GW.op (fun ct lv wd hs k => lv_lor ct.1 ct.2.1 hd k) k
theorem g_lxor {x y : Int64} (hd : decode (kC K) pc = .ok (.lxor, 1))  (k : GW G X K (pc + 1) L (aJ (x ^^^ y) :: st) M fin) : GW G X K pc L (aJ y :: aJ x :: st) M fin := GW.op (fun ct lv wd hs k => lv_lxor ct.1 ct.2.1 hd k) k
theorem g_ldiv {x y : Int64} (hd : decode (kC K) pc = .ok (.ldiv, 1)) (hne : ¬ y = 0) (k : GW G X K (pc + 1) L (aJ (x / y) :: st) M fin) : GW G X K pc L (aJ y :: aJ x :: st) M fin := GW.op (fun ct lv wd hs k => lv_ldiv ct.1 ct.2.1 hd hne k) k
theorem g_ineg {x : Int32} (hd : decode (kC K) pc = .ok (.ineg, 1))  (k : GW G X K (pc + 1) L (aI (-x) :: st) M fin) : GW G X K pc L (aI x :: st) M fin := GW.op (fun ct lv wd hs k => lv_ineg ct.1 ct.2.1 hd k) k
theorem g_lneg {x : Int64} (hd : decode (kC K) pc = .ok (.lneg, 1))  (k : GW G X K (pc + 1) L (aJ (-x) :: st) M fin) : GW G X K pc L (aJ x :: st) M fin := GW.op (fun ct lv wd hs k => lv_lneg ct.1 ct.2.1 hd k) k
theorem g_i2l {x : Int32} (hd : decode (kC K) pc = .ok (.i2l, 1))  (k : GW G X K (pc + 1) L (aJ x.toInt64 :: st) M fin) : GW G X K pc L (aI x :: st) M fin := GW.op (fun ct lv wd hs k => lv_i2l ct.1 ct.2.1 hd rfl k) k
theorem g_l2i {x : Int64} (hd : decode (kC K) pc = .ok (.l2i, 1))  (k : GW G X K (pc + 1) L (aI x.toInt32 :: st) M fin) : GW G X K pc L (aJ x :: st) M fin := GW.op (fun ct lv wd hs k => lv_l2i ct.1 ct.2.1 hd rfl k) k
theorem g_iushr {x y : Int32} (hd : decode (kC K) pc = .ok (.iushr, 1))  (k : GW G X K (pc + 1) L (aI (x.toUInt32 >>> (y.toUInt32 &&& Int32.toUInt32 31)).toInt32 :: st) M fin) : GW G X K pc L (aI y :: aI x :: st) M fin := GW.op (fun ct lv wd hs k => lv_iushr ct.1 ct.2.1 hd rfl k) k
theorem g_lshl {x : Int64} {y : Int32} (hd : decode (kC K) pc = .ok (.lshl, 1))  (k : GW G X K (pc + 1) L (aJ (x <<< (y.toInt64 &&& 63)) :: st) M fin) : GW G X K pc L (aI y :: aJ x :: st) M fin := GW.op (fun ct lv wd hs k => lv_lshl ct.1 ct.2.1 hd rfl k) k
theorem g_iconst {n : Int} {v : Int32} (hd : decode (kC K) pc = .ok (.iconst n, 1)) (hv : Int32.ofInt n = v) (k : GW G X K (pc + 1) L (aI v :: st) M fin) : GW G X K pc L (st) M fin := GW.op (fun ct lv wd hs k => lv_iconst ct.1 ct.2.1 hd hv k) k
theorem g_bipush {n : Int} {v : Int32} (hd : decode (kC K) pc = .ok (.bipush n, 2)) (hv : (Int8.ofInt n).toInt32 = v) (k : GW G X K (pc + 2) L (aI v :: st) M fin) : GW G X K pc L (st) M fin := GW.op (fun ct lv wd hs k => lv_bipush ct.1 ct.2.1 hd hv k) k
theorem g_sipush {n : Int} {v : Int32} (hd : decode (kC K) pc = .ok (.sipush n, 3)) (hv : (Int16.ofInt n).toInt32 = v) (k : GW G X K (pc + 3) L (aI v :: st) M fin) : GW G X K pc L (st) M fin := GW.op (fun ct lv wd hs k => lv_sipush ct.1 ct.2.1 hd hv k) k
theorem g_lconst {n : Fin 2} {v : Int64} (hd : decode (kC K) pc = .ok (.lconst n, 1)) (hv : Int64.ofNat (n : Nat) = v) (k : GW G X K (pc + 1) L (aJ v :: st) M fin) : GW G X K pc L (st) M fin := GW.op (fun ct lv wd hs k => lv_lconst ct.1 ct.2.1 hd hv k) k
theorem g_null  (hd : decode (kC K) pc = .ok (.aconst_null, 1))  (k : GW G X K (pc + 1) L (aR none :: st) M fin) : GW G X K pc L (st) M fin := GW.op (fun ct lv wd hs k => lv_null ct.1 ct.2.1 hd k) k
theorem g_ldc {i : Nat} {v : Int32} (hd : decode (kC K) pc = .ok (.ldc i, 2)) (hw : Cond.constant (kO K) i v ∈ gtbl) (k : GW G X K (pc + 2) L (aI v :: st) M fin) : GW G X K pc L (st) M fin := GW.op (fun ct lv wd hs k => lv_ldc ct.1 ct.2.1 ct.2.2.2.1 (ct.2.2.2.2.1 _ hw) hd k) k
theorem g_ldc2 {i : Nat} {v : Int64} (hd : decode (kC K) pc = .ok (.ldc2_w i, 3)) (hw : Cond.constantLong (kO K) i v ∈ gtbl) (k : GW G X K (pc + 3) L (aJ v :: st) M fin) : GW G X K pc L (st) M fin := GW.op (fun ct lv wd hs k => lv_ldc2 ct.1 ct.2.1 ct.2.2.2.1 (ct.2.2.2.2.1 _ hw) hd k) k
theorem g_dupI {x : Int32} (hd : decode (kC K) pc = .ok (.dup, 1))  (k : GW G X K (pc + 1) L (aI x :: aI x :: st) M fin) : GW G X K pc L (aI x :: st) M fin := GW.op (fun ct lv wd hs k => lv_dup ct.1 ct.2.1 hd rfl k) k
theorem g_dupR {x : Option Nat} (hd : decode (kC K) pc = .ok (.dup, 1))  (k : GW G X K (pc + 1) L (aR x :: aR x :: st) M fin) : GW G X K pc L (aR x :: st) M fin := GW.op (fun ct lv wd hs k => lv_dup ct.1 ct.2.1 hd (by cases x <;> rfl) k) k
theorem g_popI {x : Int32} (hd : decode (kC K) pc = .ok (.pop, 1))  (k : GW G X K (pc + 1) L (st) M fin) : GW G X K pc L (aI x :: st) M fin := GW.op (fun ct lv wd hs k => lv_pop ct.1 ct.2.1 hd rfl k) k
theorem g_popR {x : Option Nat} (hd : decode (kC K) pc = .ok (.pop, 1))  (k : GW G X K (pc + 1) L (st) M fin) : GW G X K pc L (aR x :: st) M fin := GW.op (fun ct lv wd hs k => lv_pop ct.1 ct.2.1 hd (by cases x <;> rfl) k) k
theorem g_pop2 {x : Int64} (hd : decode (kC K) pc = .ok (.pop2, 1))  (k : GW G X K (pc + 1) L (st) M fin) : GW G X K pc L (aJ x :: st) M fin := GW.op (fun ct lv wd hs k => lv_pop2_2 ct.1 ct.2.1 hd rfl k) k
theorem g_dup2RI {y : Int32} {x : Option Nat} (hd : decode (kC K) pc = .ok (.dup2, 1))  (k : GW G X K (pc + 1) L (aI y :: aR x :: aI y :: aR x :: st) M fin) : GW G X K pc L (aI y :: aR x :: st) M fin := GW.op (fun ct lv wd hs k => lv_dup2_11 ct.1 ct.2.1 hd rfl (by cases x <;> rfl) k) k
theorem g_dup2J {x : Int64} (hd : decode (kC K) pc = .ok (.dup2, 1))  (k : GW G X K (pc + 1) L (aJ x :: aJ x :: st) M fin) : GW G X K pc L (aJ x :: st) M fin := GW.op (fun ct lv wd hs k => lv_dup2_2 ct.1 ct.2.1 hd rfl k) k
theorem g_iload {i : Nat} {v : Int32} (hd : decode (kC K) pc = .ok (.iload i, 2)) (hl : L[i]? = some (some (aI v))) (k : GW G X K (pc + 2) L (aI v :: st) M fin) : GW G X K pc L (st) M fin := GW.op (fun ct lv wd hs k => lv_iload ct.1 ct.2.1 hd (lv.2.2.2 _ _ hl) k) k
theorem g_iload_n {i : Fin 4} {v : Int32} (hd : decode (kC K) pc = .ok (.iload_n i, 1)) (hl : L[(i : Nat)]? = some (some (aI v))) (k : GW G X K (pc + 1) L (aI v :: st) M fin) : GW G X K pc L (st) M fin := GW.op (fun ct lv wd hs k => lv_iload_n ct.1 ct.2.1 hd rfl (lv.2.2.2 _ _ hl) k) k
theorem g_lload {i : Nat} {v : Int64} (hd : decode (kC K) pc = .ok (.lload i, 2)) (hl : L[i]? = some (some (aJ v))) (k : GW G X K (pc + 2) L (aJ v :: st) M fin) : GW G X K pc L (st) M fin := GW.op (fun ct lv wd hs k => lv_lload ct.1 ct.2.1 hd (lv.2.2.2 _ _ hl) k) k
theorem g_lload_n {i : Fin 4} {v : Int64} (hd : decode (kC K) pc = .ok (.lload_n i, 1)) (hl : L[(i : Nat)]? = some (some (aJ v))) (k : GW G X K (pc + 1) L (aJ v :: st) M fin) : GW G X K pc L (st) M fin := GW.op (fun ct lv wd hs k => lv_lload_n ct.1 ct.2.1 hd rfl (lv.2.2.2 _ _ hl) k) k
theorem g_aload {i : Nat} {v : Option Nat} (hd : decode (kC K) pc = .ok (.aload i, 2)) (hl : L[i]? = some (some (aR v))) (k : GW G X K (pc + 2) L (aR v :: st) M fin) : GW G X K pc L (st) M fin := GW.op (fun ct lv wd hs k => (by cases v with | none => exact lv_aloadN ct.1 ct.2.1 hd (lv.2.2.2 _ _ hl) k | some v => exact lv_aload ct.1 ct.2.1 hd (lv.2.2.2 _ _ hl) k)) k
theorem g_aload_n {i : Fin 4} {v : Option Nat} (hd : decode (kC K) pc = .ok (.aload_n i, 1)) (hl : L[(i : Nat)]? = some (some (aR v))) (k : GW G X K (pc + 1) L (aR v :: st) M fin) : GW G X K pc L (st) M fin := GW.op (fun ct lv wd hs k => (by cases v with | none => exact lv_aload_nN ct.1 ct.2.1 hd rfl (lv.2.2.2 _ _ hl) k | some v => exact lv_aload_n ct.1 ct.2.1 hd rfl (lv.2.2.2 _ _ hl) k)) k
theorem g_lcmp {x y : Int64} (hd : decode (kC K) pc = .ok (.lcmp, 1))  (k : GW G X K (pc + 1) L (aI (lg_cmp x y) :: st) M fin) : GW G X K pc L (aJ y :: aJ x :: st) M fin := GW.op (fun ct lv wd hs k => W.lcmp ct.1 ct.2.1 hd k) k
theorem g_goto {off : Int} {tgt : Nat} (hd : decode (kC K) pc = .ok (.goto off, 3)) (ht : (pc : Int) + off = (tgt : Int)) (k : GW G X K tgt L st M fin) : GW G X K pc L st M fin := GW.op (fun ct lv wd hs k => lv_goto ct.1 ct.2.1 hd ht k) k
theorem g_if_eq {off : Int} {tgt : Nat} {x : Int32} (hd : decode (kC K) pc = .ok (.ifCond .eq off, 3)) (ht : (pc : Int) + off = (tgt : Int)) (k1 : x = 0 → GW G X K tgt L st M fin) (k2 : ¬ (x = 0) → GW G X K (pc + 3) L st M fin) : GW G X K pc L (aI x :: st) M fin := GW.op2 (fun ct k1 k2 => lv_if_eq ct.1 ct.2.1 hd ht k1 k2) k1 k2
theorem g_if_lt {off : Int} {tgt : Nat} {x : Int32} (hd : decode (kC K) pc = .ok (.ifCond .lt off, 3)) (ht : (pc : Int) + off = (tgt : Int)) (k1 : x < 0 → GW G X K tgt L st M fin) (k2 : ¬ (x < 0) → GW G X K (pc + 3) L st M fin) : GW G X K pc L (aI x :: st) M fin := GW.op2 (fun ct k1 k2 => lv_if_lt ct.1 ct.2.1 hd ht k1 k2) k1 k2
theorem g_if_ge {off : Int} {tgt : Nat} {x : Int32} (hd : decode (kC K) pc = .ok (.ifCond .ge off, 3)) (ht : (pc : Int) + off = (tgt : Int)) (k1 : 0 ≤ x → GW G X K tgt L st M fin) (k2 : ¬ (0 ≤ x) → GW G X K (pc + 3) L st M fin) : GW G X K pc L (aI x :: st) M fin := GW.op2 (fun ct k1 k2 => lv_if_ge ct.1 ct.2.1 hd ht k1 k2) k1 k2
theorem g_if_gt {off : Int} {tgt : Nat} {x : Int32} (hd : decode (kC K) pc = .ok (.ifCond .gt off, 3)) (ht : (pc : Int) + off = (tgt : Int)) (k1 : 0 < x → GW G X K tgt L st M fin) (k2 : ¬ (0 < x) → GW G X K (pc + 3) L st M fin) : GW G X K pc L (aI x :: st) M fin := GW.op2 (fun ct k1 k2 => lv_if_gt ct.1 ct.2.1 hd ht k1 k2) k1 k2
theorem g_if_le {off : Int} {tgt : Nat} {x : Int32} (hd : decode (kC K) pc = .ok (.ifCond .le off, 3)) (ht : (pc : Int) + off = (tgt : Int)) (k1 : x ≤ 0 → GW G X K tgt L st M fin) (k2 : ¬ (x ≤ 0) → GW G X K (pc + 3) L st M fin) : GW G X K pc L (aI x :: st) M fin := GW.op2 (fun ct k1 k2 => lv_if_le ct.1 ct.2.1 hd ht k1 k2) k1 k2
theorem g_icmp_eq {off : Int} {tgt : Nat} {x y : Int32} (hd : decode (kC K) pc = .ok (.if_icmp .eq off, 3)) (ht : (pc : Int) + off = (tgt : Int)) (k1 : x = y → GW G X K tgt L st M fin) (k2 : ¬ (x = y) → GW G X K (pc + 3) L st M fin) : GW G X K pc L (aI y :: aI x :: st) M fin := GW.op2 (fun ct k1 k2 => lv_icmp_eq ct.1 ct.2.1 hd ht k1 k2) k1 k2
theorem g_icmp_lt {off : Int} {tgt : Nat} {x y : Int32} (hd : decode (kC K) pc = .ok (.if_icmp .lt off, 3)) (ht : (pc : Int) + off = (tgt : Int)) (k1 : x < y → GW G X K tgt L st M fin) (k2 : ¬ (x < y) → GW G X K (pc + 3) L st M fin) : GW G X K pc L (aI y :: aI x :: st) M fin := GW.op2 (fun ct k1 k2 => lv_icmp_lt ct.1 ct.2.1 hd ht k1 k2) k1 k2
theorem g_icmp_ge {off : Int} {tgt : Nat} {x y : Int32} (hd : decode (kC K) pc = .ok (.if_icmp .ge off, 3)) (ht : (pc : Int) + off = (tgt : Int)) (k1 : y ≤ x → GW G X K tgt L st M fin) (k2 : ¬ (y ≤ x) → GW G X K (pc + 3) L st M fin) : GW G X K pc L (aI y :: aI x :: st) M fin := GW.op2 (fun ct k1 k2 => lv_icmp_ge ct.1 ct.2.1 hd ht k1 k2) k1 k2
theorem g_icmp_gt {off : Int} {tgt : Nat} {x y : Int32} (hd : decode (kC K) pc = .ok (.if_icmp .gt off, 3)) (ht : (pc : Int) + off = (tgt : Int)) (k1 : y < x → GW G X K tgt L st M fin) (k2 : ¬ (y < x) → GW G X K (pc + 3) L st M fin) : GW G X K pc L (aI y :: aI x :: st) M fin := GW.op2 (fun ct k1 k2 => lv_icmp_gt ct.1 ct.2.1 hd ht k1 k2) k1 k2
theorem g_icmp_le {off : Int} {tgt : Nat} {x y : Int32} (hd : decode (kC K) pc = .ok (.if_icmp .le off, 3)) (ht : (pc : Int) + off = (tgt : Int)) (k1 : x ≤ y → GW G X K tgt L st M fin) (k2 : ¬ (x ≤ y) → GW G X K (pc + 3) L st M fin) : GW G X K pc L (aI y :: aI x :: st) M fin := GW.op2 (fun ct k1 k2 => lv_icmp_le ct.1 ct.2.1 hd ht k1 k2) k1 k2
theorem g_if_ne {off : Int} {tgt : Nat} {x : Int32} (hd : decode (kC K) pc = .ok (.ifCond .ne off, 3)) (ht : (pc : Int) + off = (tgt : Int)) (k1 : ¬ x = 0 → GW G X K tgt L st M fin) (k2 : x = 0 → GW G X K (pc + 3) L st M fin) : GW G X K pc L (aI x :: st) M fin := GW.op2 (cnd := x = 0) (fun ct k1 k2 => lv_if_ne ct.1 ct.2.1 hd ht k2 k1) k2 k1
theorem g_icmp_ne {off : Int} {tgt : Nat} {x y : Int32} (hd : decode (kC K) pc = .ok (.if_icmp .ne off, 3)) (ht : (pc : Int) + off = (tgt : Int)) (k1 : ¬ x = y → GW G X K tgt L st M fin) (k2 : x = y → GW G X K (pc + 3) L st M fin) : GW G X K pc L (aI y :: aI x :: st) M fin := GW.op2 (cnd := x = y) (fun ct k1 k2 => lv_icmp_ne ct.1 ct.2.1 hd ht k2 k1) k2 k1
theorem g_ifnull {off : Int} {tgt : Nat} {x : Option Nat} (hd : decode (kC K) pc = .ok (.ifnull off, 3)) (ht : (pc : Int) + off = (tgt : Int)) (k1 : x = none → GW G X K tgt L st M fin) (k2 : ¬ x = none → GW G X K (pc + 3) L st M fin) : GW G X K pc L (aR x :: st) M fin := GW.op2 (cnd := x = none) (fun ct k1 k2 => by
  cases x with
  | none => exact lv_ifnullN ct.1 ct.2.1 hd ht (k1 rfl)
  | some x => exact lv_ifnull ct.1 ct.2.1 hd (k2 (fun z => by cases z))) k1 k2
theorem g_ifnonnull {off : Int} {tgt : Nat} {x : Option Nat} (hd : decode (kC K) pc = .ok (.ifnonnull off, 3)) (ht : (pc : Int) + off = (tgt : Int)) (k1 : ¬ x = none → GW G X K tgt L st M fin) (k2 : x = none → GW G X K (pc + 3) L st M fin) : GW G X K pc L (aR x :: st) M fin := GW.op2 (cnd := x = none) (fun ct k1 k2 => by
  cases x with
  | none => exact lv_ifnonnullN ct.1 ct.2.1 hd (k1 rfl)
  | some x => exact lv_ifnonnull ct.1 ct.2.1 hd ht (k2 (fun z => by cases z))) k2 k1
theorem g_istore {i : Nat} {v : Int32} (hd : decode (kC K) pc = .ok (.istore i, 2)) (hi : i < L.length) (k : GW G X K (pc + 2) (st1 L i (aI v)) st M fin) : GW G X K pc L (aI v :: st) M fin := fun p l e R s m args below meth c H locs cells slots mc ms ls ct lv wd hs h1 h2 h3 h4 h5 h6 => lv_istore ct.1 ct.2.1 hd lv.has (by have := lv.2.2.1; omega) rfl (fun ls hl => k p l e R s m args below meth c H locs cells slots mc ms ls ct (lv.s1 (v := aI v) hl) wd hs h1 h2 h3 h4 h5 h6)
theorem g_istore_n {i : Fin 4} {v : Int32} (hd : decode (kC K) pc = .ok (.istore_n i, 1)) (hi : (i : Nat) < L.length) (k : GW G X K (pc + 1) (st1 L i (aI v)) st M fin) : GW G X K pc L (aI v :: st) M fin := fun p l e R s m args below meth c H locs cells slots mc ms ls ct lv wd hs h1 h2 h3 h4 h5 h6 => lv_istore_n ct.1 ct.2.1 hd rfl lv.has (by have := lv.2.2.1; omega) rfl (fun ls hl => k p l e R s m args below meth c H locs cells slots mc ms ls ct (lv.s1 (v := aI v) hl) wd hs h1 h2 h3 h4 h5 h6)
theorem g_lstore {i : Nat} {v : Int64} (hd : decode (kC K) pc = .ok (.lstore i, 2)) (hi : i + 1 < L.length) (k : GW G X K (pc + 2) (st2 L i (aJ v)) st M fin) : GW G X K pc L (aJ v :: st) M fin := fun p l e R s m args below meth c H locs cells slots mc ms ls ct lv wd hs h1 h2 h3 h4 h5 h6 => lv_lstore ct.1 ct.2.1 hd lv.has (by have := lv.2.2.1; omega) rfl (fun ls hl => k p l e R s m args below meth c H locs cells slots mc ms ls ct (lv.s2 (v := aJ v) hl) wd hs h1 h2 h3 h4 h5 h6)
theorem g_lstore_n {i : Fin 4} {v : Int64} (hd : decode (kC K) pc = .ok (.lstore_n i, 1)) (hi : (i : Nat) + 1 < L.length) (k : GW G X K (pc + 1) (st2 L i (aJ v)) st M fin) : GW G X K pc L (aJ v :: st) M fin := fun p l e R s m args below meth c H locs cells slots mc ms ls ct lv wd hs h1 h2 h3 h4 h5 h6 => lv_lstore_n ct.1 ct.2.1 hd rfl lv.has (by have := lv.2.2.1; omega) rfl (fun ls hl => k p l e R s m args below meth c H locs cells slots mc ms ls ct (lv.s2 (v := aJ v) hl) wd hs h1 h2 h3 h4 h5 h6)
theorem g_astore {i : Nat} {v : Option Nat} (hd : decode (kC K) pc = .ok (.astore i, 2)) (hi : i < L.length) (k : GW G X K (pc + 2) (st1 L i (aR v)) st M fin) : GW G X K pc L (aR v :: st) M fin := fun p l e R s m args below meth c H locs cells slots mc ms ls ct lv wd hs h1 h2 h3 h4 h5 h6 => (by
  cases v with
  | none => exact lv_astoreN ct.1 ct.2.1 hd lv.has (by have := lv.2.2.1; omega) rfl (fun ls hl => k p l e R s m args below meth c H locs cells slots mc ms ls ct (lv.s1 (v := aR none) hl) wd hs h1 h2 h3 h4 h5 h6)
  | some v => exact lv_astore ct.1 ct.2.1 hd lv.has (by have := lv.2.2.1; omega) rfl (fun ls hl => k p l e R s m args below meth c H locs cells slots mc ms ls ct (lv.s1 (v := aR (some v)) hl) wd hs h1 h2 h3 h4 h5 h6))
theorem g_astore_n {i : Fin 4} {v : Option Nat} (hd : decode (kC K) pc = .ok (.astore_n i, 1)) (hi : (i : Nat) < L.length) (k : GW G X K (pc + 1) (st1 L i (aR v)) st M fin) : GW G X K pc L (aR v :: st) M fin := fun p l e R s m args below meth c H locs cells slots mc ms ls ct lv wd hs h1 h2 h3 h4 h5 h6 => (by
  cases v with
  | none => exact lv_astore_nN ct.1 ct.2.1 hd rfl lv.has (by have := lv.2.2.1; omega) rfl (fun ls hl => k p l e R s m args below meth c H locs cells slots mc ms ls ct (lv.s1 (v := aR none) hl) wd hs h1 h2 h3 h4 h5 h6)
  | some v => exact lv_astore_n ct.1 ct.2.1 hd rfl lv.has (by have := lv.2.2.1; omega) rfl (fun ls hl => k p l e R s m args below meth c H locs cells slots mc ms ls ct (lv.s1 (v := aR (some v)) hl) wd hs h1 h2 h3 h4 h5 h6))
theorem g_iinc {i : Nat} {n : Int} {x : Int32} (hd : decode (kC K) pc = .ok (.iinc i n, 3)) (hl : L[i]? = some (some (aI x))) (k : GW G X K (pc + 3) (st1 L i (aI (x + Int32.ofInt n))) st M fin) : GW G X K pc L st M fin := fun p l e R s m args below meth c H locs cells slots mc ms ls ct lv wd hs h1 h2 h3 h4 h5 h6 => by
  have hm := prs_in (G := G) L 0 i (aI x) hl
  rw [Nat.zero_add] at hm
  obtain ⟨j, hj⟩ := List.getElem?_of_mem hm
  have hi : i < L.length := (List.getElem?_eq_some_iff.mp hl).1
  exact lv_iinc ct.1 ct.2.1 hd lv.has hj rfl (by have := lv.2.2.1; omega) rfl (fun ls hl => k p l e R s m args below meth c H locs cells slots mc ms ls ct (lv.s1 (v := aI (x + Int32.ofInt n)) hl) wd hs h1 h2 h3 h4 h5 h6)
end OPS
