/-! ===== stretches that make no cell and throw nothing ===== -/
def Sh (M M' : AM) : Prop := M'.1 = M.1 ∧ mS M' = mS M ∧ ∀ r j, (mS M r).1 < 8 → mR M' r j = mR M r j
theorem Sh.rf {M : AM} : Sh M M := ⟨rfl, rfl, fun _ _ _ => rfl⟩
theorem Sh.tr {M M1 M2 : AM} (h : Sh M M1) (k : Sh M1 M2) : Sh M M2 := ⟨k.1.trans h.1, k.2.1.trans h.2.1, fun r j hr => (k.2.2 r j (by rw [h.2.1]; exact hr)).trans (h.2.2 r j hr)⟩
theorem Sh.wI {M : AM} {r j : Nat} {x : Int32} : Sh M (wrI M r j x) := ⟨rfl, rfl, fun _ _ _ => rfl⟩
theorem Sh.wJ {M : AM} {r j : Nat} {x : Int64} : Sh M (wrJ M r j x) := ⟨rfl, rfl, fun _ _ _ => rfl⟩
theorem Sh.wR {M : AM} {r j : Nat} {x : Option Nat} (h : (mS M r).1 = 14) : Sh M (wrR M r j x) := ⟨rfl, rfl, fun q i hq => if_neg (fun z => by rw [z.1, h] at hq; omega)⟩
theorem Lv.sh {M M' : AM} {r k : Nat} (s : Sh M M') (h : Lv M r k) : Lv M' r k := ⟨h.1, by show r < M'.1.1; rw [s.1]; exact h.2.1, by rw [s.2.1]; exact h.2.2⟩
def E (K : MK) (pc : Nat) (L : LVs) (st : List AV) (M : AM) (v : Option AV) (M' : AM) : Prop := Sh M M' ∧ ∀ (G : Gm) (X : Sc), GW G X K pc L st M (.inl (v, M'))
def Ev (K : MK) (as : List AV) (M : AM) (v : Option AV) (M' : AM) : Prop := (iniL as).length ≤ kL K ∧ E K 0 (ini (kL K) as) [] M v M'
section EROWS
variable {K Kc : MK} {pc idx : Nat} {L : LVs} {st rest As : List AV} {M M' M1 : AM} {v v1 : Option AV} {y : MethodName}
theorem e_iadd {x y : Int32} (hd : decode (kC K) pc = .ok (.iadd, 1))  (k : E K (pc + 1) L (aI (x + y) :: st) M v M') : E K pc L (aI y :: aI x :: st) M v M' := ⟨k.1, fun G X => g_iadd hd (k.2 G X)⟩
theorem e_isub {x y : Int32} (hd : decode (kC K) pc = .ok (.isub, 1))  (k : E K (pc + 1) L (aI (x - y) :: st) M v M') : E K pc L (aI y :: aI x :: st) M v M' := ⟨k.1, fun G X => g_isub hd (k.2 G X)⟩
theorem e_imul {x y : Int32} (hd : decode (kC K) pc = .ok (.imul, 1))  (k : E K (pc + 1) L (aI (x * y) :: st) M v M') : E K pc L (aI y :: aI x :: st) M v M' := ⟨k.1, fun G X => g_imul hd (k.2 G X)⟩
theorem e_iand {x y : Int32} (hd : decode (kC K) pc = .ok (.iand, 1))  (k : E K (pc + 1) L (aI (x &&& y) :: st) M v M') : E K pc L (aI y :: aI x :: st) M v M' := ⟨k.1, fun G X => g_iand hd (k.2 G X)⟩
theorem e_ior {x y : Int32} (hd : decode (kC K) pc = .ok (.ior, 1))  (k : E K (pc + 1) L (aI (x ||| y) :: st) M v M') : E K pc L (aI y :: aI x :: st) M v M' := ⟨k.1, fun G X => g_ior hd (k.2 G X)⟩
theorem e_ixor {x y : Int32} (hd : decode (kC K) pc = .ok (.ixor, 1))  (k : E K (pc + 1) L (aI (x ^^^ y) :: st) M v M') : E K pc L (aI y :: aI x :: st) M v M' := ⟨k.1, fun G X => g_ixor hd (k.2 G X)⟩
theorem e_ishl {x y : Int32} (hd : decode (kC K) pc = .ok (.ishl, 1))  (k : E K (pc + 1) L (aI (x <<< (y &&& 31)) :: st) M v M') : E K pc L (aI y :: aI x :: st) M v M' := ⟨k.1, fun G X => g_ishl hd (k.2 G X)⟩
theorem e_ladd {x y : Int64} (hd : decode (kC K) pc = .ok (.ladd, 1))  (k : E K (pc + 1) L (aJ (x + y) :: st) M v M') : E K pc L (aJ y :: aJ x :: st) M v M' := ⟨k.1, fun G X => g_ladd hd (k.2 G X)⟩
theorem e_lsub {x y : Int64} (hd : decode (kC K) pc = .ok (.lsub, 1))  (k : E K (pc + 1) L (aJ (x - y) :: st) M v M') : E K pc L (aJ y :: aJ x :: st) M v M' := ⟨k.1, fun G X => g_lsub hd (k.2 G X)⟩
theorem e_lmul {x y : Int64} (hd : decode (kC K) pc = .ok (.lmul, 1))  (k : E K (pc + 1) L (aJ (x * y) :: st) M v M') : E K pc L (aJ y :: aJ x :: st) M v M' := ⟨k.1, fun G X => g_lmul hd (k.2 G X)⟩
theorem e_land {x y : Int64} (hd : decode (kC K) pc = .ok (.land, 1))  (k : E K (pc + 1) L (aJ (x &&& y) :: st) M v M') : E K pc L (aJ y :: aJ x :: st) M v M' := ⟨k.1, fun G X => g_land hd (k.2 G X)⟩
theorem e_lor {x y : Int64} (hd : decode (kC K) pc = .ok (.lor, 1))  (k : E K (pc + 1) L (aJ (x ||| y) :: st) M v M') : E K pc L (aJ y :: aJ x :: st) M v M' := ⟨k.1, fun G X => g_lor hd (k.2 G X)⟩
theorem e_lxor {x y : Int64} (hd : decode (kC K) pc = .ok (.lxor, 1))  (k : E K (pc + 1) L (aJ (x ^^^ y) :: st) M v M') : E K pc L (aJ y :: aJ x :: st) M v M' := ⟨k.1, fun G X => g_lxor hd (k.2 G X)⟩
theorem e_ldiv {x y : Int64} (hd : decode (kC K) pc = .ok (.ldiv, 1)) (hne : ¬ y = 0) (k : E K (pc + 1) L (aJ (x / y) :: st) M v M') : E K pc L (aJ y :: aJ x :: st) M v M' := ⟨k.1, fun G X => g_ldiv hd hne (k.2 G X)⟩
theorem e_ineg {x : Int32} (hd : decode (kC K) pc = .ok (.ineg, 1))  (k : E K (pc + 1) L (aI (-x) :: st) M v M') : E K pc L (aI x :: st) M v M' := ⟨k.1, fun G X => g_ineg hd (k.2 G X)⟩
theorem e_lneg {x : Int64} (hd : decode (kC K) pc = .ok (.lneg, 1))  (k : E K (pc + 1) L (aJ (-x) :: st) M v M') : E K pc L (aJ x :: st) M v M' := ⟨k.1, fun G X => g_lneg hd (k.2 G X)⟩
theorem e_i2l {x : Int32} (hd : decode (kC K) pc = .ok (.i2l, 1))  (k : E K (pc + 1) L (aJ x.toInt64 :: st) M v M') : E K pc L (aI x :: st) M v M' := ⟨k.1, fun G X => g_i2l hd (k.2 G X)⟩
theorem e_l2i {x : Int64} (hd : decode (kC K) pc = .ok (.l2i, 1))  (k : E K (pc + 1) L (aI x.toInt32 :: st) M v M') : E K pc L (aJ x :: st) M v M' := ⟨k.1, fun G X => g_l2i hd (k.2 G X)⟩
theorem e_iushr {x y : Int32} (hd : decode (kC K) pc = .ok (.iushr, 1))  (k : E K (pc + 1) L (aI (x.toUInt32 >>> (y.toUInt32 &&& Int32.toUInt32 31)).toInt32 :: st) M v M') : E K pc L (aI y :: aI x :: st) M v M' := ⟨k.1, fun G X => g_iushr hd (k.2 G X)⟩
theorem e_lshl {x : Int64} {y : Int32} (hd : decode (kC K) pc = .ok (.lshl, 1))  (k : E K (pc + 1) L (aJ (x <<< (y.toInt64 &&& 63)) :: st) M v M') : E K pc L (aI y :: aJ x :: st) M v M' := ⟨k.1, fun G X => g_lshl hd (k.2 G X)⟩
theorem e_iconst {n : Int} {u : Int32} (hd : decode (kC K) pc = .ok (.iconst n, 1)) (hv : Int32.ofInt n = u) (k : E K (pc + 1) L (aI u :: st) M v M') : E K pc L (st) M v M' := ⟨k.1, fun G X => g_iconst hd hv (k.2 G X)⟩
theorem e_bipush {n : Int} {u : Int32} (hd : decode (kC K) pc = .ok (.bipush n, 2)) (hv : (Int8.ofInt n).toInt32 = u) (k : E K (pc + 2) L (aI u :: st) M v M') : E K pc L (st) M v M' := ⟨k.1, fun G X => g_bipush hd hv (k.2 G X)⟩
theorem e_sipush {n : Int} {u : Int32} (hd : decode (kC K) pc = .ok (.sipush n, 3)) (hv : (Int16.ofInt n).toInt32 = u) (k : E K (pc + 3) L (aI u :: st) M v M') : E K pc L (st) M v M' := ⟨k.1, fun G X => g_sipush hd hv (k.2 G X)⟩
theorem e_lconst {n : Fin 2} {u : Int64} (hd : decode (kC K) pc = .ok (.lconst n, 1)) (hv : Int64.ofNat (n : Nat) = u) (k : E K (pc + 1) L (aJ u :: st) M v M') : E K pc L (st) M v M' := ⟨k.1, fun G X => g_lconst hd hv (k.2 G X)⟩
theorem e_null  (hd : decode (kC K) pc = .ok (.aconst_null, 1))  (k : E K (pc + 1) L (aR none :: st) M v M') : E K pc L (st) M v M' := ⟨k.1, fun G X => g_null hd (k.2 G X)⟩
theorem e_ldc {i : Nat} {u : Int32} (hd : decode (kC K) pc = .ok (.ldc i, 2)) (hw : Cond.constant (kO K) i u ∈ gtbl) (k : E K (pc + 2) L (aI u :: st) M v M') : E K pc L (st) M v M' := ⟨k.1, fun G X => g_ldc hd hw (k.2 G X)⟩
theorem e_ldc2 {i : Nat} {u : Int64} (hd : decode (kC K) pc = .ok (.ldc2_w i, 3)) (hw : Cond.constantLong (kO K) i u ∈ gtbl) (k : E K (pc + 3) L (aJ u :: st) M v M') : E K pc L (st) M v M' := ⟨k.1, fun G X => g_ldc2 hd hw (k.2 G X)⟩
theorem e_dupI {x : Int32} (hd : decode (kC K) pc = .ok (.dup, 1))  (k : E K (pc + 1) L (aI x :: aI x :: st) M v M') : E K pc L (aI x :: st) M v M' := ⟨k.1, fun G X => g_dupI hd (k.2 G X)⟩
theorem e_dupR {x : Option Nat} (hd : decode (kC K) pc = .ok (.dup, 1))  (k : E K (pc + 1) L (aR x :: aR x :: st) M v M') : E K pc L (aR x :: st) M v M' := ⟨k.1, fun G X => g_dupR hd (k.2 G X)⟩
theorem e_popI {x : Int32} (hd : decode (kC K) pc = .ok (.pop, 1))  (k : E K (pc + 1) L (st) M v M') : E K pc L (aI x :: st) M v M' := ⟨k.1, fun G X => g_popI hd (k.2 G X)⟩
theorem e_popR {x : Option Nat} (hd : decode (kC K) pc = .ok (.pop, 1))  (k : E K (pc + 1) L (st) M v M') : E K pc L (aR x :: st) M v M' := ⟨k.1, fun G X => g_popR hd (k.2 G X)⟩
theorem e_pop2 {x : Int64} (hd : decode (kC K) pc = .ok (.pop2, 1))  (k : E K (pc + 1) L (st) M v M') : E K pc L (aJ x :: st) M v M' := ⟨k.1, fun G X => g_pop2 hd (k.2 G X)⟩
theorem e_dup2RI {y : Int32} {x : Option Nat} (hd : decode (kC K) pc = .ok (.dup2, 1))  (k : E K (pc + 1) L (aI y :: aR x :: aI y :: aR x :: st) M v M') : E K pc L (aI y :: aR x :: st) M v M' := ⟨k.1, fun G X => g_dup2RI hd (k.2 G X)⟩
theorem e_dup2J {x : Int64} (hd : decode (kC K) pc = .ok (.dup2, 1))  (k : E K (pc + 1) L (aJ x :: aJ x :: st) M v M') : E K pc L (aJ x :: st) M v M' := ⟨k.1, fun G X => g_dup2J hd (k.2 G X)⟩
theorem e_iload {i : Nat} {u : Int32} (hd : decode (kC K) pc = .ok (.iload i, 2)) (hl : L[i]? = some (some (aI u))) (k : E K (pc + 2) L (aI u :: st) M v M') : E K pc L (st) M v M' := ⟨k.1, fun G X => g_iload hd hl (k.2 G X)⟩
theorem e_iload_n {i : Fin 4} {u : Int32} (hd : decode (kC K) pc = .ok (.iload_n i, 1)) (hl : L[(i : Nat)]? = some (some (aI u))) (k : E K (pc + 1) L (aI u :: st) M v M') : E K pc L (st) M v M' := ⟨k.1, fun G X => g_iload_n hd hl (k.2 G X)⟩
theorem e_lload {i : Nat} {u : Int64} (hd : decode (kC K) pc = .ok (.lload i, 2)) (hl : L[i]? = some (some (aJ u))) (k : E K (pc + 2) L (aJ u :: st) M v M') : E K pc L (st) M v M' := ⟨k.1, fun G X => g_lload hd hl (k.2 G X)⟩
theorem e_lload_n {i : Fin 4} {u : Int64} (hd : decode (kC K) pc = .ok (.lload_n i, 1)) (hl : L[(i : Nat)]? = some (some (aJ u))) (k : E K (pc + 1) L (aJ u :: st) M v M') : E K pc L (st) M v M' := ⟨k.1, fun G X => g_lload_n hd hl (k.2 G X)⟩
theorem e_aload {i : Nat} {u : Option Nat} (hd : decode (kC K) pc = .ok (.aload i, 2)) (hl : L[i]? = some (some (aR u))) (k : E K (pc + 2) L (aR u :: st) M v M') : E K pc L (st) M v M' := ⟨k.1, fun G X => g_aload hd hl (k.2 G X)⟩
theorem e_aload_n {i : Fin 4} {u : Option Nat} (hd : decode (kC K) pc = .ok (.aload_n i, 1)) (hl : L[(i : Nat)]? = some (some (aR u))) (k : E K (pc + 1) L (aR u :: st) M v M') : E K pc L (st) M v M' := ⟨k.1, fun G X => g_aload_n hd hl (k.2 G X)⟩
theorem e_lcmp {x y : Int64} (hd : decode (kC K) pc = .ok (.lcmp, 1))  (k : E K (pc + 1) L (aI (lg_cmp x y) :: st) M v M') : E K pc L (aJ y :: aJ x :: st) M v M' := ⟨k.1, fun G X => g_lcmp hd (k.2 G X)⟩
theorem e_goto {off : Int} {tgt : Nat} (hd : decode (kC K) pc = .ok (.goto off, 3)) (ht : (pc : Int) + off = (tgt : Int)) (k : E K tgt L st M v M') : E K pc L st M v M' := ⟨k.1, fun G X => g_goto hd ht (k.2 G X)⟩
theorem e_iald {r : Nat} {x : Int32} (hr : Lv M r 11) (hx : vp_in x (mS M r).2) (hd : decode (kC K) pc = .ok (.iaload, 1)) (kk : E K (pc + 1) L (aI (mI M r x.toNatClampNeg) :: st) M v M') : E K pc L (aI x :: aR (some r) :: st) M v M' := ⟨kk.1, fun G X => g_iald hr hx hd (kk.2 G X)⟩
theorem e_lald {r : Nat} {x : Int32} (hr : Lv M r 12) (hx : vp_in x (mS M r).2) (hd : decode (kC K) pc = .ok (.laload, 1)) (kk : E K (pc + 1) L (aJ (mJ M r x.toNatClampNeg) :: st) M v M') : E K pc L (aI x :: aR (some r) :: st) M v M' := ⟨kk.1, fun G X => g_lald hr hx hd (kk.2 G X)⟩
theorem e_zald {r : Nat} {x : Int32} (hr : Lv M r 13) (hx : vp_in x (mS M r).2) (hd : decode (kC K) pc = .ok (.baload, 1)) (kk : E K (pc + 1) L (aI (mI M r x.toNatClampNeg) :: st) M v M') : E K pc L (aI x :: aR (some r) :: st) M v M' := ⟨kk.1, fun G X => g_zald hr hx hd (kk.2 G X)⟩
theorem e_aald {r : Nat} {x : Int32} (hr : Lv M r 14) (hx : vp_in x (mS M r).2) (hd : decode (kC K) pc = .ok (.aaload, 1)) (kk : E K (pc + 1) L (aR (mR M r x.toNatClampNeg) :: st) M v M') : E K pc L (aI x :: aR (some r) :: st) M v M' := ⟨kk.1, fun G X => g_aald hr hx hd (kk.2 G X)⟩
theorem e_lenI {r : Nat} (hr : Lv M r 11) (hd : decode (kC K) pc = .ok (.arraylength, 1)) (kk : E K (pc + 1) L (aI (Int32.ofNat (mS M r).2) :: st) M v M') : E K pc L (aR (some r) :: st) M v M' := ⟨kk.1, fun G X => g_lenI hr hd (kk.2 G X)⟩
theorem e_lenJ {r : Nat} (hr : Lv M r 12) (hd : decode (kC K) pc = .ok (.arraylength, 1)) (kk : E K (pc + 1) L (aI (Int32.ofNat (mS M r).2) :: st) M v M') : E K pc L (aR (some r) :: st) M v M' := ⟨kk.1, fun G X => g_lenJ hr hd (kk.2 G X)⟩
theorem e_lenZ {r : Nat} (hr : Lv M r 13) (hd : decode (kC K) pc = .ok (.arraylength, 1)) (kk : E K (pc + 1) L (aI (Int32.ofNat (mS M r).2) :: st) M v M') : E K pc L (aR (some r) :: st) M v M' := ⟨kk.1, fun G X => g_lenZ hr hd (kk.2 G X)⟩
theorem e_lenQ {r : Nat} (hr : Lv M r 14) (hd : decode (kC K) pc = .ok (.arraylength, 1)) (kk : E K (pc + 1) L (aI (Int32.ofNat (mS M r).2) :: st) M v M') : E K pc L (aR (some r) :: st) M v M' := ⟨kk.1, fun G X => g_lenQ hr hd (kk.2 G X)⟩
theorem e_getsTAKES {idx : Nat} (hw : Cond.fieldLink (kO K) idx RX2 "TAKES" "[I" ∈ gtbl) (hd : decode (kC K) pc = .ok (.getstatic idx, 3)) (kk : E K (pc + 3) L (aR (some 1) :: st) M v M') : E K pc L st M v M' := ⟨kk.1, fun G X => g_getsTAKES hw hd (kk.2 G X)⟩
theorem e_getsGIVES {idx : Nat} (hw : Cond.fieldLink (kO K) idx RX2 "GIVES" "[I" ∈ gtbl) (hd : decode (kC K) pc = .ok (.getstatic idx, 3)) (kk : E K (pc + 3) L (aR (some 2) :: st) M v M') : E K pc L st M v M' := ⟨kk.1, fun G X => g_getsGIVES hw hd (kk.2 G X)⟩
theorem e_tsw {dflt lo hi : Int} {offs : Array Int} {len d : Nat} {tg : List Nat} {x : Int32} (hd : decode (kC K) pc = .ok (.tableswitch dflt lo hi offs, len)) (hdf : (pc : Int) + dflt = (d : Int)) (hhi : hi = lo + tg.length - 1) (ho : offs.toList.map (fun o => (pc : Int) + o) = tg.map (fun n : Nat => (n : Int))) (kk : E K (tsw lo tg d x) L st M v M') : E K pc L (aI x :: st) M v M' := ⟨kk.1, fun G X => g_tsw hd hdf hhi ho (kk.2 G X)⟩
theorem e_lsw {dflt : Int} {ps : Array (Int × Int)} {len d : Nat} {qs : List (Int × Nat)} {x : Int32} (hd : decode (kC K) pc = .ok (.lookupswitch dflt ps, len)) (hp : (ps.toList.zip (ps.toList.drop 1)).all (fun (a, next) => a.1 < next.1) = true) (hdf : (pc : Int) + dflt = (d : Int)) (ho : ps.toList.map (fun q => (q.1, (pc : Int) + q.2)) = qs.map (fun q => (q.1, (q.2 : Int)))) (kk : E K (lsw qs d x) L st M v M') : E K pc L (aI x :: st) M v M' := ⟨kk.1, fun G X => g_lsw hd hp hdf ho (kk.2 G X)⟩
theorem e_istore {i : Nat} {u : Int32} (hd : decode (kC K) pc = .ok (.istore i, 2)) (hi : i < L.length) (k : E K (pc + 2) (st1 L i (aI u)) st M v M') : E K pc L (aI u :: st) M v M' := ⟨k.1, fun G X => g_istore hd hi (k.2 G X)⟩
theorem e_istore_n {i : Fin 4} {u : Int32} (hd : decode (kC K) pc = .ok (.istore_n i, 1)) (hi : (i : Nat) < L.length) (k : E K (pc + 1) (st1 L i (aI u)) st M v M') : E K pc L (aI u :: st) M v M' := ⟨k.1, fun G X => g_istore_n hd hi (k.2 G X)⟩
theorem e_lstore {i : Nat} {u : Int64} (hd : decode (kC K) pc = .ok (.lstore i, 2)) (hi : i + 1 < L.length) (k : E K (pc + 2) (st2 L i (aJ u)) st M v M') : E K pc L (aJ u :: st) M v M' := ⟨k.1, fun G X => g_lstore hd hi (k.2 G X)⟩
theorem e_lstore_n {i : Fin 4} {u : Int64} (hd : decode (kC K) pc = .ok (.lstore_n i, 1)) (hi : (i : Nat) + 1 < L.length) (k : E K (pc + 1) (st2 L i (aJ u)) st M v M') : E K pc L (aJ u :: st) M v M' := ⟨k.1, fun G X => g_lstore_n hd hi (k.2 G X)⟩
theorem e_astore {i : Nat} {u : Option Nat} (hd : decode (kC K) pc = .ok (.astore i, 2)) (hi : i < L.length) (k : E K (pc + 2) (st1 L i (aR u)) st M v M') : E K pc L (aR u :: st) M v M' := ⟨k.1, fun G X => g_astore hd hi (k.2 G X)⟩
theorem e_astore_n {i : Fin 4} {u : Option Nat} (hd : decode (kC K) pc = .ok (.astore_n i, 1)) (hi : (i : Nat) < L.length) (k : E K (pc + 1) (st1 L i (aR u)) st M v M') : E K pc L (aR u :: st) M v M' := ⟨k.1, fun G X => g_astore_n hd hi (k.2 G X)⟩
theorem e_iinc {i : Nat} {n : Int} {x : Int32} (hd : decode (kC K) pc = .ok (.iinc i n, 3)) (hl : L[i]? = some (some (aI x))) (k : E K (pc + 3) (st1 L i (aI (x + Int32.ofInt n))) st M v M') : E K pc L st M v M' := ⟨k.1, fun G X => g_iinc hd hl (k.2 G X)⟩
theorem e_if_eq {off : Int} {tgt : Nat} {x : Int32} (hd : decode (kC K) pc = .ok (.ifCond .eq off, 3)) (ht : (pc : Int) + off = (tgt : Int)) (k1 : x = 0 → E K tgt L st M v M') (k2 : ¬ (x = 0) → E K (pc + 3) L st M v M') : E K pc L (aI x :: st) M v M' := ⟨Classical.byCases (p := x = 0) (fun z => (k1 z).1) (fun z => (k2 z).1), fun G X => g_if_eq hd ht (fun z => (k1 z).2 G X) (fun z => (k2 z).2 G X)⟩
theorem e_if_lt {off : Int} {tgt : Nat} {x : Int32} (hd : decode (kC K) pc = .ok (.ifCond .lt off, 3)) (ht : (pc : Int) + off = (tgt : Int)) (k1 : x < 0 → E K tgt L st M v M') (k2 : ¬ (x < 0) → E K (pc + 3) L st M v M') : E K pc L (aI x :: st) M v M' := ⟨Classical.byCases (p := x < 0) (fun z => (k1 z).1) (fun z => (k2 z).1), fun G X => g_if_lt hd ht (fun z => (k1 z).2 G X) (fun z => (k2 z).2 G X)⟩
theorem e_if_ge {off : Int} {tgt : Nat} {x : Int32} (hd : decode (kC K) pc = .ok (.ifCond .ge off, 3)) (ht : (pc : Int) + off = (tgt : Int)) (k1 : 0 ≤ x → E K tgt L st M v M') (k2 : ¬ (0 ≤ x) → E K (pc + 3) L st M v M') : E K pc L (aI x :: st) M v M' := ⟨Classical.byCases (p := 0 ≤ x) (fun z => (k1 z).1) (fun z => (k2 z).1), fun G X => g_if_ge hd ht (fun z => (k1 z).2 G X) (fun z => (k2 z).2 G X)⟩
theorem e_if_gt {off : Int} {tgt : Nat} {x : Int32} (hd : decode (kC K) pc = .ok (.ifCond .gt off, 3)) (ht : (pc : Int) + off = (tgt : Int)) (k1 : 0 < x → E K tgt L st M v M') (k2 : ¬ (0 < x) → E K (pc + 3) L st M v M') : E K pc L (aI x :: st) M v M' := ⟨Classical.byCases (p := 0 < x) (fun z => (k1 z).1) (fun z => (k2 z).1), fun G X => g_if_gt hd ht (fun z => (k1 z).2 G X) (fun z => (k2 z).2 G X)⟩
theorem e_if_le {off : Int} {tgt : Nat} {x : Int32} (hd : decode (kC K) pc = .ok (.ifCond .le off, 3)) (ht : (pc : Int) + off = (tgt : Int)) (k1 : x ≤ 0 → E K tgt L st M v M') (k2 : ¬ (x ≤ 0) → E K (pc + 3) L st M v M') : E K pc L (aI x :: st) M v M' := ⟨Classical.byCases (p := x ≤ 0) (fun z => (k1 z).1) (fun z => (k2 z).1), fun G X => g_if_le hd ht (fun z => (k1 z).2 G X) (fun z => (k2 z).2 G X)⟩
theorem e_icmp_eq {off : Int} {tgt : Nat} {x y : Int32} (hd : decode (kC K) pc = .ok (.if_icmp .eq off, 3)) (ht : (pc : Int) + off = (tgt : Int)) (k1 : x = y → E K tgt L st M v M') (k2 : ¬ (x = y) → E K (pc + 3) L st M v M') : E K pc L (aI y :: aI x :: st) M v M' := ⟨Classical.byCases (p := x = y) (fun z => (k1 z).1) (fun z => (k2 z).1), fun G X => g_icmp_eq hd ht (fun z => (k1 z).2 G X) (fun z => (k2 z).2 G X)⟩
theorem e_icmp_lt {off : Int} {tgt : Nat} {x y : Int32} (hd : decode (kC K) pc = .ok (.if_icmp .lt off, 3)) (ht : (pc : Int) + off = (tgt : Int)) (k1 : x < y → E K tgt L st M v M') (k2 : ¬ (x < y) → E K (pc + 3) L st M v M') : E K pc L (aI y :: aI x :: st) M v M' := ⟨Classical.byCases (p := x < y) (fun z => (k1 z).1) (fun z => (k2 z).1), fun G X => g_icmp_lt hd ht (fun z => (k1 z).2 G X) (fun z => (k2 z).2 G X)⟩
theorem e_icmp_ge {off : Int} {tgt : Nat} {x y : Int32} (hd : decode (kC K) pc = .ok (.if_icmp .ge off, 3)) (ht : (pc : Int) + off = (tgt : Int)) (k1 : y ≤ x → E K tgt L st M v M') (k2 : ¬ (y ≤ x) → E K (pc + 3) L st M v M') : E K pc L (aI y :: aI x :: st) M v M' := ⟨Classical.byCases (p := y ≤ x) (fun z => (k1 z).1) (fun z => (k2 z).1), fun G X => g_icmp_ge hd ht (fun z => (k1 z).2 G X) (fun z => (k2 z).2 G X)⟩
theorem e_icmp_gt {off : Int} {tgt : Nat} {x y : Int32} (hd : decode (kC K) pc = .ok (.if_icmp .gt off, 3)) (ht : (pc : Int) + off = (tgt : Int)) (k1 : y < x → E K tgt L st M v M') (k2 : ¬ (y < x) → E K (pc + 3) L st M v M') : E K pc L (aI y :: aI x :: st) M v M' := ⟨Classical.byCases (p := y < x) (fun z => (k1 z).1) (fun z => (k2 z).1), fun G X => g_icmp_gt hd ht (fun z => (k1 z).2 G X) (fun z => (k2 z).2 G X)⟩
theorem e_icmp_le {off : Int} {tgt : Nat} {x y : Int32} (hd : decode (kC K) pc = .ok (.if_icmp .le off, 3)) (ht : (pc : Int) + off = (tgt : Int)) (k1 : x ≤ y → E K tgt L st M v M') (k2 : ¬ (x ≤ y) → E K (pc + 3) L st M v M') : E K pc L (aI y :: aI x :: st) M v M' := ⟨Classical.byCases (p := x ≤ y) (fun z => (k1 z).1) (fun z => (k2 z).1), fun G X => g_icmp_le hd ht (fun z => (k1 z).2 G X) (fun z => (k2 z).2 G X)⟩
theorem e_if_ne {off : Int} {tgt : Nat} {x : Int32} (hd : decode (kC K) pc = .ok (.ifCond .ne off, 3)) (ht : (pc : Int) + off = (tgt : Int)) (k1 : ¬ x = 0 → E K tgt L st M v M') (k2 : x = 0 → E K (pc + 3) L st M v M') : E K pc L (aI x :: st) M v M' := ⟨Classical.byCases (p := x = 0) (fun z => (k2 z).1) (fun z => (k1 z).1), fun G X => g_if_ne hd ht (fun z => (k1 z).2 G X) (fun z => (k2 z).2 G X)⟩
theorem e_icmp_ne {off : Int} {tgt : Nat} {x y : Int32} (hd : decode (kC K) pc = .ok (.if_icmp .ne off, 3)) (ht : (pc : Int) + off = (tgt : Int)) (k1 : ¬ x = y → E K tgt L st M v M') (k2 : x = y → E K (pc + 3) L st M v M') : E K pc L (aI y :: aI x :: st) M v M' := ⟨Classical.byCases (p := x = y) (fun z => (k2 z).1) (fun z => (k1 z).1), fun G X => g_icmp_ne hd ht (fun z => (k1 z).2 G X) (fun z => (k2 z).2 G X)⟩
theorem e_ifnull {off : Int} {tgt : Nat} {x : Option Nat} (hd : decode (kC K) pc = .ok (.ifnull off, 3)) (ht : (pc : Int) + off = (tgt : Int)) (k1 : x = none → E K tgt L st M v M') (k2 : ¬ x = none → E K (pc + 3) L st M v M') : E K pc L (aR x :: st) M v M' := ⟨Classical.byCases (p := x = none) (fun z => (k1 z).1) (fun z => (k2 z).1), fun G X => g_ifnull hd ht (fun z => (k1 z).2 G X) (fun z => (k2 z).2 G X)⟩
theorem e_ifnonnull {off : Int} {tgt : Nat} {x : Option Nat} (hd : decode (kC K) pc = .ok (.ifnonnull off, 3)) (ht : (pc : Int) + off = (tgt : Int)) (k1 : ¬ x = none → E K tgt L st M v M') (k2 : x = none → E K (pc + 3) L st M v M') : E K pc L (aR x :: st) M v M' := ⟨Classical.byCases (p := x = none) (fun z => (k2 z).1) (fun z => (k1 z).1), fun G X => g_ifnonnull hd ht (fun z => (k1 z).2 G X) (fun z => (k2 z).2 G X)⟩
theorem lgc_lt {x y : Int64} : lg_cmp x y < 0 ↔ x < y := by
  unfold lg_cmp
  by_cases h : y < x
  · have h2 : ¬ x < y := fun z => by rw [Int64.lt_iff_toInt_lt] at h z; omega
    simp [h, h2]
  · by_cases h2 : x = y
    · subst h2; simp [h]
    · have h3 : x < y := by
        rw [Int64.lt_iff_toInt_lt] at h ⊢
        have : x.toInt ≠ y.toInt := fun z => h2 (Int64.toInt_inj.mp z)
        omega
      simp [h, h2, h3]
theorem lgc_gt {x y : Int64} : 0 < lg_cmp x y ↔ y < x := by
  unfold lg_cmp
  by_cases h : y < x
  · simp [h]
  · by_cases h2 : x = y <;> simp [h, h2]
theorem lgc_eq {x y : Int64} : lg_cmp x y = 0 ↔ x = y := by
  unfold lg_cmp
  by_cases h : y < x
  · have h2 : ¬ x = y := fun z => by subst z; rw [Int64.lt_iff_toInt_lt] at h; omega
    simp [h, h2]
  · by_cases h2 : x = y <;> simp [h, h2]
theorem i32_ge {x : Int32} : 0 ≤ x ↔ ¬ x < 0 := by rw [Int32.lt_iff_toInt_lt, Int32.le_iff_toInt_le]; omega
theorem i32_le {x : Int32} : x ≤ 0 ↔ ¬ 0 < x := by rw [Int32.lt_iff_toInt_lt, Int32.le_iff_toInt_le]; omega
theorem e_lcmp_lt {off : Int} {tgt : Nat} {x y : Int64} (hd : decode (kC K) pc = .ok (.lcmp, 1)) (hd2 : decode (kC K) (pc + 1) = .ok (.ifCond .lt off, 3)) (ht : ((pc + 1 : Nat) : Int) + off = (tgt : Int)) (k1 : x < y → E K tgt L st M v M') (k2 : ¬ (x < y) → E K (pc + 1 + 3) L st M v M') : E K pc L (aJ y :: aJ x :: st) M v M' := e_lcmp hd (e_if_lt hd2 ht (fun z => k1 (lgc_lt.mp z)) (fun z => k2 (fun w => z (lgc_lt.mpr w))))
theorem e_lcmp_ge {off : Int} {tgt : Nat} {x y : Int64} (hd : decode (kC K) pc = .ok (.lcmp, 1)) (hd2 : decode (kC K) (pc + 1) = .ok (.ifCond .ge off, 3)) (ht : ((pc + 1 : Nat) : Int) + off = (tgt : Int)) (k1 : ¬ (x < y) → E K tgt L st M v M') (k2 : x < y → E K (pc + 1 + 3) L st M v M') : E K pc L (aJ y :: aJ x :: st) M v M' := e_lcmp hd (e_if_ge hd2 ht (fun z => k1 (fun w => i32_ge.mp z (lgc_lt.mpr w))) (fun z => k2 (lgc_lt.mp (Classical.byContradiction (fun w => z (i32_ge.mpr w))))))
theorem e_lcmp_gt {off : Int} {tgt : Nat} {x y : Int64} (hd : decode (kC K) pc = .ok (.lcmp, 1)) (hd2 : decode (kC K) (pc + 1) = .ok (.ifCond .gt off, 3)) (ht : ((pc + 1 : Nat) : Int) + off = (tgt : Int)) (k1 : y < x → E K tgt L st M v M') (k2 : ¬ (y < x) → E K (pc + 1 + 3) L st M v M') : E K pc L (aJ y :: aJ x :: st) M v M' := e_lcmp hd (e_if_gt hd2 ht (fun z => k1 (lgc_gt.mp z)) (fun z => k2 (fun w => z (lgc_gt.mpr w))))
theorem e_lcmp_le {off : Int} {tgt : Nat} {x y : Int64} (hd : decode (kC K) pc = .ok (.lcmp, 1)) (hd2 : decode (kC K) (pc + 1) = .ok (.ifCond .le off, 3)) (ht : ((pc + 1 : Nat) : Int) + off = (tgt : Int)) (k1 : ¬ (y < x) → E K tgt L st M v M') (k2 : y < x → E K (pc + 1 + 3) L st M v M') : E K pc L (aJ y :: aJ x :: st) M v M' := e_lcmp hd (e_if_le hd2 ht (fun z => k1 (fun w => i32_le.mp z (lgc_gt.mpr w))) (fun z => k2 (lgc_gt.mp (Classical.byContradiction (fun w => z (i32_le.mpr w))))))
theorem e_lcmp_eq {off : Int} {tgt : Nat} {x y : Int64} (hd : decode (kC K) pc = .ok (.lcmp, 1)) (hd2 : decode (kC K) (pc + 1) = .ok (.ifCond .eq off, 3)) (ht : ((pc + 1 : Nat) : Int) + off = (tgt : Int)) (k1 : x = y → E K tgt L st M v M') (k2 : ¬ (x = y) → E K (pc + 1 + 3) L st M v M') : E K pc L (aJ y :: aJ x :: st) M v M' := e_lcmp hd (e_if_eq hd2 ht (fun z => k1 (lgc_eq.mp z)) (fun z => k2 (fun w => z (lgc_eq.mpr w))))
theorem e_lcmp_ne {off : Int} {tgt : Nat} {x y : Int64} (hd : decode (kC K) pc = .ok (.lcmp, 1)) (hd2 : decode (kC K) (pc + 1) = .ok (.ifCond .ne off, 3)) (ht : ((pc + 1 : Nat) : Int) + off = (tgt : Int)) (k1 : ¬ (x = y) → E K tgt L st M v M') (k2 : x = y → E K (pc + 1 + 3) L st M v M') : E K pc L (aJ y :: aJ x :: st) M v M' := e_lcmp hd (e_if_ne hd2 ht (fun z => k1 (fun w => z (lgc_eq.mpr w))) (fun z => k2 (lgc_eq.mp z)))
def FF (k j : Nat) (C nm ds : String) (fi : Bool) : Prop := ∃ (T : u_T) (N : Nat), KF k C T N ∧ j < N ∧ T j = (C, nm, ds, fi)
theorem e_get {k j r : Nat} {C nm ds : String} {fi : Bool} {w : AV} (hf : FF k j C nm ds fi) (hr : Lv M r k) (hw : Cond.fieldLink (kO K) idx C nm ds ∈ gtbl) (hd : decode (kC K) pc = .ok (.getfield idx, 3)) (hv : fvA k M r j = w) (kk : E K (pc + 3) L (w :: st) M v M') : E K pc L (aR (some r) :: st) M v M' := by
  obtain ⟨T, N, h1, h2, h3⟩ := hf
  subst hv
  exact ⟨kk.1, fun G X => g_getf h1 h2 hr (by rw [h3]) (by rw [h3]; exact hw) hd (kk.2 G X)⟩
theorem e_getN {k j r : Nat} {C nm ds host : String} {fi : Bool} {w : AV} (hf : FF k j C nm ds fi) (hr : Lv M r k) (hw : Cond.fieldLinkNest (kO K) idx C nm ds host ∈ ntbl) (hd : decode (kC K) pc = .ok (.getfield idx, 3)) (hv : fvA k M r j = w) (kk : E K (pc + 3) L (w :: st) M v M') : E K pc L (aR (some r) :: st) M v M' := by
  obtain ⟨T, N, h1, h2, h3⟩ := hf
  subst hv
  exact ⟨kk.1, fun G X => g_getN h1 h2 hr (by rw [h3]) ⟨host, by rw [h3]; exact hw⟩ hd (kk.2 G X)⟩
theorem wrA_Sh {r j : Nat} : ∀ w : AV, tagV w ≠ 2 → Sh M (wrA M r j w)
  | .inl _, _ => Sh.wI
  | .inr (.inl _), _ => Sh.wJ
  | .inr (.inr _), h => absurd rfl h
theorem e_putI {k j r : Nat} {C nm ds : String} {x : Int32} (hf : FF k j C nm ds false) (ht : tyK k j = .int) (hr : Lv M r k) (hw : Cond.fieldLink (kO K) idx C nm ds ∈ gtbl) (hd : decode (kC K) pc = .ok (.putfield idx, 3)) (kk : E K (pc + 3) L st (wrI M r j x) v M') : E K pc L (aI x :: aR (some r) :: st) M v M' := by
  obtain ⟨T, N, h1, h2, h3⟩ := hf
  exact ⟨Sh.wI.tr kk.1, fun G X => g_putf h1 h2 hr (by rw [h3]) (by rw [ht]; rfl) (by rw [ht]; rfl) (by rw [ht]; rfl) (by rw [h3]) (by rw [h3]; exact hw) hd (kk.2 G X)⟩
theorem e_putZ {k j r : Nat} {C nm ds : String} {x : Int32} (hf : FF k j C nm ds false) (ht : tyK k j = .boolean) (hx : x = 0 ∨ x = 1) (hr : Lv M r k) (hw : Cond.fieldLink (kO K) idx C nm ds ∈ gtbl) (hd : decode (kC K) pc = .ok (.putfield idx, 3)) (kk : E K (pc + 3) L st (wrI M r j x) v M') : E K pc L (aI x :: aR (some r) :: st) M v M' := by
  obtain ⟨T, N, h1, h2, h3⟩ := hf
  exact ⟨Sh.wI.tr kk.1, fun G X => g_putf h1 h2 hr (by rw [h3]) (by rw [ht]; rfl) (by rw [ht]; rcases hx with rfl | rfl <;> rfl) (by rw [ht]; rcases hx with rfl | rfl <;> rfl) (by rw [h3]) (by rw [h3]; exact hw) hd (kk.2 G X)⟩
theorem e_putJ {k j r : Nat} {C nm ds : String} {x : Int64} (hf : FF k j C nm ds false) (ht : tyK k j = .long) (hr : Lv M r k) (hw : Cond.fieldLink (kO K) idx C nm ds ∈ gtbl) (hd : decode (kC K) pc = .ok (.putfield idx, 3)) (kk : E K (pc + 3) L st (wrJ M r j x) v M') : E K pc L (aJ x :: aR (some r) :: st) M v M' := by
  obtain ⟨T, N, h1, h2, h3⟩ := hf
  exact ⟨Sh.wJ.tr kk.1, fun G X => g_putf (v := aJ x) h1 h2 hr (by rw [h3]) (by rw [ht]; rfl) (by rw [ht]; rfl) (by rw [ht]; rfl) (by rw [h3]) (by rw [h3]; exact hw) hd (kk.2 G X)⟩
theorem e_putNI {k j r : Nat} {C nm ds host : String} {x : Int32} (hf : FF k j C nm ds false) (ht : tyK k j = .int) (hr : Lv M r k) (hw : Cond.fieldLinkNest (kO K) idx C nm ds host ∈ ntbl) (hd : decode (kC K) pc = .ok (.putfield idx, 3)) (kk : E K (pc + 3) L st (wrI M r j x) v M') : E K pc L (aI x :: aR (some r) :: st) M v M' := by
  obtain ⟨T, N, h1, h2, h3⟩ := hf
  exact ⟨Sh.wI.tr kk.1, fun G X => g_putN h1 h2 hr (by rw [h3]) (by rw [ht]; rfl) (by rw [ht]; rfl) (by rw [ht]; rfl) (by rw [h3]) ⟨host, by rw [h3]; exact hw⟩ hd (kk.2 G X)⟩
theorem e_iast {r : Nat} {x u : Int32} (hr : Lv M r 11) (hx : vp_in x (mS M r).2) (hd : decode (kC K) pc = .ok (.iastore, 1)) (kk : E K (pc + 1) L st (wrI M r x.toNatClampNeg u) v M') : E K pc L (aI u :: aI x :: aR (some r) :: st) M v M' := ⟨Sh.wI.tr kk.1, fun G X => g_iast hr hx hd (kk.2 G X)⟩
theorem e_zast {r : Nat} {x u : Int32} (hr : Lv M r 13) (hx : vp_in x (mS M r).2) (hu : u = 0 ∨ u = 1) (hd : decode (kC K) pc = .ok (.bastore, 1)) (kk : E K (pc + 1) L st (wrI M r x.toNatClampNeg u) v M') : E K pc L (aI u :: aI x :: aR (some r) :: st) M v M' := ⟨Sh.wI.tr kk.1, fun G X => g_zast hr hx hu hd (kk.2 G X)⟩
theorem e_last {r : Nat} {x : Int32} {u : Int64} (hr : Lv M r 12) (hx : vp_in x (mS M r).2) (hd : decode (kC K) pc = .ok (.lastore, 1)) (kk : E K (pc + 1) L st (wrJ M r x.toNatClampNeg u) v M') : E K pc L (aJ u :: aI x :: aR (some r) :: st) M v M' := ⟨Sh.wJ.tr kk.1, fun G X => g_last hr hx hd (kk.2 G X)⟩
theorem e_aast {r q : Nat} {x : Int32} (hr : Lv M r 14) (hq : Lv M q 4) (hx : vp_in x (mS M r).2) (hd : decode (kC K) pc = .ok (.aastore, 1)) (kk : E K (pc + 1) L st (wrR M r x.toNatClampNeg (some q)) v M') : E K pc L (aR (some q) :: aI x :: aR (some r) :: st) M v M' := ⟨(Sh.wR hr.2.2).tr kk.1, fun G X => g_aast hr hq hx hd (kk.2 G X)⟩
theorem e_tk {x : Int32} (hx : vp_in x 18) (hd : decode (kC K) pc = .ok (.iaload, 1)) (kk : E K (pc + 1) L (aI (tkI x.toNatClampNeg) :: st) M v M') : E K pc L (aI x :: aR (some 1) :: st) M v M' := ⟨kk.1, fun G X => g_roald (t := 1) (by omega) hx hd (kk.2 G X)⟩
theorem e_gv {x : Int32} (hx : vp_in x 18) (hd : decode (kC K) pc = .ok (.iaload, 1)) (kk : E K (pc + 1) L (aI (gvI x.toNatClampNeg) :: st) M v M') : E K pc L (aI x :: aR (some 2) :: st) M v M' := ⟨kk.1, fun G X => g_roald (t := 2) (by omega) hx hd (kk.2 G X)⟩
theorem e_iret {x : Int32} (hr : kR K = some .int) (hd : decode (kC K) pc = .ok (.ireturn, 1)) (k : some (aI x) = v ∧ M = M') : E K pc L [aI x] M v M' := by obtain ⟨rfl, rfl⟩ := k; exact ⟨Sh.rf, fun G X => g_iret hr hd⟩
theorem e_zret {x : Int32} (hr : kR K = some .boolean) (hx : x = 0 ∨ x = 1) (hd : decode (kC K) pc = .ok (.ireturn, 1)) (k : some (aI x) = v ∧ M = M') : E K pc L [aI x] M v M' := by obtain ⟨rfl, rfl⟩ := k; exact ⟨Sh.rf, fun G X => g_zret hr hx hd⟩
theorem e_lret {x : Int64} (hr : kR K = some .long) (hd : decode (kC K) pc = .ok (.lreturn, 1)) (k : some (aJ x) = v ∧ M = M') : E K pc L [aJ x] M v M' := by obtain ⟨rfl, rfl⟩ := k; exact ⟨Sh.rf, fun G X => g_lret hr hd⟩
theorem e_aret {x : Option Nat} {n : String} (hr : kR K = some (.object n)) (hd : decode (kC K) pc = .ok (.areturn, 1)) (k : some (aR x) = v ∧ M = M') : E K pc L [aR x] M v M' := by obtain ⟨rfl, rfl⟩ := k; exact ⟨Sh.rf, fun G X => g_aret hr hd⟩
theorem e_vret (hr : kR K = none) (hd : decode (kC K) pc = .ok (.return_, 1)) (k : none = v ∧ M = M') : E K pc L [] M v M' := by obtain ⟨rfl, rfl⟩ := k; exact ⟨Sh.rf, fun G X => g_vret hr hd⟩
/-! calls -/
def YK (y : MethodName) (Kc : MK) : Prop := plainName y.cls = true ∧ y.cls = kO Kc ∧ y.name = kM Kc ∧ kH Kc = [] ∧ Cond.initialized y.cls ∈ gtbl ∧ Cond.code y (kC Kc) (kL Kc) (kR Kc) ∈ gtbl
theorem Ev.cm {G : Gm} {X : Sc} {as : List AV} (hy : YK y Kc) (h : Ev Kc as M v M') : CM G X y (ws9 y Kc) Kc as M (.inl (v, M')) := CM.of hy.1 hy.2.1 hy.2.2.1 hy.2.2.2.1 h.1 (h.2.2 G X) (by show M.1.1 ≤ M'.1.1; rw [h.2.1.1]; exact Nat.le_refl _) (by show M.1.2 ≤ M'.1.2; rw [h.2.1.1]; exact Nat.le_refl _)
theorem Sh.nOK (h : Sh M M1) (k : Sh M1 M') : nOK M (.inl (v1, M1)) (.inl (v, M')) := by
  have e1 := h.1
  have e2 := k.1
  refine ⟨?_, ?_, ?_, ?_⟩
  · show M.1.1 ≤ M1.1.1; rw [e1]; exact Nat.le_refl _
  · show M.1.2 ≤ M1.1.2; rw [e1]; exact Nat.le_refl _
  · show M1.1.1 ≤ M'.1.1; rw [e2]; exact Nat.le_refl _
  · show M1.1.2 ≤ M'.1.2; rw [e2]; exact Nat.le_refl _
def VK (y : MethodName) (Kc : MK) (k n : Nat) : Prop := YK y Kc ∧ (∃ (T : u_T) (N : Nat), KF k y.cls T N) ∧ Cond.instanceMethod y ∈ gtbl ∧ Cond.selects y.cls y y ∈ gtbl ∧ mhOK y n
def SK (y : MethodName) (Kc : MK) (n : Nat) : Prop := YK y Kc ∧ Cond.static y ∈ gtbl ∧ mhOK y n
theorem e_callV {k r : Nat} (hc : VK y Kc k As.length) (hr : Lv M r k) (hw : Cond.methodLink (kO K) idx y ∈ gtbl) (hR : rOK K Kc) (hst : (rest.map catA).sum ≤ 8) (hd : decode (kC K) pc = .ok (.invokevirtual idx, 3)) (ev : Ev Kc (aR (some r) :: As) M v1 M1) (kk : E K (pc + 3) L (v1.toList ++ rest) M1 v M') : E K pc L (As.reverse ++ aR (some r) :: rest) M v M' := by
  obtain ⟨hy, ⟨T, N, hk⟩, h1, h2, h3⟩ := hc
  refine ⟨ev.2.1.tr kk.1, fun G X => g_callV (ev.cm hy) (ev.2.1.nOK kk.1) hk hr rfl hw h1 h2 hy.2.2.2.2.1 hy.2.2.2.2.2 h3 hR hst hd (fun v9 M9 e9 => ?_) (fun q M9 e9 => by cases e9)⟩
  cases e9
  exact kk.2 G X
theorem e_callS (hc : SK y Kc As.length) (hw : Cond.methodLink (kO K) idx y ∈ gtbl) (hR : rOK K Kc) (hst : (rest.map catA).sum ≤ 8) (hd : decode (kC K) pc = .ok (.invokestatic idx, 3)) (ev : Ev Kc As M v1 M1) (kk : E K (pc + 3) L (v1.toList ++ rest) M1 v M') : E K pc L (As.reverse ++ rest) M v M' :=
  ⟨ev.2.1.tr kk.1, fun G X => g_callS (x := (v1, M1)) (ev.cm hc.1) (ev.2.1.nOK kk.1) hw hc.2.1 hc.1.2.2.2.2.1 hc.1.2.2.2.2.2 hc.2.2 hR hst hd (kk.2 G X)⟩
theorem e_callSN {host : String} (hc : SK y Kc As.length) (hw : Cond.methodLinkNest (kO K) idx y host ∈ ntbl) (hR : rOK K Kc) (hst : (rest.map catA).sum ≤ 8) (hd : decode (kC K) pc = .ok (.invokestatic idx, 3)) (ev : Ev Kc As M v1 M1) (kk : E K (pc + 3) L (v1.toList ++ rest) M1 v M') : E K pc L (As.reverse ++ rest) M v M' :=
  ⟨ev.2.1.tr kk.1, fun G X => g_callSN (x := (v1, M1)) (ev.cm hc.1) (ev.2.1.nOK kk.1) hw hc.2.1 hc.1.2.2.2.2.1 hc.1.2.2.2.2.2 hc.2.2 hR hst hd (kk.2 G X)⟩
end EROWS
