/-! ===== MY MACHINE: values, a typed memory of cells numbered from 0 on (0 the script, 1 TAKES, 2 GIVES: never written; from 3 on what the law makes, in its order) ===== -/
abbrev AV : Type := Int32 ⊕ (Int64 ⊕ Option Nat)
abbrev aI (x : Int32) : AV := .inl x
abbrev aJ (x : Int64) : AV := .inr (.inl x)
abbrev aR (r : Option Nat) : AV := .inr (.inr r)
/-- how many cells there are and how many slots they have; of each cell its kind and length; ints; longs; references -/
abbrev AM : Type := (Nat × Nat) × (Nat → Nat × Nat) × (Nat → Nat → Int32) × (Nat → Nat → Int64) × (Nat → Nat → Option Nat)
abbrev mN (M : AM) : Nat := M.1.1
abbrev mU (M : AM) : Nat := M.1.2
abbrev mS (M : AM) : Nat → Nat × Nat := M.2.1
abbrev mI (M : AM) : Nat → Nat → Int32 := M.2.2.1
abbrev mJ (M : AM) : Nat → Nat → Int64 := M.2.2.2.1
abbrev mR (M : AM) : Nat → Nat → Option Nat := M.2.2.2.2
def up2 {α : Type} (f : Nat → Nat → α) (r j : Nat) (x : α) : Nat → Nat → α := fun r' j' => if r' = r ∧ j' = j then x else f r' j'
def row0 {α : Type} (f : Nat → Nat → α) (r : Nat) (x : α) : Nat → Nat → α := fun r' j' => if r' = r then x else f r' j'
def wrI (M : AM) (r j : Nat) (x : Int32) : AM := (M.1, M.2.1, up2 (mI M) r j x, mJ M, mR M)
def wrJ (M : AM) (r j : Nat) (x : Int64) : AM := (M.1, M.2.1, mI M, up2 (mJ M) r j x, mR M)
def wrR (M : AM) (r j : Nat) (x : Option Nat) : AM := (M.1, M.2.1, mI M, mJ M, up2 (mR M) r j x)
/-- a new cell of kind k with n slots -/
def mk (M : AM) (k n : Nat) : AM := ((mN M + 1, mU M + n), va_up (mS M) (mN M) (k, n), row0 (mI M) (mN M) 0, row0 (mJ M) (mN M) 0, row0 (mR M) (mN M) none)
/-- the world: where the cells from 3 on begin (less 3), where the three lie, the classes -/
abbrev Gm : Type := Nat × (Nat → Nat) × va_G × (ClassId × ClassId × ClassId × ClassId)
def ad (G : Gm) (r : Nat) : Nat := if r < 3 then G.2.1 r else G.1 + r
theorem ad_ge {G : Gm} {r : Nat} (h : 3 ≤ r) : ad G r = G.1 + r := if_neg (by omega)
theorem ad_inj {G : Gm} {r q : Nat} (h : 3 ≤ r) (h2 : 3 ≤ q) (e : ad G r = ad G q) : r = q := by rw [ad_ge h, ad_ge h2] at e; omega
def cv (G : Gm) : AV → Value
  | .inl x => .int x
  | .inr (.inl x) => .long x
  | .inr (.inr r) => va_rf (r.map (ad G))
def gA (G : Gm) : Nat → Prop := fun q => G.1 + 3 ≤ q
def tag : FieldType → Nat
  | .long => 1
  | .object _ => 2
  | .array _ => 2
  | _ => 0
def tyK (k : Nat) : Nat → FieldType := match k with
  | 0 => tyX0
  | 1 => tyX1
  | 2 => tyX2
  | 3 => tyX3
  | 4 => tyX4
  | 5 => tyX5
  | 6 => tyX6
  | 7 => tyX7
  | _ => fun _ => .int
def exN (k : Nat) : String := match k with
  | 8 => "java/lang/IllegalArgumentException"
  | 9 => "java/lang/IllegalStateException"
  | _ => "java/lang/IndexOutOfBoundsException"
def tE : u_T := fun _ => ("", "", "", false)
def cls9 : List vw_C := [(RX0, TX0, 7), (RX1, TX1, 5), (RX2, TX2, 4), (RX3, TX3, 15), (RX4, TX4, 11), (RX5, TX5, 3), (RX6, TX6, 7), (RX7, TX7, 41), (exN 8, tE, 0), (exN 9, tE, 0), (exN 10, tE, 0)]
def tys9 (G : Gm) : List (ClassId × FieldType) := [(G.2.2.2.1, .int), (G.2.2.2.2.1, .long), (G.2.2.2.2.2.1, .boolean), (G.2.2.2.2.2.2, .object RX4)]
def fvOf (G : Gm) (t : Nat) (x : Int32) (y : Int64) (z : Option Nat) : Value := match t with
  | 0 => .int x
  | 1 => .long y
  | _ => va_rf (z.map (ad G))
def fv (G : Gm) (k : Nat) (M : AM) (r j : Nat) : Value := fvOf G (tag (tyK k j)) (mI M r j) (mJ M r j) (mR M r j)
def cellOK (G : Gm) (M : AM) (r : Nat) (H : Heap) : Prop := match (mS M r).1 with
  | 11 => H[ad G r]? = some (arrV G.2.2.2.1 (mS M r).2 (fun j => .int (mI M r j)))
  | 12 => H[ad G r]? = some (arrV G.2.2.2.2.1 (mS M r).2 (fun j => .long (mJ M r j)))
  | 13 => H[ad G r]? = some (arrV G.2.2.2.2.2.1 (mS M r).2 (fun j => .int (mI M r j)))
  | 14 => H[ad G r]? = some (arrV G.2.2.2.2.2.2 (mS M r).2 (fun j => va_rf ((mR M r j).map (ad G))))
  | k => ∃ q : vw_C, cls9[k]? = some q ∧ t_OB (ad G r) (G.2.2.1.1 k) q.2.2 (G.2.2.1.2 k) H (fv G k M r)
def WD (G : Gm) (M : AM) (H : Heap) : Prop := (∀ r, 3 ≤ r → r < mN M → cellOK G M r H) ∧ H.size = G.1 + mN M ∧ 3 ≤ mN M
theorem cellOK_kept {G : Gm} {M : AM} {r : Nat} {H H1 : Heap} (h : cellOK G M r H) (e : H1[ad G r]? = H[ad G r]?) : cellOK G M r H1 := by
  unfold cellOK at h ⊢
  split at h <;> first | (rw [e]; exact h) | (obtain ⟨q, h1, h2⟩ := h; exact ⟨q, h1, h2.kept e⟩)
theorem cellOK_of {G : Gm} {M M' : AM} {r : Nat} {H : Heap} (h : cellOK G M r H) (hs : mS M' r = mS M r) (h1 : mI M' r = mI M r) (h2 : mJ M' r = mJ M r) (h3 : mR M' r = mR M r) : cellOK G M' r H := by
  unfold cellOK at h ⊢
  rw [hs]
  have hf : ∀ k, fv G k M' r = fv G k M r := fun k => by funext j; simp only [fv]; rw [h1, h2, h3]
  simp only [h1, h2, h3, hf]
  exact h
/-- one cell is written -/
theorem WD.upd {G : Gm} {M M' : AM} {H H1 : Heap} {r : Nat} (h : WD G M H) (h3 : 3 ≤ r) (hc : cellOK G M' r H1) (hz : H1.size = H.size) (ho : ∀ q, q ≠ ad G r → H1[q]? = H[q]?) (hN : mN M' = mN M)
    (hs : ∀ q, q ≠ r → mS M' q = mS M q) (h1 : ∀ q, q ≠ r → mI M' q = mI M q) (h2 : ∀ q, q ≠ r → mJ M' q = mJ M q) (h4 : ∀ q, q ≠ r → mR M' q = mR M q) : WD G M' H1 := by
  refine ⟨fun q hq hl => ?_, by rw [hz, hN]; exact h.2.1, by rw [hN]; exact h.2.2⟩
  by_cases e : q = r
  · subst e; exact hc
  · exact cellOK_kept (cellOK_of (h.1 q hq (by rw [← hN]; exact hl)) (hs q e) (h1 q e) (h2 q e) (h4 q e)) (ho _ (fun z => e (ad_inj hq h3 z)))
theorem WD.size {G : Gm} {M : AM} {H : Heap} (h : WD G M H) : H.size = ad G (mN M) := by rw [ad_ge h.2.2]; exact h.2.1
/-- a cell is made -/
theorem WD.new {G : Gm} {M : AM} {H H1 : Heap} {k n : Nat} (h : WD G M H) (hc : cellOK G (mk M k n) (mN M) H1) (hz : H1.size = H.size + 1) (ho : ∀ q, q < H.size → H1[q]? = H[q]?) : WD G (mk M k n) H1 := by
  refine ⟨fun q hq hl => ?_, by rw [hz, h.2.1]; rfl, Nat.le_succ_of_le h.2.2⟩
  by_cases e : q = mN M
  · subst e; exact hc
  · have hl : q < mN M + 1 := hl
    have hl' : q < mN M := by omega
    refine cellOK_kept (cellOK_of (h.1 q hq hl') ?_ ?_ ?_ ?_) (ho _ (by rw [ad_ge hq, h.2.1]; omega))
    · exact va_up_ne _ _ e
    · funext j; exact if_neg e
    · funext j; exact if_neg e
    · funext j; exact if_neg e
theorem up2_row {α : Type} {f : Nat → Nat → α} {r j q : Nat} {x : α} (h : q ≠ r) : up2 f r j x q = f q := by funext k; simp [up2, h]
theorem gA_ad {G : Gm} {r : Nat} (h : 3 ≤ r) : gA G (ad G r) := by show _ ≤ _; rw [ad_ge h]; omega
/-! what does not change: the tables, the strings, the three cells, the statics -/
def tkI (j : Nat) : Int32 := ([0, 1, 1, 2, 2, 2, 2, 2, 2, 0, 1, 0, 0, 1, 0, 0, 0, 0] : List Int32).getD j 0
def gvI (j : Nat) : Int32 := ([1, 0, 2, 2, 1, 1, 1, 1, 1, 1, 0, 0, 0, 0, 0, 0, 0, 0] : List Int32).getD j 0
abbrev Sc : Type := Nat × (Nat → Int32)
def roL (X : Sc) (t : Nat) : Nat := match t with
  | 0 => X.1
  | _ => 18
def roI (X : Sc) (t : Nat) : Nat → Int32 := match t with
  | 0 => X.2
  | 1 => tkI
  | _ => gvI
def EN (G : Gm) (U : State) : Prop := va_K G.2.2.1 cls9 (tys9 G) U ∧ (∀ w ∈ ntbl, va_Nw w U) ∧ va_AO RX4 U ∧ (∀ (o t : String) (k : Nat), Cond.stringRef o k t ∈ lw_tbl → ∃ sa, vk_R o k t sa U) ∧ va_Nc (exN 8) (exN 10) U
def EH (G : Gm) (X : Sc) (U : State) (H : Heap) : Prop := (∀ t, t < 3 → va_T .int (G.2.1 t) (roL X t) (fun j => .int (roI X t j)) (gA G) U H) ∧ va_Z RX2 "TAKES" "[I" (.ref (G.2.1 1)) (gA G) U H ∧ va_Z RX2 "GIVES" "[I" (.ref (G.2.1 2)) (gA G) U H ∧ vx_Zq Bundle.tN "UNASSIGNED_STACK" Bundle.steD (gA G) U H ∧ vx_Zq Bundle.tN "SUPPRESSED_SENTINEL" Bundle.listD (gA G) U H
theorem EN.warm {G : Gm} {s U : State} (hW : s.WarmedH U.vm) (h : EN G s) : EN G U :=
  ⟨va_K.moved hW.alike h.1, fun w hw => isN_warm (List.mem_filter.mp hw).2 hW (h.2.1 w hw), va_AO.moved hW.alike h.2.2.1, fun o t k hk => by obtain ⟨sa, hs⟩ := h.2.2.2.1 o t k hk; exact ⟨sa, vk_R.warm hW hs⟩, va_Nc.moved hW.alike h.2.2.2.2⟩
theorem EH.moved {G : Gm} {X : Sc} {s U : State} {H : Heap} (hvm : s.vm.Alike U.vm) (h : EH G X s H) : EH G X U H :=
  ⟨fun t ht => va_T.moved hvm (h.1 t ht), va_Z.moved hvm h.2.1, va_Z.moved hvm h.2.2.1, vx_Zq.moved hvm h.2.2.2.1, vx_Zq.moved hvm h.2.2.2.2⟩
theorem EH.kept {G : Gm} {X : Sc} {s : State} {H H1 : Heap} (h : EH G X s H) (hq : ∀ a : Nat, a < H.size → ¬ gA G a → H1[a]? = H[a]?) : EH G X s H1 :=
  ⟨fun t ht => va_T.kept (h.1 t ht) hq, va_Z.kept h.2.1 hq, va_Z.kept h.2.2.1 hq, vx_Zq.kept h.2.2.2.1 hq, vx_Zq.kept h.2.2.2.2 hq⟩
