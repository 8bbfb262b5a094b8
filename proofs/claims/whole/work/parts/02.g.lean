abbrev gT : Type := (Nat → Nat) × (Nat → Nat) × Nat
abbrev gI : Type := Nat → Nat → Int32
abbrev gR : Type := Nat → Nat → Option Nat
abbrev gE : Type := Launch × va_G × (Nat → ClassId) × Nat × Nat × (Nat → Int32) × Nat
abbrev gX : Type := MethodName × ByteArray × Nat × Option FieldType × Room
abbrev gQ : Type := gT → gI → gR → Option Value → Prop
def gbase (E : gE) : Nat := E.2.2.2.2.2.2
def gFR (d : String) : Bool := match parseFieldDescriptor d with
  | some ty => ty.isReference
  | none => false
def gfv (Tb : u_T) (k : Nat) (fi : Nat → Int32) (fr : Nat → Option Nat) : Value := if gFR (Tb k).2.2.1 = true then va_rf (fr k) else .int (fi k)
def gAT (q : Nat) : FieldType := match q with
  | 0 => .int
  | 1 => .boolean
  | 2 => .object "DamageView$Box"
  | 3 => .object "DamageView$Constraint"
  | _ => .array .int
def gav (q : Nat) (fi : Nat → Int32) (fr : Nat → Option Nat) (j : Nat) : Value := if q < 2 then .int (fi j) else va_rf (fr j)
def gAt (E : gE) (t n : Nat) (fi : Nat → Int32) (fr : Nat → Option Nat) (cell : Cell) : Prop :=
  (∀ (ci : Nat) (r : vw_C), t = ci + 1 → vwCl[ci]? = some r → cell.cls = E.2.1.1 ci ∧ cell.vm = .none ∧ ∀ k, k < r.2.2 → cell.slots[E.2.1.2 ci k]? = some (gfv r.2.1 k fi fr)) ∧
  ∀ q : Nat, t = 100 + q → cell = arrV (E.2.2.1 q) n (gav q fi fr)
def gMem (E : gE) (T : gT) (gi : gI) (gr : gR) (H : Heap) : Prop :=
  H.size = T.2.2 ∧ gbase E ≤ T.2.2 ∧ ∀ a, T.1 a ≠ 0 → gbase E ≤ a ∧ ∃ cell, H[a]? = some cell ∧ gAt E (T.1 a) (T.2.1 a) (gi a) (gr a) cell
def gW (E : gE) (T : gT) (gi : gI) (gr : gR) (U : State) (H : Heap) : Prop := gMem E T gi gr H ∧ va_X E.2.2.2.1 E.2.2.2.2.1 E.2.2.2.2.2.1 U H ∧ E.2.2.2.1 < gbase E
def gTys (E : gE) : List (ClassId × FieldType) := [(E.2.2.1 0, gAT 0), (E.2.2.1 1, gAT 1), (E.2.2.1 2, gAT 2), (E.2.2.1 3, gAT 3), (E.2.2.1 4, gAT 4)]
def gK (E : gE) (U : State) : Prop := va_K E.2.1 vwCl (gTys E) U ∧ (∀ w ∈ gNest, va_Nw w U) ∧ va_AO "DamageView$Box" U ∧ va_AO "DamageView$Constraint" U ∧ (Cond.arrayOver (.array .int)).before #[] U = true
def gGood (w : Cond) : Bool := (w.onTables && w.keeps) || (match w with
  | .arrayClass _ => true
  | _ => false)
def gTbl : List Cond := lw_tbl.filter gGood
theorem gGood_or {w : Cond} (h : gGood w = true) : (w.onTables && w.keeps) = true ∨ ∃ ty, w = .arrayClass ty := by
  unfold gGood at h
  rcases Bool.or_eq_true _ _ ▸ h with h | h
  · exact Or.inl h
  · cases w <;> first | exact Or.inr ⟨_, rfl⟩ | cases h
theorem gTbl_in {i : Nat} {w : Cond} (h : lw_tbl[i]? = some w) (hg : gGood w = true) : w ∈ gTbl := List.mem_filter.mpr ⟨List.mem_of_getElem? h, hg⟩
def gws (X : gX) : List Cond := .code X.1 X.2.1 X.2.2.1 X.2.2.2.1 :: gTbl
def gCx (E : gE) (X : gX) (p : Program) (s : State) (m : MethodId) (args : Array Value) (meth : Method) (c : Code) : Prop :=
  p.tables.exec = Jvm.exec ∧ c.code = X.2.1 ∧ c.maxLocals = X.2.2.1 ∧ meth.sig.returnType = X.2.2.2.1 ∧ meth.locks = false ∧ s.vm.findClass X.1.cls = some m.cls ∧ (∀ w ∈ gTbl, w.before args s = true) ∧ meth.name = X.1.name ∧ gK E s
def gRt (X : gX) (pc : Nat) (v : Option Value) : Prop := match v with
  | none => decode X.2.1 pc = .ok (.return_, 1) ∧ X.2.2.2.1 = none
  | some (.int x) => decode X.2.1 pc = .ok (.ireturn, 1) ∧ ∃ ty, X.2.2.2.1 = some ty ∧ narrow ty (.int x) = .int x
  | some v => decode X.2.1 pc = .ok (.areturn, 1) ∧ (v = .null ∨ ∃ a, v = .ref a) ∧ ∃ n, X.2.2.2.1 = some (.object n)
def gl (ls : List Value) : List (Nat × Value) := (List.range ls.length).filterMap fun j => (ls[j]?).bind fun v => if v.category = 1 then some (j, v) else none
theorem gl_mem {ls : List Value} {j : Nat} {v : Value} : (j, v) ∈ gl ls ↔ ls[j]? = some v ∧ v.category = 1 := by
  unfold gl
  rw [List.mem_filterMap]
  constructor
  · rintro ⟨i, -, h⟩
    cases hv : ls[i]? with
    | none => rw [hv] at h; cases h
    | some w =>
      rw [hv] at h
      simp only [Option.bind_some] at h
      split at h
      · rename_i hc
        cases h
        exact ⟨hv, hc⟩
      · cases h
  · rintro ⟨h, hc⟩
    refine ⟨j, List.mem_range.mpr (List.getElem?_eq_some_iff.mp h).1, ?_⟩
    rw [h]
    simp [hc]
def gL (ls : List Value) (nL : Nat) (lsA : Array Slot) : Prop := lv_has lsA nL (gl ls)
theorem gL_at {ls : List Value} {nL : Nat} {lsA : Array Slot} (h : gL ls nL lsA) {i : Nat} {v : Value} (hv : ls[i]? = some v) (hc : v.category = 1) : lsA[i]? = some (.val v) := h.2.2 (i, v) (gl_mem.mpr ⟨hv, hc⟩)
theorem gL_of {ls : List Value} {nL : Nat} {lsA : Array Slot} {l : List (Nat × Value)} (h : lv_has lsA nL l) (hs : ∀ q ∈ gl ls, q ∈ l) : gL ls nL lsA := ⟨h.1, h.2.1, fun q hq => h.2.2 q (hs q hq)⟩
theorem gL_set {ls : List Value} {nL : Nat} {lsA : Array Slot} {i : Nat} {v : Value} (h : lv_has lsA nL ((i, v) :: (gl ls).filter (fun q => !(q.1 == i) && !(q.1 + 1 == i && q.2.category == 2)))) : gL (ls.set i v) nL lsA := by
  refine gL_of h fun q hq => ?_
  obtain ⟨j, w⟩ := q
  obtain ⟨h1, h2⟩ := gl_mem.mp hq
  by_cases hj : i = j
  · subst hj
    rw [List.getElem?_set_self' ] at h1
    cases hx : ls[i]? with
    | none => rw [hx] at h1; cases h1
    | some y =>
      rw [hx] at h1
      cases h1
      exact List.mem_cons_self
  · rw [List.getElem?_set_ne hj] at h1
    refine List.mem_cons_of_mem _ (List.mem_filter.mpr ⟨gl_mem.mpr ⟨h1, h2⟩, ?_⟩)
    simp only [h2]
    have : ¬ j = i := fun z => hj z.symm
    simp [this]
def gD (X : gX) (pc : Nat) (i : Instr) (len pc' : Nat) : Prop := decode X.2.1 pc = .ok (i, len) ∧ pc + len = pc'
def gB (X : gX) (pc : Nat) (i : Instr) (off : Int) (tgt pc' : Nat) : Prop := decode X.2.1 pc = .ok (i, 3) ∧ (pc : Int) + off = (tgt : Int) ∧ pc + 3 = pc'
def G (E : gE) (X : gX) (pc : Nat) (ls st : List Value) (T : gT) (gi : gI) (gr : gR) (k n : Nat) (Q : gQ) : Prop :=
  ∀ (p : Program) (e : Env) (s : State) (m : MethodId) (args : Array Value) (below : List Frame) (meth : Method) (c : Code) (Z : State → Prop),
    gCx E X p s m args meth c →
    (∀ (T' : gT) (gi' : gI) (gr' : gR) (v : Option Value) (H' : Heap) (locs' : List Loc) (lsA : Array Slot) (pc' : Nat), Q T' gi' gr' v → gW E T' gi' gr' s H' → (∀ q ∈ locs', gbase E ≤ q.base) → gRt X pc' v → W p E.1 e X.2.2.2.2 s m args below meth c H' locs' X.2.2.2.2.cells X.2.2.2.2.slots Z (F0 m pc' lsA v.toList)) →
    ∀ (H : Heap) (locs : List Loc) (lsA : Array Slot), gL ls X.2.2.1 lsA → gW E T gi gr s H → (∀ q ∈ locs, gbase E ≤ q.base) → W p E.1 e X.2.2.2.2 s m args below meth c H locs k n Z (F0 m pc lsA st)
section GR
variable {E : gE} {X : gX} {pc pc' : Nat} {ls st : List Value} {T : gT} {gi : gI} {gr : gR} {k n : Nat} {Q : gQ}
theorem G_iconst {z : Int} {v : Int32} (hd : gD X pc (.iconst z) 1 pc') (hv : Int32.ofInt z = v) (kk : G E X pc' ls (.int v :: st) T gi gr k n Q) : G E X pc ls (st) T gi gr k n Q := by
  obtain ⟨hd, rfl⟩ := hd
  intro p e s m args below meth c Z hc hr H locs lsA hl hw hf
  exact lv_iconst hc.1 hc.2.1 hd hv (kk p e s m args below meth c Z hc hr H locs lsA hl hw hf)
theorem G_bipush {z : Int} {v : Int32} (hd : gD X pc (.bipush z) 2 pc') (hv : (Int8.ofInt z).toInt32 = v) (kk : G E X pc' ls (.int v :: st) T gi gr k n Q) : G E X pc ls (st) T gi gr k n Q := by
  obtain ⟨hd, rfl⟩ := hd
  intro p e s m args below meth c Z hc hr H locs lsA hl hw hf
  exact lv_bipush hc.1 hc.2.1 hd hv (kk p e s m args below meth c Z hc hr H locs lsA hl hw hf)
theorem G_sipush {z : Int} {v : Int32} (hd : gD X pc (.sipush z) 3 pc') (hv : (Int16.ofInt z).toInt32 = v) (kk : G E X pc' ls (.int v :: st) T gi gr k n Q) : G E X pc ls (st) T gi gr k n Q := by
  obtain ⟨hd, rfl⟩ := hd
  intro p e s m args below meth c Z hc hr H locs lsA hl hw hf
  exact lv_sipush hc.1 hc.2.1 hd hv (kk p e s m args below meth c Z hc hr H locs lsA hl hw hf)
theorem G_ldc {i : Nat} {v : Int32} (hd : gD X pc (.ldc i) 2 pc') (hv : Cond.constant X.1.cls i v ∈ gTbl) (kk : G E X pc' ls (.int v :: st) T gi gr k n Q) : G E X pc ls (st) T gi gr k n Q := by
  obtain ⟨hd, rfl⟩ := hd
  intro p e s m args below meth c Z hc hr H locs lsA hl hw hf
  exact lv_ldc hc.1 hc.2.1 hc.2.2.2.2.2.1 (hc.2.2.2.2.2.2.1 _ hv) hd (kk p e s m args below meth c Z hc hr H locs lsA hl hw hf)
theorem G_iload_n {i : Fin 4} {x : Int32} (hd : gD X pc (.iload_n i) 1 pc') (hv : ls[(i : Nat)]? = some (.int x)) (kk : G E X pc' ls (.int x :: st) T gi gr k n Q) : G E X pc ls (st) T gi gr k n Q := by
  obtain ⟨hd, rfl⟩ := hd
  intro p e s m args below meth c Z hc hr H locs lsA hl hw hf
  exact lv_iload_n hc.1 hc.2.1 hd rfl (gL_at hl hv rfl) (kk p e s m args below meth c Z hc hr H locs lsA hl hw hf)
theorem G_iload {i : Nat} {x : Int32} (hd : gD X pc (.iload i) 2 pc') (hv : ls[i]? = some (.int x)) (kk : G E X pc' ls (.int x :: st) T gi gr k n Q) : G E X pc ls (st) T gi gr k n Q := by
  obtain ⟨hd, rfl⟩ := hd
  intro p e s m args below meth c Z hc hr H locs lsA hl hw hf
  exact lv_iload hc.1 hc.2.1 hd (gL_at hl hv rfl) (kk p e s m args below meth c Z hc hr H locs lsA hl hw hf)
theorem G_aload_n {i : Fin 4} {a : Nat} (hd : gD X pc (.aload_n i) 1 pc') (hv : ls[(i : Nat)]? = some (.ref a)) (kk : G E X pc' ls (.ref a :: st) T gi gr k n Q) : G E X pc ls (st) T gi gr k n Q := by
  obtain ⟨hd, rfl⟩ := hd
  intro p e s m args below meth c Z hc hr H locs lsA hl hw hf
  exact lv_aload_n hc.1 hc.2.1 hd rfl (gL_at hl hv rfl) (kk p e s m args below meth c Z hc hr H locs lsA hl hw hf)
theorem G_aload_nN {i : Fin 4} (hd : gD X pc (.aload_n i) 1 pc') (hv : ls[(i : Nat)]? = some .null) (kk : G E X pc' ls (.null :: st) T gi gr k n Q) : G E X pc ls (st) T gi gr k n Q := by
  obtain ⟨hd, rfl⟩ := hd
  intro p e s m args below meth c Z hc hr H locs lsA hl hw hf
  exact lv_aload_nN hc.1 hc.2.1 hd rfl (gL_at hl hv rfl) (kk p e s m args below meth c Z hc hr H locs lsA hl hw hf)
theorem G_aload_nq {i : Fin 4} {r : Option Nat} (hd : gD X pc (.aload_n i) 1 pc') (hv : ls[(i : Nat)]? = some (va_rf r)) (kk : G E X pc' ls (va_rf r :: st) T gi gr k n Q) : G E X pc ls st T gi gr k n Q := by
  cases r with
  | none => exact G_aload_nN hd hv kk
  | some a => exact G_aload_n hd hv kk
theorem G_aload {i : Nat} {a : Nat} (hd : gD X pc (.aload i) 2 pc') (hv : ls[i]? = some (.ref a)) (kk : G E X pc' ls (.ref a :: st) T gi gr k n Q) : G E X pc ls (st) T gi gr k n Q := by
  obtain ⟨hd, rfl⟩ := hd
  intro p e s m args below meth c Z hc hr H locs lsA hl hw hf
  exact lv_aload hc.1 hc.2.1 hd (gL_at hl hv rfl) (kk p e s m args below meth c Z hc hr H locs lsA hl hw hf)
theorem G_aloadN {i : Nat} (hd : gD X pc (.aload i) 2 pc') (hv : ls[i]? = some .null) (kk : G E X pc' ls (.null :: st) T gi gr k n Q) : G E X pc ls (st) T gi gr k n Q := by
  obtain ⟨hd, rfl⟩ := hd
  intro p e s m args below meth c Z hc hr H locs lsA hl hw hf
  exact lv_aloadN hc.1 hc.2.1 hd (gL_at hl hv rfl) (kk p e s m args below meth c Z hc hr H locs lsA hl hw hf)
theorem G_aloadq {i : Nat} {r : Option Nat} (hd : gD X pc (.aload i) 2 pc') (hv : ls[i]? = some (va_rf r)) (kk : G E X pc' ls (va_rf r :: st) T gi gr k n Q) : G E X pc ls st T gi gr k n Q := by
  cases r with
  | none => exact G_aloadN hd hv kk
  | some a => exact G_aload hd hv kk
theorem G_istore_n {i : Fin 4} {x : Int32} {ls' : List Value} (hd : gD X pc (.istore_n i) 1 pc') (hi : (i : Nat) < X.2.2.1) (hs : ls.set (i : Nat) (.int x) = ls') (kk : G E X pc' ls' st T gi gr k n Q) : G E X pc ls (.int x :: st) T gi gr k n Q := by
  obtain ⟨hd, rfl⟩ := hd
  subst hs
  intro p e s m args below meth c Z hc hr H locs lsA hl hw hf
  exact lv_istore_n hc.1 hc.2.1 hd rfl hl hi rfl (fun lsB hB => kk p e s m args below meth c Z hc hr H locs lsB (gL_set hB) hw hf)
theorem G_istore {i : Nat} {x : Int32} {ls' : List Value} (hd : gD X pc (.istore i) 2 pc') (hi : i < X.2.2.1) (hs : ls.set i (.int x) = ls') (kk : G E X pc' ls' st T gi gr k n Q) : G E X pc ls (.int x :: st) T gi gr k n Q := by
  obtain ⟨hd, rfl⟩ := hd
  subst hs
  intro p e s m args below meth c Z hc hr H locs lsA hl hw hf
  exact lv_istore hc.1 hc.2.1 hd hl hi rfl (fun lsB hB => kk p e s m args below meth c Z hc hr H locs lsB (gL_set hB) hw hf)
theorem G_astore_n {i : Fin 4} {a : Nat} {ls' : List Value} (hd : gD X pc (.astore_n i) 1 pc') (hi : (i : Nat) < X.2.2.1) (hs : ls.set (i : Nat) (.ref a) = ls') (kk : G E X pc' ls' st T gi gr k n Q) : G E X pc ls (.ref a :: st) T gi gr k n Q := by
  obtain ⟨hd, rfl⟩ := hd
  subst hs
  intro p e s m args below meth c Z hc hr H locs lsA hl hw hf
  exact lv_astore_n hc.1 hc.2.1 hd rfl hl hi rfl (fun lsB hB => kk p e s m args below meth c Z hc hr H locs lsB (gL_set hB) hw hf)
theorem G_astore {i : Nat} {a : Nat} {ls' : List Value} (hd : gD X pc (.astore i) 2 pc') (hi : i < X.2.2.1) (hs : ls.set i (.ref a) = ls') (kk : G E X pc' ls' st T gi gr k n Q) : G E X pc ls (.ref a :: st) T gi gr k n Q := by
  obtain ⟨hd, rfl⟩ := hd
  subst hs
  intro p e s m args below meth c Z hc hr H locs lsA hl hw hf
  exact lv_astore hc.1 hc.2.1 hd hl hi rfl (fun lsB hB => kk p e s m args below meth c Z hc hr H locs lsB (gL_set hB) hw hf)
theorem G_astore_nN {i : Fin 4} {ls' : List Value} (hd : gD X pc (.astore_n i) 1 pc') (hi : (i : Nat) < X.2.2.1) (hs : ls.set (i : Nat) (.null) = ls') (kk : G E X pc' ls' st T gi gr k n Q) : G E X pc ls (.null :: st) T gi gr k n Q := by
  obtain ⟨hd, rfl⟩ := hd
  subst hs
  intro p e s m args below meth c Z hc hr H locs lsA hl hw hf
  exact lv_astore_nN hc.1 hc.2.1 hd rfl hl hi rfl (fun lsB hB => kk p e s m args below meth c Z hc hr H locs lsB (gL_set hB) hw hf)
theorem G_astoreN {i : Nat} {ls' : List Value} (hd : gD X pc (.astore i) 2 pc') (hi : i < X.2.2.1) (hs : ls.set i (.null) = ls') (kk : G E X pc' ls' st T gi gr k n Q) : G E X pc ls (.null :: st) T gi gr k n Q := by
  obtain ⟨hd, rfl⟩ := hd
  subst hs
  intro p e s m args below meth c Z hc hr H locs lsA hl hw hf
  exact lv_astoreN hc.1 hc.2.1 hd hl hi rfl (fun lsB hB => kk p e s m args below meth c Z hc hr H locs lsB (gL_set hB) hw hf)
theorem G_astore_nq {i : Fin 4} {r : Option Nat} {ls' : List Value} (hd : gD X pc (.astore_n i) 1 pc') (hi : (i : Nat) < X.2.2.1) (hs : ls.set (i : Nat) (va_rf r) = ls') (kk : G E X pc' ls' st T gi gr k n Q) : G E X pc ls (va_rf r :: st) T gi gr k n Q := by
  cases r with
  | none => exact G_astore_nN hd hi hs kk
  | some a => exact G_astore_n hd hi hs kk
theorem G_astoreq {i : Nat} {r : Option Nat} {ls' : List Value} (hd : gD X pc (.astore i) 2 pc') (hi : i < X.2.2.1) (hs : ls.set i (va_rf r) = ls') (kk : G E X pc' ls' st T gi gr k n Q) : G E X pc ls (va_rf r :: st) T gi gr k n Q := by
  cases r with
  | none => exact G_astoreN hd hi hs kk
  | some a => exact G_astore hd hi hs kk
theorem G_iinc {i : Nat} {z : Int} {x v : Int32} {ls' : List Value} (hd : gD X pc (.iinc i z) 3 pc') (hx : ls[i]? = some (.int x)) (hv : x + Int32.ofInt z = v) (hi : i < X.2.2.1) (hs : ls.set i (.int v) = ls') (kk : G E X pc' ls' st T gi gr k n Q) : G E X pc ls st T gi gr k n Q := by
  obtain ⟨hd, rfl⟩ := hd
  subst hs
  intro p e s m args below meth c Z hc hr H locs lsA hl hw hf
  obtain ⟨j, hj⟩ := List.getElem?_of_mem (gl_mem.mpr ⟨hx, (rfl : (Value.int x).category = 1)⟩)
  exact lv_iinc hc.1 hc.2.1 hd hl hj hv hi rfl (fun lsB hB => kk p e s m args below meth c Z hc hr H locs lsB (gL_set hB) hw hf)
theorem G_iadd {x y : Int32} (hd : gD X pc (.iadd) 1 pc')  (kk : G E X pc' ls (.int (x + y) :: st) T gi gr k n Q) : G E X pc ls (.int y :: .int x :: st) T gi gr k n Q := by
  obtain ⟨hd, rfl⟩ := hd
  intro p e s m args below meth c Z hc hr H locs lsA hl hw hf
  exact lv_iadd hc.1 hc.2.1 hd (kk p e s m args below meth c Z hc hr H locs lsA hl hw hf)
theorem G_isub {x y : Int32} (hd : gD X pc (.isub) 1 pc')  (kk : G E X pc' ls (.int (x - y) :: st) T gi gr k n Q) : G E X pc ls (.int y :: .int x :: st) T gi gr k n Q := by
  obtain ⟨hd, rfl⟩ := hd
  intro p e s m args below meth c Z hc hr H locs lsA hl hw hf
  exact lv_isub hc.1 hc.2.1 hd (kk p e s m args below meth c Z hc hr H locs lsA hl hw hf)
theorem G_imul {x y : Int32} (hd : gD X pc (.imul) 1 pc')  (kk : G E X pc' ls (.int (x * y) :: st) T gi gr k n Q) : G E X pc ls (.int y :: .int x :: st) T gi gr k n Q := by
  obtain ⟨hd, rfl⟩ := hd
  intro p e s m args below meth c Z hc hr H locs lsA hl hw hf
  exact lv_imul hc.1 hc.2.1 hd (kk p e s m args below meth c Z hc hr H locs lsA hl hw hf)
theorem G_iand {x y : Int32} (hd : gD X pc (.iand) 1 pc')  (kk : G E X pc' ls (.int (x &&& y) :: st) T gi gr k n Q) : G E X pc ls (.int y :: .int x :: st) T gi gr k n Q := by
  obtain ⟨hd, rfl⟩ := hd
  intro p e s m args below meth c Z hc hr H locs lsA hl hw hf
  exact lv_iand hc.1 hc.2.1 hd (kk p e s m args below meth c Z hc hr H locs lsA hl hw hf)
theorem G_ixor {x y : Int32} (hd : gD X pc (.ixor) 1 pc')  (kk : G E X pc' ls (.int (x ^^^ y) :: st) T gi gr k n Q) : G E X pc ls (.int y :: .int x :: st) T gi gr k n Q := by
  obtain ⟨hd, rfl⟩ := hd
  intro p e s m args below meth c Z hc hr H locs lsA hl hw hf
  exact lv_ixor hc.1 hc.2.1 hd (kk p e s m args below meth c Z hc hr H locs lsA hl hw hf)
theorem G_idiv {x y : Int32} (hd : gD X pc (.idiv) 1 pc') (hne : ¬ y = 0) (kk : G E X pc' ls (.int (x / y) :: st) T gi gr k n Q) : G E X pc ls (.int y :: .int x :: st) T gi gr k n Q := by
  obtain ⟨hd, rfl⟩ := hd
  intro p e s m args below meth c Z hc hr H locs lsA hl hw hf
  exact lv_idiv hc.1 hc.2.1 hd hne (kk p e s m args below meth c Z hc hr H locs lsA hl hw hf)
theorem G_irem {x y : Int32} (hd : gD X pc (.irem) 1 pc') (hne : ¬ y = 0) (kk : G E X pc' ls (.int (x - x / y * y) :: st) T gi gr k n Q) : G E X pc ls (.int y :: .int x :: st) T gi gr k n Q := by
  obtain ⟨hd, rfl⟩ := hd
  intro p e s m args below meth c Z hc hr H locs lsA hl hw hf
  exact lv_irem hc.1 hc.2.1 hd hne (kk p e s m args below meth c Z hc hr H locs lsA hl hw hf)
theorem G_ineg {x : Int32} (hd : gD X pc (.ineg) 1 pc')  (kk : G E X pc' ls (.int (-x) :: st) T gi gr k n Q) : G E X pc ls (.int x :: st) T gi gr k n Q := by
  obtain ⟨hd, rfl⟩ := hd
  intro p e s m args below meth c Z hc hr H locs lsA hl hw hf
  exact lv_ineg hc.1 hc.2.1 hd (kk p e s m args below meth c Z hc hr H locs lsA hl hw hf)
theorem G_dup {v : Value} (hd : gD X pc (.dup) 1 pc') (hv : v.category = 1) (kk : G E X pc' ls (v :: v :: st) T gi gr k n Q) : G E X pc ls (v :: st) T gi gr k n Q := by
  obtain ⟨hd, rfl⟩ := hd
  intro p e s m args below meth c Z hc hr H locs lsA hl hw hf
  exact lv_dup hc.1 hc.2.1 hd hv (kk p e s m args below meth c Z hc hr H locs lsA hl hw hf)
theorem G_pop {v : Value} (hd : gD X pc (.pop) 1 pc') (hv : v.category = 1) (kk : G E X pc' ls (st) T gi gr k n Q) : G E X pc ls (v :: st) T gi gr k n Q := by
  obtain ⟨hd, rfl⟩ := hd
  intro p e s m args below meth c Z hc hr H locs lsA hl hw hf
  exact lv_pop hc.1 hc.2.1 hd hv (kk p e s m args below meth c Z hc hr H locs lsA hl hw hf)
theorem G_dup2 {v u : Value} (hd : gD X pc (.dup2) 1 pc') (hv : v.category = 1) (hu : u.category = 1) (kk : G E X pc' ls (v :: u :: v :: u :: st) T gi gr k n Q) : G E X pc ls (v :: u :: st) T gi gr k n Q := by
  obtain ⟨hd, rfl⟩ := hd
  intro p e s m args below meth c Z hc hr H locs lsA hl hw hf
  exact lv_dup2_11 hc.1 hc.2.1 hd hv hu (kk p e s m args below meth c Z hc hr H locs lsA hl hw hf)
theorem G_null  (hd : gD X pc (.aconst_null) 1 pc')  (kk : G E X pc' ls (.null :: st) T gi gr k n Q) : G E X pc ls (st) T gi gr k n Q := by
  obtain ⟨hd, rfl⟩ := hd
  intro p e s m args below meth c Z hc hr H locs lsA hl hw hf
  exact lv_null hc.1 hc.2.1 hd (kk p e s m args below meth c Z hc hr H locs lsA hl hw hf)
theorem G_icmp_eq {x y : Int32} {off : Int} {tgt : Nat} (hd : gB X pc (.if_icmp .eq off) off tgt pc') (kt : x = y → G E X tgt ls st T gi gr k n Q) (kf : ¬ x = y → G E X pc' ls st T gi gr k n Q) : G E X pc ls (.int y :: .int x :: st) T gi gr k n Q := by
  obtain ⟨hd, ht, rfl⟩ := hd
  intro p e s m args below meth c Z hc hr H locs lsA hl hw hf
  exact lv_icmp_eq hc.1 hc.2.1 hd ht (fun h => kt h p e s m args below meth c Z hc hr H locs lsA hl hw hf) (fun h => kf h p e s m args below meth c Z hc hr H locs lsA hl hw hf)
theorem G_if_eq {x : Int32} {off : Int} {tgt : Nat} (hd : gB X pc (.ifCond .eq off) off tgt pc') (kt : x = 0 → G E X tgt ls st T gi gr k n Q) (kf : ¬ x = 0 → G E X pc' ls st T gi gr k n Q) : G E X pc ls (.int x :: st) T gi gr k n Q := by
  obtain ⟨hd, ht, rfl⟩ := hd
  intro p e s m args below meth c Z hc hr H locs lsA hl hw hf
  exact lv_if_eq hc.1 hc.2.1 hd ht (fun h => kt h p e s m args below meth c Z hc hr H locs lsA hl hw hf) (fun h => kf h p e s m args below meth c Z hc hr H locs lsA hl hw hf)
theorem G_icmp_ne {x y : Int32} {off : Int} {tgt : Nat} (hd : gB X pc (.if_icmp .ne off) off tgt pc') (kt : ¬ x = y → G E X tgt ls st T gi gr k n Q) (kf : x = y → G E X pc' ls st T gi gr k n Q) : G E X pc ls (.int y :: .int x :: st) T gi gr k n Q := by
  obtain ⟨hd, ht, rfl⟩ := hd
  intro p e s m args below meth c Z hc hr H locs lsA hl hw hf
  exact lv_icmp_ne hc.1 hc.2.1 hd ht (fun h => kt h p e s m args below meth c Z hc hr H locs lsA hl hw hf) (fun h => kf h p e s m args below meth c Z hc hr H locs lsA hl hw hf)
theorem G_if_ne {x : Int32} {off : Int} {tgt : Nat} (hd : gB X pc (.ifCond .ne off) off tgt pc') (kt : ¬ x = 0 → G E X tgt ls st T gi gr k n Q) (kf : x = 0 → G E X pc' ls st T gi gr k n Q) : G E X pc ls (.int x :: st) T gi gr k n Q := by
  obtain ⟨hd, ht, rfl⟩ := hd
  intro p e s m args below meth c Z hc hr H locs lsA hl hw hf
  exact lv_if_ne hc.1 hc.2.1 hd ht (fun h => kt h p e s m args below meth c Z hc hr H locs lsA hl hw hf) (fun h => kf h p e s m args below meth c Z hc hr H locs lsA hl hw hf)
theorem G_icmp_lt {x y : Int32} {off : Int} {tgt : Nat} (hd : gB X pc (.if_icmp .lt off) off tgt pc') (kt : x < y → G E X tgt ls st T gi gr k n Q) (kf : ¬ x < y → G E X pc' ls st T gi gr k n Q) : G E X pc ls (.int y :: .int x :: st) T gi gr k n Q := by
  obtain ⟨hd, ht, rfl⟩ := hd
  intro p e s m args below meth c Z hc hr H locs lsA hl hw hf
  exact lv_icmp_lt hc.1 hc.2.1 hd ht (fun h => kt h p e s m args below meth c Z hc hr H locs lsA hl hw hf) (fun h => kf h p e s m args below meth c Z hc hr H locs lsA hl hw hf)
theorem G_if_lt {x : Int32} {off : Int} {tgt : Nat} (hd : gB X pc (.ifCond .lt off) off tgt pc') (kt : x < 0 → G E X tgt ls st T gi gr k n Q) (kf : ¬ x < 0 → G E X pc' ls st T gi gr k n Q) : G E X pc ls (.int x :: st) T gi gr k n Q := by
  obtain ⟨hd, ht, rfl⟩ := hd
  intro p e s m args below meth c Z hc hr H locs lsA hl hw hf
  exact lv_if_lt hc.1 hc.2.1 hd ht (fun h => kt h p e s m args below meth c Z hc hr H locs lsA hl hw hf) (fun h => kf h p e s m args below meth c Z hc hr H locs lsA hl hw hf)
theorem G_icmp_ge {x y : Int32} {off : Int} {tgt : Nat} (hd : gB X pc (.if_icmp .ge off) off tgt pc') (kt : y ≤ x → G E X tgt ls st T gi gr k n Q) (kf : ¬ y ≤ x → G E X pc' ls st T gi gr k n Q) : G E X pc ls (.int y :: .int x :: st) T gi gr k n Q := by
  obtain ⟨hd, ht, rfl⟩ := hd
  intro p e s m args below meth c Z hc hr H locs lsA hl hw hf
  exact lv_icmp_ge hc.1 hc.2.1 hd ht (fun h => kt h p e s m args below meth c Z hc hr H locs lsA hl hw hf) (fun h => kf h p e s m args below meth c Z hc hr H locs lsA hl hw hf)
theorem G_if_ge {x : Int32} {off : Int} {tgt : Nat} (hd : gB X pc (.ifCond .ge off) off tgt pc') (kt : 0 ≤ x → G E X tgt ls st T gi gr k n Q) (kf : ¬ 0 ≤ x → G E X pc' ls st T gi gr k n Q) : G E X pc ls (.int x :: st) T gi gr k n Q := by
  obtain ⟨hd, ht, rfl⟩ := hd
  intro p e s m args below meth c Z hc hr H locs lsA hl hw hf
  exact lv_if_ge hc.1 hc.2.1 hd ht (fun h => kt h p e s m args below meth c Z hc hr H locs lsA hl hw hf) (fun h => kf h p e s m args below meth c Z hc hr H locs lsA hl hw hf)
theorem G_icmp_gt {x y : Int32} {off : Int} {tgt : Nat} (hd : gB X pc (.if_icmp .gt off) off tgt pc') (kt : y < x → G E X tgt ls st T gi gr k n Q) (kf : ¬ y < x → G E X pc' ls st T gi gr k n Q) : G E X pc ls (.int y :: .int x :: st) T gi gr k n Q := by
  obtain ⟨hd, ht, rfl⟩ := hd
  intro p e s m args below meth c Z hc hr H locs lsA hl hw hf
  exact lv_icmp_gt hc.1 hc.2.1 hd ht (fun h => kt h p e s m args below meth c Z hc hr H locs lsA hl hw hf) (fun h => kf h p e s m args below meth c Z hc hr H locs lsA hl hw hf)
theorem G_if_gt {x : Int32} {off : Int} {tgt : Nat} (hd : gB X pc (.ifCond .gt off) off tgt pc') (kt : 0 < x → G E X tgt ls st T gi gr k n Q) (kf : ¬ 0 < x → G E X pc' ls st T gi gr k n Q) : G E X pc ls (.int x :: st) T gi gr k n Q := by
  obtain ⟨hd, ht, rfl⟩ := hd
  intro p e s m args below meth c Z hc hr H locs lsA hl hw hf
  exact lv_if_gt hc.1 hc.2.1 hd ht (fun h => kt h p e s m args below meth c Z hc hr H locs lsA hl hw hf) (fun h => kf h p e s m args below meth c Z hc hr H locs lsA hl hw hf)
theorem G_icmp_le {x y : Int32} {off : Int} {tgt : Nat} (hd : gB X pc (.if_icmp .le off) off tgt pc') (kt : x ≤ y → G E X tgt ls st T gi gr k n Q) (kf : ¬ x ≤ y → G E X pc' ls st T gi gr k n Q) : G E X pc ls (.int y :: .int x :: st) T gi gr k n Q := by
  obtain ⟨hd, ht, rfl⟩ := hd
  intro p e s m args below meth c Z hc hr H locs lsA hl hw hf
  exact lv_icmp_le hc.1 hc.2.1 hd ht (fun h => kt h p e s m args below meth c Z hc hr H locs lsA hl hw hf) (fun h => kf h p e s m args below meth c Z hc hr H locs lsA hl hw hf)
theorem G_if_le {x : Int32} {off : Int} {tgt : Nat} (hd : gB X pc (.ifCond .le off) off tgt pc') (kt : x ≤ 0 → G E X tgt ls st T gi gr k n Q) (kf : ¬ x ≤ 0 → G E X pc' ls st T gi gr k n Q) : G E X pc ls (.int x :: st) T gi gr k n Q := by
  obtain ⟨hd, ht, rfl⟩ := hd
  intro p e s m args below meth c Z hc hr H locs lsA hl hw hf
  exact lv_if_le hc.1 hc.2.1 hd ht (fun h => kt h p e s m args below meth c Z hc hr H locs lsA hl hw hf) (fun h => kf h p e s m args below meth c Z hc hr H locs lsA hl hw hf)
theorem G_acmp_eq {rx ry : Option Nat} {vx vy : Value} {off : Int} {tgt : Nat} (ex : vx = va_rf rx) (ey : vy = va_rf ry) (hd : gB X pc (.if_acmp .eq off) off tgt pc') (kt : rx = ry → G E X tgt ls st T gi gr k n Q) (kf : ¬ rx = ry → G E X pc' ls st T gi gr k n Q) : G E X pc ls (vy :: vx :: st) T gi gr k n Q := by
  obtain ⟨hd, ht, rfl⟩ := hd
  subst ex
  subst ey
  intro p e s m args below meth c Z hc hr H locs lsA hl hw hf
  exact lv_acmp_eq hc.1 hc.2.1 hd ht (fun h => kt h p e s m args below meth c Z hc hr H locs lsA hl hw hf) (fun h => kf h p e s m args below meth c Z hc hr H locs lsA hl hw hf)
theorem G_acmp_ne {rx ry : Option Nat} {vx vy : Value} {off : Int} {tgt : Nat} (ex : vx = va_rf rx) (ey : vy = va_rf ry) (hd : gB X pc (.if_acmp .ne off) off tgt pc') (kt : ¬ rx = ry → G E X tgt ls st T gi gr k n Q) (kf : rx = ry → G E X pc' ls st T gi gr k n Q) : G E X pc ls (vy :: vx :: st) T gi gr k n Q := by
  obtain ⟨hd, ht, rfl⟩ := hd
  subst ex
  subst ey
  intro p e s m args below meth c Z hc hr H locs lsA hl hw hf
  exact lv_acmp_ne hc.1 hc.2.1 hd ht (fun h => kt h p e s m args below meth c Z hc hr H locs lsA hl hw hf) (fun h => kf h p e s m args below meth c Z hc hr H locs lsA hl hw hf)
theorem G_goto {off : Int} {tgt : Nat} (hd : gB X pc (.goto off) off tgt pc') (kk : G E X tgt ls st T gi gr k n Q) : G E X pc ls st T gi gr k n Q := by
  obtain ⟨hd, ht, rfl⟩ := hd
  intro p e s m args below meth c Z hc hr H locs lsA hl hw hf
  exact lv_goto hc.1 hc.2.1 hd ht (kk p e s m args below meth c Z hc hr H locs lsA hl hw hf)
theorem G_ifnull {a : Nat} {off : Int} {tgt : Nat} (hd : gB X pc (.ifnull off) off tgt pc') (kk : G E X pc' ls st T gi gr k n Q) : G E X pc ls (.ref a :: st) T gi gr k n Q := by
  obtain ⟨hd, ht, rfl⟩ := hd
  intro p e s m args below meth c Z hc hr H locs lsA hl hw hf
  exact lv_ifnull hc.1 hc.2.1 hd (kk p e s m args below meth c Z hc hr H locs lsA hl hw hf)
theorem G_ifnonnull {a : Nat} {off : Int} {tgt : Nat} (hd : gB X pc (.ifnonnull off) off tgt pc') (kk : G E X tgt ls st T gi gr k n Q) : G E X pc ls (.ref a :: st) T gi gr k n Q := by
  obtain ⟨hd, ht, rfl⟩ := hd
  intro p e s m args below meth c Z hc hr H locs lsA hl hw hf
  exact lv_ifnonnull hc.1 hc.2.1 hd ht (kk p e s m args below meth c Z hc hr H locs lsA hl hw hf)
theorem G_ifnullN {off : Int} {tgt : Nat} (hd : gB X pc (.ifnull off) off tgt pc') (kk : G E X tgt ls st T gi gr k n Q) : G E X pc ls (.null :: st) T gi gr k n Q := by
  obtain ⟨hd, ht, rfl⟩ := hd
  intro p e s m args below meth c Z hc hr H locs lsA hl hw hf
  exact lv_ifnullN hc.1 hc.2.1 hd ht (kk p e s m args below meth c Z hc hr H locs lsA hl hw hf)
theorem G_ifnonnullN {off : Int} {tgt : Nat} (hd : gB X pc (.ifnonnull off) off tgt pc') (kk : G E X pc' ls st T gi gr k n Q) : G E X pc ls (.null :: st) T gi gr k n Q := by
  obtain ⟨hd, ht, rfl⟩ := hd
  intro p e s m args below meth c Z hc hr H locs lsA hl hw hf
  exact lv_ifnonnullN hc.1 hc.2.1 hd (kk p e s m args below meth c Z hc hr H locs lsA hl hw hf)
theorem G_ifnullq {r : Option Nat} {off : Int} {tgt : Nat} (hd : gB X pc (.ifnull off) off tgt pc') (kn : r = none → G E X tgt ls st T gi gr k n Q) (ks : ∀ a, r = some a → G E X pc' ls st T gi gr k n Q) : G E X pc ls (va_rf r :: st) T gi gr k n Q := by
  cases r with
  | none => exact G_ifnullN hd (kn rfl)
  | some a => exact G_ifnull hd (ks a rfl)
theorem G_ifnonnullq {r : Option Nat} {off : Int} {tgt : Nat} (hd : gB X pc (.ifnonnull off) off tgt pc') (kn : r = none → G E X pc' ls st T gi gr k n Q) (ks : ∀ a, r = some a → G E X tgt ls st T gi gr k n Q) : G E X pc ls (va_rf r :: st) T gi gr k n Q := by
  cases r with
  | none => exact G_ifnonnullN hd (kn rfl)
  | some a => exact G_ifnonnull hd (ks a rfl)
theorem G_tableOut {dflt lo hi : Int} {offs : Array Int} {len tgt : Nat} {x : Int32} (hd : decode X.2.1 pc = .ok (.tableswitch dflt lo hi offs, len)) (h : x.toInt < lo ∨ hi < x.toInt) (ht : (pc : Int) + dflt = (tgt : Int)) (kk : G E X tgt ls st T gi gr k n Q) : G E X pc ls (.int x :: st) T gi gr k n Q := by
  intro p e s m args below meth c Z hc hr H locs lsA hl hw hf
  exact lv_tableOut hc.1 hc.2.1 hd h ht (kk p e s m args below meth c Z hc hr H locs lsA hl hw hf)
theorem G_tableIn {dflt lo hi off : Int} {offs : Array Int} {len tgt : Nat} {x : Int32} (hd : decode X.2.1 pc = .ok (.tableswitch dflt lo hi offs, len)) (h1 : ¬ x.toInt < lo) (h2 : ¬ hi < x.toInt) (ho : offs[(x.toInt - lo).toNat]? = some off) (ht : (pc : Int) + off = (tgt : Int)) (kk : G E X tgt ls st T gi gr k n Q) : G E X pc ls (.int x :: st) T gi gr k n Q := by
  intro p e s m args below meth c Z hc hr H locs lsA hl hw hf
  exact lv_tableIn hc.1 hc.2.1 hd h1 h2 ho ht (kk p e s m args below meth c Z hc hr H locs lsA hl hw hf)
theorem G_ireturn {x : Int32} {ty : FieldType} (hd : decode X.2.1 pc = .ok (.ireturn, 1)) (hty : X.2.2.2.1 = some ty) (hn : narrow ty (.int x) = .int x) (hk : k ≤ X.2.2.2.2.cells) (hn2 : n ≤ X.2.2.2.2.slots) (hq : Q T gi gr (some (.int x))) : G E X pc ls [.int x] T gi gr k n Q := by
  intro p e s m args below meth c Z hc hr H locs lsA hl hw hf
  exact W.widen hk hn2 (hr T gi gr (some (.int x)) H locs lsA pc hq hw hf ⟨hd, ty, hty, hn⟩)
theorem G_return (hd : decode X.2.1 pc = .ok (.return_, 1)) (hty : X.2.2.2.1 = none) (hk : k ≤ X.2.2.2.2.cells) (hn2 : n ≤ X.2.2.2.2.slots) (hq : Q T gi gr none) : G E X pc ls [] T gi gr k n Q := by
  intro p e s m args below meth c Z hc hr H locs lsA hl hw hf
  exact W.widen hk hn2 (hr T gi gr none H locs lsA pc hq hw hf ⟨hd, hty⟩)
theorem G_areturn {r : Option Nat} {v : Value} {C : String} (hd : decode X.2.1 pc = .ok (.areturn, 1)) (hv : v = va_rf r) (hty : X.2.2.2.1 = some (.object C)) (hk : k ≤ X.2.2.2.2.cells) (hn2 : n ≤ X.2.2.2.2.slots) (hq : Q T gi gr (some (va_rf r))) : G E X pc ls [v] T gi gr k n Q := by
  subst hv
  intro p e s m args below meth c Z hc hr H locs lsA hl hw hf
  refine W.widen hk hn2 (hr T gi gr (some (va_rf r)) H locs lsA pc hq hw hf ?_)
  cases r with
  | none => exact ⟨hd, Or.inl rfl, C, hty⟩
  | some a => exact ⟨hd, Or.inr ⟨a, rfl⟩, C, hty⟩
end GR
