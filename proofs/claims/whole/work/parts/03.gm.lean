def gu {α : Type} (f : Nat → Nat → α) (a k : Nat) (x : α) : Nat → Nat → α := fun q j => if q = a ∧ j = k then x else f q j
def gup {α : Type} (f : Nat → α) (a : Nat) (x : α) : Nat → α := fun q => if q = a then x else f q
def gNew (T : gT) (tag len : Nat) : gT := (gup T.1 T.2.2 tag, gup T.2.1 T.2.2 len, T.2.2 + 1)
theorem gu_off {α : Type} {f : Nat → Nat → α} {a k : Nat} {x : α} {q : Nat} (h : q ≠ a) : gu f a k x q = f q := by
  funext j
  simp [gu, h]
theorem gu_row {α : Type} {f : Nat → Nat → α} {a k : Nat} {x : α} (j : Nat) : gu f a k x a j = if j = k then x else f a j := by
  simp [gu]
theorem gu_same {α : Type} {f : Nat → Nat → α} {a k : Nat} {x : α} : gu f a k x a k = x := by simp [gu]
theorem gu_ne {α : Type} {f : Nat → Nat → α} {a k : Nat} {x : α} {q j : Nat} (h : q ≠ a ∨ j ≠ k) : gu f a k x q j = f q j := by
  unfold gu
  rw [if_neg]
  rintro ⟨h1, h2⟩
  rcases h with h | h
  · exact h h1
  · exact h h2
theorem gup_same {α : Type} {f : Nat → α} {a : Nat} {x : α} : gup f a x a = x := by simp [gup]
theorem gup_ne {α : Type} {f : Nat → α} {a : Nat} {x : α} {q : Nat} (h : q ≠ a) : gup f a x q = f q := by simp [gup, h]
theorem vwCl_lt {ci : Nat} {r : vw_C} (h : vwCl[ci]? = some r) : ci < 99 := Nat.lt_of_lt_of_le (List.getElem?_eq_some_iff.mp h).1 (by decide)
theorem gMem_fld {E : gE} {T : gT} {gi gi' : gI} {gr gr' : gR} {H H1 : Heap} {a ci : Nat} {r : vw_C} {cell1 : Cell} (hM : gMem E T gi gr H) (ht : T.1 a = ci + 1) (hcl : vwCl[ci]? = some r) (hoff : ∀ q, q ≠ a → gi' q = gi q ∧ gr' q = gr q) (h1 : H1[a]? = some cell1) (hz : H1.size = H.size) (ho : ∀ q, q ≠ a → H1[q]? = H[q]?)
    (hnew : cell1.cls = E.2.1.1 ci ∧ cell1.vm = .none ∧ ∀ k, k < r.2.2 → cell1.slots[E.2.1.2 ci k]? = some (gfv r.2.1 k (gi' a) (gr' a))) : gMem E T gi' gr' H1 := by
  refine ⟨hz.trans hM.1, hM.2.1, fun q hq => ?_⟩
  by_cases hqa : q = a
  · subst hqa
    refine ⟨(hM.2.2 q hq).1, cell1, h1, fun ci' r' e1 e2 => ?_, fun t e1 => ?_⟩
    · have : ci' = ci := by omega
      subst this
      rw [hcl] at e2
      cases e2
      exact hnew
    · have := vwCl_lt hcl
      omega
  · obtain ⟨hb, cell, hcell, hat⟩ := hM.2.2 q hq
    refine ⟨hb, cell, (ho q hqa).trans hcell, ?_⟩
    rw [(hoff q hqa).1, (hoff q hqa).2]
    exact hat
theorem gMem_arr {E : gE} {T : gT} {gi gi' : gI} {gr gr' : gR} {H H1 : Heap} {a t : Nat} (hM : gMem E T gi gr H) (ht : T.1 a = 100 + t) (hoff : ∀ q, q ≠ a → gi' q = gi q ∧ gr' q = gr q) (h1 : H1[a]? = some (arrV (E.2.2.1 t) (T.2.1 a) (gav t (gi' a) (gr' a)))) (hz : H1.size = H.size) (ho : ∀ q, q ≠ a → H1[q]? = H[q]?) : gMem E T gi' gr' H1 := by
  refine ⟨hz.trans hM.1, hM.2.1, fun q hq => ?_⟩
  by_cases hqa : q = a
  · subst hqa
    refine ⟨(hM.2.2 q hq).1, _, h1, fun ci' r' e1 e2 => ?_, fun t' e1 => ?_⟩
    · have := vwCl_lt e2
      omega
    · have : t' = t := by omega
      subst this
      rfl
  · obtain ⟨hb, cell, hcell, hat⟩ := hM.2.2 q hq
    refine ⟨hb, cell, (ho q hqa).trans hcell, ?_⟩
    rw [(hoff q hqa).1, (hoff q hqa).2]
    exact hat
theorem gMem_new {E : gE} {T : gT} {gi : gI} {gr : gR} {H H1 : Heap} {tag len : Nat} {cell1 : Cell} (hM : gMem E T gi gr H) (h1 : H1[H.size]? = some cell1) (hz : H1.size = H.size + 1) (ho : ∀ q, q < H.size → H1[q]? = H[q]?) (hnew : gAt E tag len (fun _ => 0) (fun _ => none) cell1) :
    gMem E (gNew T tag len) (gup gi T.2.2 (fun _ => 0)) (gup gr T.2.2 (fun _ => none)) H1 := by
  obtain ⟨m1, m2, m3⟩ := hM
  refine ⟨by rw [hz, m1]; rfl, Nat.le_succ_of_le m2, fun q hq => ?_⟩
  by_cases hqa : q = T.2.2
  · subst hqa
    refine ⟨m2, cell1, by rw [← m1]; exact h1, ?_⟩
    simp only [gNew, gup_same]
    exact hnew
  · simp only [gNew, gup_ne hqa] at hq ⊢
    obtain ⟨hb, cell, hcell, hat⟩ := m3 q hq
    exact ⟨hb, cell, (ho q (Array.getElem?_eq_some_iff.mp hcell).1).trans hcell, hat⟩
theorem gW_to {E : gE} {T T' : gT} {gi gi' : gI} {gr gr' : gR} {U : State} {H H1 : Heap} (hw : gW E T gi gr U H) (hM : gMem E T' gi' gr' H1) (hb : H1[E.2.2.2.1]? = H[E.2.2.2.1]?) : gW E T' gi' gr' U H1 := ⟨hM, hw.2.1.kept hb, hw.2.2⟩
theorem gLocs {E : gE} {locs : List Loc} {a j : Nat} (hf : ∀ q ∈ locs, gbase E ≤ q.base) (ha : gbase E ≤ a) : ∀ q ∈ locs ++ [(⟨a, j⟩ : Loc)], gbase E ≤ q.base := by
  intro q hq
  rcases List.mem_append.mp hq with h | h
  · exact hf q h
  · rw [List.mem_singleton.mp h]; exact ha
def gCls (ci : Nat) (C : String) (Tb : u_T) (N : Nat) (ty : Nat → FieldType) : Prop :=
  vwCl[ci]? = some (C, Tb, N) ∧ (∀ w ∈ u_ws C Tb N, w ∈ gTbl) ∧ (∀ k, k < N → parseFieldDescriptor (Tb k).2.2.1 = some (ty k)) ∧ (∀ a, a < N → ∀ b, b < N → a ≠ b → (Tb a).2.1 ≠ (Tb b).2.1)
def gFld (own : String) (idx ci k : Nat) (rf : Bool) : Prop := ∃ (C : String) (Tb : u_T) (N : Nat) (ty : Nat → FieldType), gCls ci C Tb N ty ∧ k < N ∧ gFR (Tb k).2.2.1 = rf ∧ Cond.fieldLink own idx (Tb k).1 (Tb k).2.1 (Tb k).2.2.1 ∈ gTbl
def gFldW (own : String) (idx ci k : Nat) (fin rf : Bool) (t : FieldType) : Prop := ∃ (C : String) (Tb : u_T) (N : Nat) (ty : Nat → FieldType), gCls ci C Tb N ty ∧ k < N ∧ gFR (Tb k).2.2.1 = rf ∧ Cond.fieldLink own idx (Tb k).1 (Tb k).2.1 (Tb k).2.2.1 ∈ gTbl ∧ ty k = t ∧ (Tb k).2.2.2 = fin ∧ (fin = true → (Tb k).1 = own)
section GF
variable {E : gE} {X : gX} {pc pc' : Nat} {ls st : List Value} {T : gT} {gi : gI} {gr : gR} {k n : Nat} {Q : gQ}
theorem G_getV {idx ci fk a : Nat} {rf : Bool} (f : gFld X.1.cls idx ci fk rf) (hd : gD X pc (.getfield idx) 3 pc') (ht : T.1 a = ci + 1) (kk : G E X pc' ls ((if rf = true then va_rf (gr a fk) else .int (gi a fk)) :: st) T gi gr k n Q) : G E X pc ls (.ref a :: st) T gi gr k n Q := by
  obtain ⟨C, Tb, N, ty, ⟨hcl, hin, hty, hnm⟩, hk, hrf, hlk⟩ := f
  obtain ⟨hd, rfl⟩ := hd
  intro p e s m args below meth c Z hc hr H locs lsA hl hw hf
  obtain ⟨hb0, cell, hcell, hat⟩ := hw.1.2.2 a (by rw [ht]; exact Nat.succ_ne_zero _)
  obtain ⟨q2, q3, q4⟩ := hat.1 ci _ ht hcl
  obtain ⟨hS, hfc, kC, hkC, hkind⟩ := hc.2.2.2.2.2.2.2.2.1.1 ci _ hcl
  obtain ⟨cf, kf, fi, f, hi, hsl⟩ := hS fk hk
  refine W.getf hc.1 hc.2.1 hc.2.2.2.2.2.1 (hc.2.2.2.2.2.2.1 _ hlk) hi (u_facts hfc hkC (u_lays hc.2.2.2.2.2.2.1 hin hk) hi).1 hcell (by rw [q3]; exact fun h => by cases h) ?_ rfl rfl hd (kk p e s m args below meth c Z hc hr H locs lsA hl hw hf)
  rw [hsl, q4 fk hk]
  simp only [gfv, hrf]
theorem G_getI {idx ci fk a : Nat} (f : gFld X.1.cls idx ci fk false) (hd : gD X pc (.getfield idx) 3 pc') (ht : T.1 a = ci + 1) (kk : G E X pc' ls (.int (gi a fk) :: st) T gi gr k n Q) : G E X pc ls (.ref a :: st) T gi gr k n Q := G_getV f hd ht kk
theorem G_getR {idx ci fk a : Nat} (f : gFld X.1.cls idx ci fk true) (hd : gD X pc (.getfield idx) 3 pc') (ht : T.1 a = ci + 1) (kk : G E X pc' ls (va_rf (gr a fk) :: st) T gi gr k n Q) : G E X pc ls (.ref a :: st) T gi gr k n Q := G_getV f hd ht kk
theorem G_getRs {idx ci fk a q : Nat} (f : gFld X.1.cls idx ci fk true) (hd : gD X pc (.getfield idx) 3 pc') (ht : T.1 a = ci + 1) (hq : gr a fk = some q) (kk : G E X pc' ls (.ref q :: st) T gi gr k n Q) : G E X pc ls (.ref a :: st) T gi gr k n Q := G_getR f hd ht (by rw [hq]; exact kk)
theorem G_putV {idx ci fk a : Nat} {fin rf : Bool} {t : FieldType} {v : Value} {gi' : gI} {gr' : gR} (f : gFldW X.1.cls idx ci fk fin rf t) (hfin : fin = false ∨ X.1.name = "<init>") (hd : gD X pc (.putfield idx) 3 pc') (ht : T.1 a = ci + 1) (hn : narrow t v = v) (hfit : fits t v = true) (hoff : ∀ q, q ≠ a → gi' q = gi q ∧ gr' q = gr q)
    (hval : ∀ (Tb : u_T) (j : Nat), (j = fk → gFR (Tb fk).2.2.1 = rf) → gfv Tb j (gi' a) (gr' a) = if j = fk then v else gfv Tb j (gi a) (gr a)) (kk : G E X pc' ls st T gi' gr' k n Q) : G E X pc ls (v :: .ref a :: st) T gi gr k n Q := by
  obtain ⟨C, Tb, N, ty, ⟨hcl, hin, hty, hnm⟩, hk, hrf, hlk, hte, hfe, hdecl⟩ := f
  obtain ⟨hd, rfl⟩ := hd
  intro p e s m args below meth c Z hc hr H locs lsA hl hw hf
  have hts := hc.2.2.2.2.2.2.1
  have hown := hc.2.2.2.2.2.1
  have hK := hc.2.2.2.2.2.2.2.2.1
  obtain ⟨hb0, cell, hcell, hat⟩ := hw.1.2.2 a (by rw [ht]; exact Nat.succ_ne_zero _)
  obtain ⟨q2, q3, q4⟩ := hat.1 ci _ ht hcl
  have hap := va_apart (own := X.1.cls) hts hin ty hty hnm hK hcl
  obtain ⟨hS, hfc, kC, hkC, hkind⟩ := hK.1 ci _ hcl
  obtain ⟨cf, kf, fi, f, hi, hsl⟩ := hS fk hk
  have hst := (u_facts hfc hkC (u_lays hts hin hk) hi).1
  have hd2 : parseFieldDescriptor (Tb fk).2.2.1 = some t := by rw [← hte]; exact hty fk hk
  have go : ∀ H' : Heap, H'[a]? = some (cell.setSlot f.slot v) → H'.size = H.size → (∀ q, q ≠ a → H'[q]? = H[q]?) → W p E.1 e X.2.2.2.2 s m args below meth c H' (locs ++ [⟨a, f.slot⟩]) k n Z (F0 m (pc + 3) lsA st) := by
    intro H' e1 e2 e3
    refine kk p e s m args below meth c Z hc hr H' _ lsA hl (gW_to hw (gMem_fld hw.1 ht hcl hoff e1 e2 e3 ⟨q2, q3, fun j hj => ?_⟩) (e3 _ (fun z => by have := hw.2.2; omega))) (gLocs hf hb0)
    rw [hsl, t_set q4 hap hk v j hj]
    simp only [updV]
    rw [hval Tb j (fun _ => hrf)]
  have hlay := hts _ (hin _ (u_in_lay hk))
  unfold u_lay at hlay
  cases fin with
  | false =>
    rw [if_neg (by rw [hfe]; decide)] at hlay
    exact W.putK hc.1 hc.2.1 (f := f) ⟨hown, hts _ hlk, ⟨_, _, _, hi⟩, hst⟩ (by rw [q2]; exact u_store hfc hkC hkind hlay hi hd2 hn hfit) hcell q3 (by rw [hsl]; exact k2_hasslot (q4 fk hk)) rfl rfl hd go
  | true =>
    rw [if_pos hfe] at hlay
    have hcf : m.cls = cf := by
      obtain ⟨_, _, c', _, _, _, -, -, hf', -, -, -, hown2, -⟩ := Cond.laysFinal_spec hlay
      have e1 : c' = cf := by have := hi.symm.trans hf'; simp at this; exact this.1.symm
      rw [hdecl rfl] at hown2
      rw [← e1]; exact Option.some.inj (hown.symm.trans hown2)
    exact W.putFinK hc.1 hc.2.1 hown (hts _ hlk) hi hst hcf (by rw [hc.2.2.2.2.2.2.2.1]; rcases hfin with h | h; cases h; exact h) (by rw [q2]; exact u_fits hfc hkC hkind (Or.inr hlay) hi hd2 hn hfit) hcell q3 (by rw [hsl]; exact k2_hasslot (q4 fk hk)) rfl rfl hd go
theorem gfv_I {Tb : u_T} {fi : gI} {fr : gR} {a fk j : Nat} {x : Int32} (h : j = fk → gFR (Tb fk).2.2.1 = false) : gfv Tb j (gu fi a fk x a) (fr a) = if j = fk then .int x else gfv Tb j (fi a) (fr a) := by
  by_cases hj : j = fk
  · subst hj
    rw [if_pos rfl]
    simp [gfv, h rfl, gu]
  · rw [if_neg hj]
    simp [gfv, gu, hj]
theorem gfv_R {Tb : u_T} {fi : gI} {fr : gR} {a fk j : Nat} {x : Option Nat} (h : j = fk → gFR (Tb fk).2.2.1 = true) : gfv Tb j (fi a) (gu fr a fk x a) = if j = fk then va_rf x else gfv Tb j (fi a) (fr a) := by
  by_cases hj : j = fk
  · subst hj
    rw [if_pos rfl]
    simp [gfv, h rfl, gu]
  · rw [if_neg hj]
    simp [gfv, gu, hj]
theorem G_putI {idx ci fk a : Nat} {fin : Bool} {t : FieldType} {x : Int32} (f : gFldW X.1.cls idx ci fk fin false t) (hfin : fin = false ∨ X.1.name = "<init>") (hd : gD X pc (.putfield idx) 3 pc') (ht : T.1 a = ci + 1) (hn : narrow t (.int x) = .int x) (hfit : fits t (.int x) = true) (kk : G E X pc' ls st T (gu gi a fk x) gr k n Q) : G E X pc ls (.int x :: .ref a :: st) T gi gr k n Q :=
  G_putV (gi' := gu gi a fk x) (gr' := gr) f hfin hd ht hn hfit (fun q hq => ⟨gu_off hq, rfl⟩) (fun Tb j h => gfv_I h) kk
theorem G_putR {idx ci fk a : Nat} {fin : Bool} {t : FieldType} {v : Value} {r : Option Nat} (hv : v = va_rf r) (f : gFldW X.1.cls idx ci fk fin true t) (hfin : fin = false ∨ X.1.name = "<init>") (hd : gD X pc (.putfield idx) 3 pc') (ht : T.1 a = ci + 1) (hn : ∀ q, narrow t (va_rf q) = va_rf q) (hfit : ∀ q, fits t (va_rf q) = true) (kk : G E X pc' ls st T gi (gu gr a fk r) k n Q) : G E X pc ls (v :: .ref a :: st) T gi gr k n Q := by
  subst hv
  exact G_putV (gi' := gi) (gr' := gu gr a fk r) f hfin hd ht (hn r) (hfit r) (fun q hq => ⟨rfl, gu_off hq⟩) (fun Tb j h => gfv_R h) kk
theorem nr_o (C : String) (q : Option Nat) : narrow (.object C) (va_rf q) = va_rf q := by cases q <;> rfl
theorem ft_o (C : String) (q : Option Nat) : fits (.object C) (va_rf q) = true := by cases q <;> rfl
theorem nr_a (t : FieldType) (q : Option Nat) : narrow (.array t) (va_rf q) = va_rf q := by cases q <;> rfl
theorem ft_a (t : FieldType) (q : Option Nat) : fits (.array t) (va_rf q) = true := by cases q <;> rfl
theorem nr_z {x : Int32} (h : x = 0 ∨ x = 1) : narrow .boolean (.int x) = .int x := by rcases h with rfl | rfl <;> decide +kernel
theorem ft_z {x : Int32} (h : x = 0 ∨ x = 1) : fits .boolean (.int x) = true := by rcases h with rfl | rfl <;> decide +kernel
theorem gK_arr {s : State} (hK : gK E s) {q : Nat} (hq : q < 5) : ArrOfT s (E.2.2.1 q) (gAT q) ∧ va_RA s (E.2.2.1 q) (gAT q) := by
  have h := hK.1.2 q (E.2.2.1 q, gAT q)
  have e : (gTys E)[q]? = some (E.2.2.1 q, gAT q) := by
    match q, hq with
    | 0, _ => rfl
    | 1, _ => rfl
    | 2, _ => rfl
    | 3, _ => rfl
    | 4, _ => rfl
  exact h e
theorem G_iald {a : Nat} {i : Int32} (hd : gD X pc .iaload 1 pc') (ht : T.1 a = 100) (hin : vp_in i (T.2.1 a)) (kk : G E X pc' ls (.int (gi a i.toNatClampNeg) :: st) T gi gr k n Q) : G E X pc ls (.int i :: .ref a :: st) T gi gr k n Q := by
  obtain ⟨hd, rfl⟩ := hd
  intro p e s m args below meth c Z hc hr H locs lsA hl hw hf
  obtain ⟨hb0, cell, hcell, hat⟩ := hw.1.2.2 a (by rw [ht]; decide)
  have hce := hat.2 0 ht
  subst hce
  have hlt : i.toNatClampNeg < T.2.1 a := Nat.not_le.mp fun q => hin (Or.inr q)
  exact W.iald hc.1 hc.2.1 hcell ((gK_arr hc.2.2.2.2.2.2.2.2 (q := 0) (by decide)).1 _ _) (fun q => by cases q) (by rw [arrV_size]; exact hin) (by rw [arrV_read _ _ hlt]; rfl) rfl rfl hd (kk p e s m args below meth c Z hc hr H locs lsA hl hw hf)
theorem G_zald {a : Nat} {i : Int32} (hd : gD X pc .baload 1 pc') (ht : T.1 a = 101) (hin : vp_in i (T.2.1 a)) (kk : G E X pc' ls (.int (gi a i.toNatClampNeg) :: st) T gi gr k n Q) : G E X pc ls (.int i :: .ref a :: st) T gi gr k n Q := by
  obtain ⟨hd, rfl⟩ := hd
  intro p e s m args below meth c Z hc hr H locs lsA hl hw hf
  obtain ⟨hb0, cell, hcell, hat⟩ := hw.1.2.2 a (by rw [ht]; decide)
  have hce := hat.2 1 ht
  subst hce
  have hlt : i.toNatClampNeg < T.2.1 a := Nat.not_le.mp fun q => hin (Or.inr q)
  exact W.zald hc.1 hc.2.1 hcell ((gK_arr hc.2.2.2.2.2.2.2.2 (q := 1) (by decide)).1 _ _) (fun q => by cases q) (by rw [arrV_size]; exact hin) (by rw [arrV_read _ _ hlt]; rfl) rfl rfl hd (kk p e s m args below meth c Z hc hr H locs lsA hl hw hf)
theorem G_aald (t : Nat) {a : Nat} {i : Int32} (hd : gD X pc .aaload 1 pc') (h2 : 2 ≤ t ∧ t < 5) (ht : T.1 a = 100 + t) (hin : vp_in i (T.2.1 a)) (kk : G E X pc' ls (va_rf (gr a i.toNatClampNeg) :: st) T gi gr k n Q) : G E X pc ls (.int i :: .ref a :: st) T gi gr k n Q := by
  obtain ⟨hd, rfl⟩ := hd
  intro p e s m args below meth c Z hc hr H locs lsA hl hw hf
  obtain ⟨hb0, cell, hcell, hat⟩ := hw.1.2.2 a (by rw [ht]; omega)
  have hce := hat.2 t ht
  subst hce
  have hlt : i.toNatClampNeg < T.2.1 a := Nat.not_le.mp fun q => hin (Or.inr q)
  have hre : (gAT t).isReference = true := by
    match t, h2 with
    | 2, _ => rfl
    | 3, _ => rfl
    | 4, _ => rfl
  exact W.aald hc.1 hc.2.1 hcell ((gK_arr hc.2.2.2.2.2.2.2.2 (q := t) h2.2).1 _ _) hre (fun q => by cases q) (by rw [arrV_size]; exact hin) (by rw [arrV_read _ _ hlt]; simp only [gav]; rw [if_neg (by omega)]) rfl rfl hd (kk p e s m args below meth c Z hc hr H locs lsA hl hw hf)
theorem G_aalds (t : Nat) {a q : Nat} {i : Int32} (hd : gD X pc .aaload 1 pc') (h2 : 2 ≤ t ∧ t < 5) (ht : T.1 a = 100 + t) (hin : vp_in i (T.2.1 a)) (hq : gr a i.toNatClampNeg = some q) (kk : G E X pc' ls (.ref q :: st) T gi gr k n Q) : G E X pc ls (.int i :: .ref a :: st) T gi gr k n Q := G_aald t hd h2 ht hin (by rw [hq]; exact kk)
theorem G_alen (t : Nat) {a : Nat} {v : Int32} (hd : gD X pc .arraylength 1 pc') (h2 : t < 5) (ht : T.1 a = 100 + t) (hv : Int32.ofNat (T.2.1 a) = v) (kk : G E X pc' ls (.int v :: st) T gi gr k n Q) : G E X pc ls (.ref a :: st) T gi gr k n Q := by
  obtain ⟨hd, rfl⟩ := hd
  intro p e s m args below meth c Z hc hr H locs lsA hl hw hf
  obtain ⟨hb0, cell, hcell, hat⟩ := hw.1.2.2 a (by rw [ht]; omega)
  have hce := hat.2 t ht
  subst hce
  exact W.alen hc.1 hc.2.1 hcell ((gK_arr hc.2.2.2.2.2.2.2.2 (q := t) h2).1 _ _) (by rw [arrV_size]; exact hv) rfl rfl hd (kk p e s m args below meth c Z hc hr H locs lsA hl hw hf)
theorem G_sald {i : Int32} (hd : gD X pc .iaload 1 pc') (hin : vp_in i E.2.2.2.2.1) (kk : G E X pc' ls (.int (E.2.2.2.2.2.1 i.toNatClampNeg) :: st) T gi gr k n Q) : G E X pc ls (.int i :: .ref E.2.2.2.1 :: st) T gi gr k n Q := by
  obtain ⟨hd, rfl⟩ := hd
  intro p e s m args below meth c Z hc hr H locs lsA hl hw hf
  obtain ⟨scr, h1, h2, h3, h4, h5⟩ := hw.2.1
  have hlt : i.toNatClampNeg < E.2.2.2.2.1 := Nat.not_le.mp fun q => hin (Or.inr q)
  exact W.iald hc.1 hc.2.1 h1 h2 h3 (by rw [h4]; exact hin) (h5 _ hlt) rfl rfl hd (kk p e s m args below meth c Z hc hr H locs lsA hl hw hf)
theorem G_slen {v : Int32} (hd : gD X pc .arraylength 1 pc') (hv : Int32.ofNat E.2.2.2.2.1 = v) (kk : G E X pc' ls (.int v :: st) T gi gr k n Q) : G E X pc ls (.ref E.2.2.2.1 :: st) T gi gr k n Q := by
  obtain ⟨hd, rfl⟩ := hd
  intro p e s m args below meth c Z hc hr H locs lsA hl hw hf
  obtain ⟨scr, h1, h2, h3, h4, h5⟩ := hw.2.1
  exact W.alen hc.1 hc.2.1 h1 h2 (by rw [h4]; exact hv) rfl rfl hd (kk p e s m args below meth c Z hc hr H locs lsA hl hw hf)
theorem gav_I {q : Nat} {fi : gI} {fr : Nat → Option Nat} {a j : Nat} {x : Int32} (hq : q < 2) : updV (gav q (fi a) fr) j (.int x) = gav q (gu fi a j x a) fr := by
  funext i
  simp only [updV, gav, gu, if_pos hq]
  by_cases h : i = j <;> simp [h]
theorem gav_R {q : Nat} {fi : Nat → Int32} {fr : gR} {a j : Nat} {x : Option Nat} (hq : ¬ q < 2) : updV (gav q fi (fr a)) j (va_rf x) = gav q fi (gu fr a j x a) := by
  funext i
  simp only [updV, gav, gu, if_neg hq]
  by_cases h : i = j <;> simp [h]
theorem G_iast {a : Nat} {i x : Int32} (hd : gD X pc .iastore 1 pc') (ht : T.1 a = 100) (hin : vp_in i (T.2.1 a)) (kk : G E X pc' ls st T (gu gi a i.toNatClampNeg x) gr k n Q) : G E X pc ls (.int x :: .int i :: .ref a :: st) T gi gr k n Q := by
  obtain ⟨hd, rfl⟩ := hd
  intro p e s m args below meth c Z hc hr H locs lsA hl hw hf
  obtain ⟨hb0, cell, hcell, hat⟩ := hw.1.2.2 a (by rw [ht]; decide)
  have hce := hat.2 0 ht
  subst hce
  refine W.iast hc.1 hc.2.1 hcell ((gK_arr hc.2.2.2.2.2.2.2.2 (q := 0) (by decide)).1 _ _) (fun q => by cases q) (by rw [arrV_size]; exact hin) rfl rfl hd fun H1 e1 z oq => ?_
  rw [arrV_store, gav_I (by decide)] at e1
  exact kk p e s m args below meth c Z hc hr H1 _ lsA hl (gW_to hw (gMem_arr (t := 0) hw.1 ht (fun q hq => ⟨gu_off hq, rfl⟩) e1 z oq) (oq _ (Nat.ne_of_lt (Nat.lt_of_lt_of_le hw.2.2 hb0)))) (gLocs hf hb0)
theorem G_zast {a : Nat} {i x : Int32} (hd : gD X pc .bastore 1 pc') (ht : T.1 a = 101) (hin : vp_in i (T.2.1 a)) (hx : x = 0 ∨ x = 1) (kk : G E X pc' ls st T (gu gi a i.toNatClampNeg x) gr k n Q) : G E X pc ls (.int x :: .int i :: .ref a :: st) T gi gr k n Q := by
  obtain ⟨hd, rfl⟩ := hd
  intro p e s m args below meth c Z hc hr H locs lsA hl hw hf
  obtain ⟨hb0, cell, hcell, hat⟩ := hw.1.2.2 a (by rw [ht]; decide)
  have hce := hat.2 1 ht
  subst hce
  refine W.zast hc.1 hc.2.1 hcell ((gK_arr hc.2.2.2.2.2.2.2.2 (q := 1) (by decide)).1 _ _) (fun q => by cases q) (by rw [arrV_size]; exact hin) rfl rfl hd fun H1 e1 z oq => ?_
  rw [nr_z hx, arrV_store, gav_I (by decide)] at e1
  exact kk p e s m args below meth c Z hc hr H1 _ lsA hl (gW_to hw (gMem_arr (t := 1) hw.1 ht (fun q hq => ⟨gu_off hq, rfl⟩) e1 z oq) (oq _ (Nat.ne_of_lt (Nat.lt_of_lt_of_le hw.2.2 hb0)))) (gLocs hf hb0)
theorem G_aast (t : Nat) {a v ci : Nat} {i : Int32} {C : String} {Tb : u_T} {N : Nat} (hd : gD X pc .aastore 1 pc') (h2 : t = 2 ∨ t = 3) (ht : T.1 a = 100 + t) (hin : vp_in i (T.2.1 a)) (hv : T.1 v = ci + 1) (hcl : vwCl[ci]? = some (C, Tb, N)) (hC : gAT t = .object C) (kk : G E X pc' ls st T gi (gu gr a i.toNatClampNeg (some v)) k n Q) : G E X pc ls (.ref v :: .int i :: .ref a :: st) T gi gr k n Q := by
  obtain ⟨hd, rfl⟩ := hd
  intro p e s m args below meth c Z hc hr H locs lsA hl hw hf
  obtain ⟨hb0, cell, hcell, hat⟩ := hw.1.2.2 a (by rw [ht]; omega)
  have hce := hat.2 t ht
  subst hce
  obtain ⟨hb1, cellV, g1, hatV⟩ := hw.1.2.2 v (by rw [hv]; exact Nat.succ_ne_zero _)
  obtain ⟨g2, g3, -⟩ := hatV.1 ci _ hv hcl
  have hK := hc.2.2.2.2.2.2.2.2
  have hcls := (hK.1.1 ci _ hcl).2
  have hra := (gK_arr hK (q := t) (by omega)).2
  rw [hC] at hra
  obtain ⟨kA, comp, k1, k2, k3, -⟩ := hra
  have hcomp : comp = E.2.1.1 ci := Option.some.inj (k3.symm.trans hcls.1)
  subst hcomp
  obtain ⟨kC, hkC, -⟩ := hcls.2
  have hlt : i.toNatClampNeg < T.2.1 a := Nat.not_le.mp fun q => hin (Or.inr q)
  refine W.aast hc.1 hc.2.1 hcell (fun q h => by cases h) (fun h => by cases h) k1 k2 rfl hkC ⟨fun q => hin (Or.inl q), by rw [arrV_size]; exact hlt⟩ g1 (fun q h => by rw [g3] at h; cases h) (by rw [g2]; exact hkC) (by rw [g2]; exact va_assign hcls) rfl rfl hd fun H1 e1 z oq => ?_
  rw [arrV_store, show (Value.ref v) = va_rf (some v) from rfl, gav_R (by omega)] at e1
  exact kk p e s m args below meth c Z hc hr H1 _ lsA hl (gW_to hw (gMem_arr (t := t) hw.1 ht (fun q hq => ⟨rfl, gu_off hq⟩) e1 z oq) (oq _ (Nat.ne_of_lt (Nat.lt_of_lt_of_le hw.2.2 hb0)))) (gLocs hf hb0)
theorem G_aastN (t : Nat) {a : Nat} {i : Int32} {C : String} (hd : gD X pc .aastore 1 pc') (h2 : t = 2 ∨ t = 3) (ht : T.1 a = 100 + t) (hin : vp_in i (T.2.1 a)) (hC : gAT t = .object C) (kk : G E X pc' ls st T gi (gu gr a i.toNatClampNeg none) k n Q) : G E X pc ls (.null :: .int i :: .ref a :: st) T gi gr k n Q := by
  obtain ⟨hd, rfl⟩ := hd
  intro p e s m args below meth c Z hc hr H locs lsA hl hw hf
  obtain ⟨hb0, cell, hcell, hat⟩ := hw.1.2.2 a (by rw [ht]; omega)
  have hce := hat.2 t ht
  subst hce
  have har := (gK_arr hc.2.2.2.2.2.2.2.2 (q := t) (by omega)).1
  rw [hC] at har
  refine va_WaastN (C := C) hc.1 hc.2.1 hcell (har _ _) (fun h => by cases h) (by rw [arrV_size]; exact hin) rfl rfl hd fun H1 e1 z oq => ?_
  rw [arrV_store, show (Value.null) = va_rf none from rfl, gav_R (by omega)] at e1
  exact kk p e s m args below meth c Z hc hr H1 _ lsA hl (gW_to hw (gMem_arr (t := t) hw.1 ht (fun q hq => ⟨rfl, gu_off hq⟩) e1 z oq) (oq _ (Nat.ne_of_lt (Nat.lt_of_lt_of_le hw.2.2 hb0)))) (gLocs hf hb0)
theorem gav_0 (q n : Nat) (cA : ClassId) (hq : q < 5) : arrV cA n (fun _ => defaultValue (gAT q)) = arrV cA n (gav q (fun _ => 0) (fun _ => none)) := by
  congr 1
  funext j
  match q, hq with
  | 0, _ => rfl
  | 1, _ => rfl
  | 2, _ => rfl
  | 3, _ => rfl
  | 4, _ => rfl
theorem gAt_arr {q len : Nat} {cell : Cell} {fi : Nat → Int32} {fr : Nat → Option Nat} (h : cell = arrV (E.2.2.1 q) len (gav q fi fr)) : gAt E (100 + q) len fi fr cell := by
  refine ⟨fun ci r e1 e2 => ?_, fun q' e => ?_⟩
  · have := vwCl_lt e2
    omega
  · have : q' = q := by omega
    subst this
    exact h
theorem G_newa (q : Nat) {ty : ArrayType} {x : Int32} {len : Nat} (hd : gD X pc (.newarray ty) 2 pc') (hq : q < 2) (hty : newarray.typeOf ty = gAT q) (hwd : Cond.arrayClass (newarray.typeOf ty) ∈ gTbl) (hx : ¬ x < 0) (hN : x.toNatClampNeg = len) (hlen : len ≤ 100000) (hk : k + 1 ≤ X.2.2.2.2.cells) (hn : n + len ≤ X.2.2.2.2.slots)
    (kk : G E X pc' ls (.ref T.2.2 :: st) (gNew T (100 + q) len) (gup gi T.2.2 (fun _ => 0)) (gup gr T.2.2 (fun _ => none)) (k + 1) (n + len) Q) : G E X pc ls (.int x :: st) T gi gr k n Q := by
  obtain ⟨hd, rfl⟩ := hd
  intro p e s m args below meth c Z hc hr H locs lsA hl hw hf
  have hbytes : len * componentBytes (newarray.typeOf ty) ≤ 536870912 := by
    have : componentBytes (newarray.typeOf ty) ≤ 8 := by cases ty <;> decide
    calc len * componentBytes (newarray.typeOf ty) ≤ 100000 * 8 := Nat.mul_le_mul hlen this
      _ ≤ 536870912 := by decide
  refine va_newaK hc.1 hc.2.1 (hc.2.2.2.2.2.2.1 _ hwd) rfl hd rfl hx hN hbytes hk hn rfl fun H1 cA e1 z1 o1 hAr hNm => ?_
  have hra := (gK_arr hc.2.2.2.2.2.2.2.2 (q := q) (by omega)).2
  have hcA : cA = E.2.2.1 q := by
    rw [hty] at hNm
    have h2 : s.vm.findClass ("[" ++ (gAT q).toString) = some (E.2.2.1 q) := by
      match q, hq with
      | 0, _ => exact hra
      | 1, _ => exact hra
    exact Option.some.inj (hNm.symm.trans h2)
  subst hcA
  rw [hty, gav_0 q len _ (by omega)] at e1
  have := kk p e s m args below meth c Z hc hr H1 locs lsA hl (gW_to hw (gMem_new hw.1 e1 z1 o1 (gAt_arr rfl)) (o1 _ (by rw [hw.1.1]; exact Nat.lt_of_lt_of_le hw.2.2 hw.1.2.1))) hf
  rw [hw.1.1]
  exact this
theorem G_anew (q : Nat) {idx : Nat} {C : String} {x : Int32} {len : Nat} (hd : gD X pc (.anewarray idx) 3 pc') (hq : q = 2 ∨ q = 3) (hC : gAT q = .object C) (hwd : Cond.classLink X.1.cls idx C ∈ gTbl) (hx : ¬ x < 0) (hN : x.toNatClampNeg = len) (hlen : len ≤ 100000) (hk : k + 1 ≤ X.2.2.2.2.cells) (hn : n + len ≤ X.2.2.2.2.slots)
    (kk : G E X pc' ls (.ref T.2.2 :: st) (gNew T (100 + q) len) (gup gi T.2.2 (fun _ => 0)) (gup gr T.2.2 (fun _ => none)) (k + 1) (n + len) Q) : G E X pc ls (.int x :: st) T gi gr k n Q := by
  obtain ⟨hd, rfl⟩ := hd
  intro p e s m args below meth c Z hc hr H locs lsA hl hw hf
  subst hN
  have hK := hc.2.2.2.2.2.2.2.2
  have hover : va_AO C s := by
    rcases hq with rfl | rfl
    · cases hC; exact hK.2.2.1
    · cases hC; exact hK.2.2.2.1
  refine W.anew hc.1 hc.2.1 hc.2.2.2.2.2.1 (hc.2.2.2.2.2.2.1 _ hwd) (va_AO.use hover) rfl hd rfl hx (by omega) hk hn fun cA kA comp f1 f2 f3 f4 => ?_
  have hra := (gK_arr hK (q := q) (by omega)).2
  rw [hC] at hra
  obtain ⟨kA', comp', k1, k2, k3, k4⟩ := hra
  have hcA : cA = E.2.2.1 q := Option.some.inj (f1.symm.trans k4)
  subst hcA
  generalize hH1 : H.push ({ cls := E.2.2.1 q, slots := Array.replicate x.toNatClampNeg .null, vm := .none } : Cell) = H1
  have z1 : H1.size = H.size + 1 := by rw [← hH1, Array.size_push]
  have e1 : H1[H.size]? = some (arrV (E.2.2.1 q) x.toNatClampNeg (gav q (fun _ => 0) (fun _ => none))) := by
    rw [← hH1, Array.getElem?_push_size, arrV_new, ← gav_0 q _ _ (by omega), hC]
    rfl
  have o1 : ∀ q : Nat, q < H.size → H1[q]? = H[q]? := fun q hq => by rw [← hH1, Array.getElem?_push, if_neg (Nat.ne_of_lt hq)]
  have := kk p e s m args below meth c Z hc hr H1 locs lsA hl (gW_to hw (gMem_new hw.1 e1 z1 o1 (gAt_arr rfl)) (o1 _ (by rw [hw.1.1]; exact Nat.lt_of_lt_of_le hw.2.2 hw.1.2.1))) hf
  rw [hw.1.1]
  exact this
def gNw (own : String) (idx ci N : Nat) : Prop := ∃ (C : String) (Tb : u_T) (ty : Nat → FieldType), gCls ci C Tb N ty ∧ (∀ k, k < N → defaultValue (ty k) = gfv Tb k (fun _ => 0) (fun _ => none)) ∧ Cond.classLink own idx C ∈ gTbl ∧ Cond.instantiable C N ∈ gTbl ∧ Cond.initialized C ∈ gTbl
theorem G_new {idx ci N : Nat} (f : gNw X.1.cls idx ci N) (hd : gD X pc (.new idx) 3 pc') (hk : k + 1 ≤ X.2.2.2.2.cells) (hn : n + N ≤ X.2.2.2.2.slots)
    (kk : G E X pc' ls (.ref T.2.2 :: st) (gNew T (ci + 1) 0) (gup gi T.2.2 (fun _ => 0)) (gup gr T.2.2 (fun _ => none)) (k + 1) (n + N) Q) : G E X pc ls st T gi gr k n Q := by
  obtain ⟨C, Tb, ty, ⟨hcl, hin, hty, hnm⟩, hdf, w1, w2, w3⟩ := f
  obtain ⟨hd, rfl⟩ := hd
  intro p e s m args below meth c Z hc hr H locs lsA hl hw hf
  have hts := hc.2.2.2.2.2.2.1
  have hK := hc.2.2.2.2.2.2.2.2
  have hKn := hK.1.1 ci _ hcl
  refine W.newcK hc.1 hc.2.1 hc.2.2.2.2.2.1 (hts _ w1) (hts _ w2) (hts _ w3) rfl hd hk hn hKn.2.1 rfl fun H1 kC hkC e1 z1 o1 => ?_
  obtain ⟨cell, g1, g2, g3, g4⟩ := u_born ty hts hin hKn hkC e1 hty
  have hat : gAt E (ci + 1) 0 (fun _ => 0) (fun _ => none) cell := by
    refine ⟨fun ci' r a1 a2 => ?_, fun q a1 => ?_⟩
    · have : ci' = ci := by omega
      subst this
      rw [hcl] at a2
      cases a2
      exact ⟨g2, g3, fun j hj => by rw [g4 j hj]; exact congrArg some (hdf j hj)⟩
    · have := vwCl_lt hcl
      omega
  have := kk p e s m args below meth c Z hc hr H1 locs lsA hl (gW_to hw (gMem_new hw.1 g1 z1 o1 hat) (o1 _ (by rw [hw.1.1]; exact Nat.lt_of_lt_of_le hw.2.2 hw.1.2.1))) hf
  rw [hw.1.1]
  exact this
theorem G_objInit {idx a : Nat} (w1 : Cond.methodLink X.1.cls idx objectInit ∈ gTbl) (w2 : Cond.instanceMethod objectInit ∈ gTbl) (w3 : Cond.code objectInit ⟨#[0xb1]⟩ 1 none ∈ gTbl) (hd : gD X pc (.invokespecial idx) 3 pc') (hfr : 1 ≤ X.2.2.2.2.frames) (hlo : (st.map fun v => v.category).sum + 12 ≤ X.2.2.2.2.locals) (kk : G E X pc' ls st T gi gr k n Q) : G E X pc ls (.ref a :: st) T gi gr k n Q := by
  obtain ⟨hd, rfl⟩ := hd
  intro p e s m args below meth c Z hc hr H locs lsA hl hw hf
  have hts := hc.2.2.2.2.2.2.1
  exact W.objInit hc.1 hc.2.1 hc.2.2.2.2.2.1 (hts _ w1) (hts _ w2) (hts _ w3) rfl (by rw [hc.2.2.1]; exact hl.1) rfl hd hfr (by show 2 * 0 + _ + 12 ≤ _; omega) (kk p e s m args below meth c Z hc hr H locs lsA hl hw hf)
theorem G_mmax {idx : Nat} {x y : Int32} (w1 : Cond.methodLink X.1.cls idx Lib.Math.max.name ∈ gTbl) (w2 : Cond.static Lib.Math.max.name ∈ gTbl) (w3 : Cond.initialized "java/lang/Math" ∈ gTbl) (w4 : Cond.code Lib.Math.max.name Lib.Math.max.code 2 (some .int) ∈ gTbl) (hd : gD X pc (.invokestatic idx) 3 pc') (hfr : 1 ≤ X.2.2.2.2.frames) (hlo : (st.map fun v => v.category).sum + 13 ≤ X.2.2.2.2.locals) (hk : k ≤ X.2.2.2.2.cells) (hn : n ≤ X.2.2.2.2.slots) (kk : G E X pc' ls (.int (if x < y then y else x) :: st) T gi gr k n Q) : G E X pc ls (.int y :: .int x :: st) T gi gr k n Q := by
  obtain ⟨hd, rfl⟩ := hd
  intro p e s m args below meth c Z hc hr H locs lsA hl hw hf
  have hts := hc.2.2.2.2.2.2.1
  exact va_mmax hc.1 hc.2.1 (by rw [hc.2.2.1]; exact hl.1.symm) hc.2.2.2.2.2.1 (hts _ w1) (hts _ w2) (hts _ w3) (hts _ w4) hfr hlo hk hn hd (kk p e s m args below meth c Z hc hr H locs lsA hl hw hf)
theorem G_mmin {idx : Nat} {x y : Int32} (w1 : Cond.methodLink X.1.cls idx Lib.Math.min.name ∈ gTbl) (w2 : Cond.static Lib.Math.min.name ∈ gTbl) (w3 : Cond.initialized "java/lang/Math" ∈ gTbl) (w4 : Cond.code Lib.Math.min.name Lib.Math.min.code 2 (some .int) ∈ gTbl) (hd : gD X pc (.invokestatic idx) 3 pc') (hfr : 1 ≤ X.2.2.2.2.frames) (hlo : (st.map fun v => v.category).sum + 13 ≤ X.2.2.2.2.locals) (hk : k ≤ X.2.2.2.2.cells) (hn : n ≤ X.2.2.2.2.slots) (kk : G E X pc' ls (.int (if y < x then y else x) :: st) T gi gr k n Q) : G E X pc ls (.int y :: .int x :: st) T gi gr k n Q := by
  obtain ⟨hd, rfl⟩ := hd
  intro p e s m args below meth c Z hc hr H locs lsA hl hw hf
  have hts := hc.2.2.2.2.2.2.1
  exact va_mmin hc.1 hc.2.1 (by rw [hc.2.2.1]; exact hl.1.symm) hc.2.2.2.2.2.1 (hts _ w1) (hts _ w2) (hts _ w3) (hts _ w4) hfr hlo hk hn hd (kk p e s m args below meth c Z hc hr H locs lsA hl hw hf)
theorem G_mabs {idx : Nat} {x : Int32} (w1 : Cond.methodLink X.1.cls idx Lib.Math.abs.name ∈ gTbl) (w2 : Cond.static Lib.Math.abs.name ∈ gTbl) (w3 : Cond.initialized "java/lang/Math" ∈ gTbl) (w4 : Cond.code Lib.Math.abs.name Lib.Math.abs.code 1 (some .int) ∈ gTbl) (hd : gD X pc (.invokestatic idx) 3 pc') (hfr : 1 ≤ X.2.2.2.2.frames) (hlo : (st.map fun v => v.category).sum + 13 ≤ X.2.2.2.2.locals) (hk : k ≤ X.2.2.2.2.cells) (hn : n ≤ X.2.2.2.2.slots) (kk : G E X pc' ls (.int (if 0 ≤ x then x else 0 - x) :: st) T gi gr k n Q) : G E X pc ls (.int x :: st) T gi gr k n Q := by
  obtain ⟨hd, rfl⟩ := hd
  intro p e s m args below meth c Z hc hr H locs lsA hl hw hf
  have hts := hc.2.2.2.2.2.2.1
  exact va_mabs hc.1 hc.2.1 (by rw [hc.2.2.1]; exact hl.1.symm) hc.2.2.2.2.2.1 (hts _ w1) (hts _ w2) (hts _ w3) (hts _ w4) hfr hlo hk hn hd (kk p e s m args below meth c Z hc hr H locs lsA hl hw hf)
end GF
def Ct (E : gE) (X : gX) (As : List Value) (T : gT) (gi : gI) (gr : gR) (Q : gQ) : Prop :=
  Met E.1 X.1 (gws X) X.2.2.2.2 (fun a U => a = As.toArray ∧ gW E T gi gr U U.heap ∧ gK E U) (fun _ _ o t => ∃ (T' : gT) (gi' : gI) (gr' : gR) (v : Option Value), o = .returned v ∧ Q T' gi' gr' v ∧ gW E T' gi' gr' t t.heap ∧ gK E t) X.2.2.2.2.cells X.2.2.2.2.slots (fun q => gbase E ≤ q)
theorem gK_warm {E : gE} {s U : State} (hW : s.WarmedH U.vm) (h : gK E s) : gK E U := by
  obtain ⟨h1, h2, h3, h4, h5⟩ := h
  exact ⟨va_K.moved hW.alike h1, gNest_warm hW h2, va_AO.moved hW.alike h3, va_AO.moved hW.alike h4, over_moved hW.alike h5⟩
theorem gK_call {E : gE} {U : State} {g : JFrame} {mk : MethodId} {a : Array Value} (h : gK E U) : gK E (U.calling g mk a) := by
  obtain ⟨h1, h2, h3, h4, h5⟩ := h
  exact ⟨va_K.moved (u := U) (U := U.calling g mk a) (Vm.Alike.refl U.vm) h1, fun w hw => gNest_same hw (rfl : U.vm = (U.calling g mk a).vm) (h2 w hw), va_AO.moved (u := U) (U := U.calling g mk a) (Vm.Alike.refl U.vm) h3, va_AO.moved (u := U) (U := U.calling g mk a) (Vm.Alike.refl U.vm) h4, over_moved (u := U) (E := U.calling g mk a) (Vm.Alike.refl U.vm) h5⟩
theorem gW_moved {E : gE} {T : gT} {gi : gI} {gr : gR} {u U : State} {H : Heap} (hvm : u.vm.Alike U.vm) (h : gW E T gi gr u H) : gW E T gi gr U H := ⟨h.1, h.2.1.moved hvm, h.2.2⟩
theorem lv_args_in : ∀ (As : List Value) (i : Nat), (∀ v ∈ As, v.category = 1) → ∀ (j : Nat) (v : Value), As[j]? = some v → (i + j, v) ∈ lv_args i As
  | [], i, _, j, v, h => by simp at h
  | a :: As, i, hc, j, v, h => by
    have ha : a.category = 1 := hc a List.mem_cons_self
    cases j with
    | zero =>
      rw [List.getElem?_cons_zero] at h
      cases h
      exact List.mem_cons_self
    | succ j =>
      rw [List.getElem?_cons_succ] at h
      refine List.mem_cons_of_mem _ ?_
      rw [if_neg (by omega), show i + (j + 1) = (i + 1) + j by omega]
      exact lv_args_in As (i + 1) (fun v hv => hc v (List.mem_cons_of_mem _ hv)) j v h
theorem lg_sl_len : ∀ (As : List Value), (∀ v ∈ As, v.category = 1) → (lg_sl As).length = As.length
  | [], _ => rfl
  | a :: As, hc => by
    have ha : a.category = 1 := hc a List.mem_cons_self
    have ih := lg_sl_len As (fun v hv => hc v (List.mem_cons_of_mem _ hv))
    simp only [lg_sl, List.flatMap_cons, ha] at ih ⊢
    simp [ih]
theorem gL_entry {As : List Value} {nL : Nat} (hc : ∀ v ∈ As, v.category = 1) (hl : As.length ≤ nL) : gL (As ++ List.replicate (nL - As.length) (.long 0)) nL ((lg_sl As ++ List.replicate (nL - (lg_sl As).length) Slot.unset).toArray) := by
  refine gL_of (lv_entry As (by rw [lg_sl_len As hc]; exact hl)) fun q hq => ?_
  obtain ⟨j, v⟩ := q
  obtain ⟨h1, h2⟩ := gl_mem.mp hq
  by_cases hj : j < As.length
  · rw [List.getElem?_append_left hj] at h1
    have := lv_args_in As 0 hc j v h1
    rwa [Nat.zero_add] at this
  · rw [List.getElem?_append_right (by omega), List.getElem?_replicate] at h1
    split at h1
    · cases h1; cases h2
    · cases h1
theorem Ct_of {E : gE} {X : gX} {As ls : List Value} {T : gT} {gi : gI} {gr : gR} {Q : gQ} (hpl : plainName X.1.cls = true) (hcat : ∀ v ∈ As, v.category = 1) (hl : As.length ≤ X.2.2.1) (hls : As ++ List.replicate (X.2.2.1 - As.length) (.long 0) = ls) (hG : G E X 0 ls [] T gi gr 0 0 Q) : Ct E X As T gi gr Q := by
  subst hls
  refine Met.ofW (cc := X.2.1) (maxL := X.2.2.1) (ret := X.2.2.2.1) hpl rfl ?_
  intro p e s m args below meth c s₁ B hml hv
  obtain ⟨rfl, hW, hK⟩ := hv
  have hts := atoms_spec (ws := gws X) B.pre
  rw [lg_entry_eq]
  have hlocks := B.notSynchronized
  refine hG p e s m _ below meth c _ ⟨B.exec, B.bytes, hml, B.returns, hlocks, findClass_of_methodNamed B.named, fun w hw => hts w (List.mem_cons_of_mem _ hw), (name_of_methodNamed B.named B.method).1, hK⟩ ?_ s.heap [] _ (gL_entry hcat hl) hW (fun q hq => by cases hq)
  intro T' gi' gr' v H' locs' lsA pc' hq hw hf hrt
  have fin : ∀ t : State, t.heap = H' → s.WarmedH t.vm → ∃ (T' : gT) (gi' : gI) (gr' : gR) (v' : Option Value), (Outcome.returned v) = .returned v' ∧ Q T' gi' gr' v' ∧ gW E T' gi' gr' t t.heap ∧ gK E t := fun t ht hwm => ⟨T', gi', gr', v, rfl, hq, by rw [ht]; exact gW_moved hwm.alike hw, gK_warm hwm hK⟩
  have hret := B.returns
  cases v with
  | none => exact W.vret B.exec B.bytes (by rw [hret]; exact hrt.2) fin hf hrt.1
  | some v =>
    cases v with
    | int x =>
      obtain ⟨h1, ty, h2, h3⟩ := hrt
      exact W.zret B.exec B.bytes (by rw [hret]; exact h2) h3 fin hf h1
    | null =>
      obtain ⟨h1, h2, C, h3⟩ := hrt
      exact W.aret B.exec B.bytes (by rw [hret]; exact h3) (Or.inl ⟨C, rfl⟩) h2 fin hf h1
    | ref a =>
      obtain ⟨h1, h2, C, h3⟩ := hrt
      exact W.aret B.exec B.bytes (by rw [hret]; exact h3) (Or.inl ⟨C, rfl⟩) h2 fin hf h1
    | long x => obtain ⟨h1, h2, C, h3⟩ := hrt; rcases h2 with h2 | ⟨a, h2⟩ <;> cases h2
    | float x => obtain ⟨h1, h2, C, h3⟩ := hrt; rcases h2 with h2 | ⟨a, h2⟩ <;> cases h2
    | double x => obtain ⟨h1, h2, C, h3⟩ := hrt; rcases h2 with h2 | ⟨a, h2⟩ <;> cases h2
    | retAddr x => obtain ⟨h1, h2, C, h3⟩ := hrt; rcases h2 with h2 | ⟨a, h2⟩ <;> cases h2
section GC
variable {E : gE} {X Y : gX} {pc pc' : Nat} {ls st : List Value} {T : gT} {gi : gI} {gr : gR} {k n : Nat} {Q Q1 : gQ}
theorem gws_good (X Y : gX) (h : Cond.code Y.1 Y.2.1 Y.2.2.1 Y.2.2.2.1 ∈ gTbl) : GoodIn gTbl (gws Y) := by
  intro w hw
  rcases List.mem_cons.mp hw with rfl | hw
  · exact ⟨h, gGood_or (List.mem_filter.mp h).2⟩
  · exact ⟨hw, gGood_or (List.mem_filter.mp hw).2⟩
def gCall (X Y : gX) (na : Nat) : Prop := Cond.code Y.1 Y.2.1 Y.2.2.1 Y.2.2.2.1 ∈ gTbl ∧ Cond.initialized Y.1.cls ∈ gTbl ∧ (Y.1.cls ≠ "java/lang/invoke/MethodHandle" ∧ Y.1.cls ≠ "java/lang/invoke/VarHandle" ∧ (parseMethodDescriptor Y.1.desc).map (fun d => d.parameters.length) = some na) ∧ Y.2.2.2.2.frames + 1 ≤ X.2.2.2.2.frames ∧ 8 + (Y.2.2.1 + 11) + Y.2.2.2.2.locals ≤ X.2.2.2.2.locals
theorem gBlind {As : List Value} : FrameBlind (fun a U => a = As.toArray ∧ gW E T gi gr U U.heap ∧ gK E U) := fun a U g mk h => ⟨h.1, gW_moved (u := U) (U := U.calling g mk a) (Vm.Alike.refl U.vm) h.2.1, gK_call h.2.2⟩
theorem gPre {s : State} {H : Heap} {As : List Value} (hw : gW E T gi gr s H) (hK : gK E s) : PreS s H (fun a U => a = As.toArray ∧ gW E T gi gr U U.heap ∧ gK E U) As := ⟨gBlind, fun U hU hW => ⟨rfl, by rw [hU]; exact gW_moved hW.alike hw, gK_warm hW hK⟩⟩
theorem G_after {rest : List Value} {p : Program} {e : Env} {s : State} {m : MethodId} {args : Array Value} {below : List Frame} {meth : Method} {c : Code} {Z : State → Prop} {H : Heap} {locs : List Loc} {lsA : Array Slot}
    (hr0 : va_Run p E.1 e X.2.2.2.2 s m args below meth c H locs k n Y.2.2.2.2.cells Y.2.2.2.2.slots (F0 m pc lsA st) rest (fun _ o t => ∃ (T' : gT) (gi' : gI) (gr' : gR) (v : Option Value), o = .returned v ∧ Q1 T' gi' gr' v ∧ gW E T' gi' gr' t t.heap ∧ gK E t) (fun q => gbase E ≤ q))
    (hc : gCx E X p s m args meth c) (hr : ∀ (T' : gT) (gi' : gI) (gr' : gR) (v : Option Value) (H' : Heap) (locs' : List Loc) (lsA : Array Slot) (pc' : Nat), Q T' gi' gr' v → gW E T' gi' gr' s H' → (∀ q ∈ locs', gbase E ≤ q.base) → gRt X pc' v → W p E.1 e X.2.2.2.2 s m args below meth c H' locs' X.2.2.2.2.cells X.2.2.2.2.slots Z (F0 m pc' lsA v.toList)) (hl : gL ls X.2.2.1 lsA) (hf : ∀ q ∈ locs, gbase E ≤ q.base)
    (kk : ∀ T' gi' gr' v, Q1 T' gi' gr' v → G E X (pc + 3) ls (v.toList ++ rest) T' gi' gr' (k + Y.2.2.2.2.cells) (n + Y.2.2.2.2.slots) Q) : W p E.1 e X.2.2.2.2 s m args below meth c H locs k n Z (F0 m pc lsA st) := by
  intro U hU X0
  obtain ⟨v, st₀, t, U', L, h0, X', hL, e1, e2, ⟨T', gi', gr', v', hv, hq, hw', hK'⟩, stp⟩ := hr0 U hU X0
  cases hv
  have hal : t.vm.Alike s.vm := by rw [← e2]; exact X'.warmed.alike.symm
  obtain ⟨t2, a1, b1⟩ := kk T' gi' gr' v hq p e s m args below meth c Z hc hr U'.heap (locs ++ L) lsA hl (by rw [e1]; exact gW_moved hal hw') (fun q hq => by
    rcases List.mem_append.mp hq with h | h
    · exact hf q h
    · exact hL q h) U' rfl X'
  exact ⟨t2, stp t2 a1, b1⟩
theorem G_callV {idx a ci : Nat} {As rest : List Value} {Tb : u_T} {N : Nat} (g : gCall X Y As.length) (w1 : Cond.methodLink X.1.cls idx Y.1 ∈ gTbl) (w2 : Cond.instanceMethod Y.1 ∈ gTbl) (w3 : Cond.selects Y.1.cls Y.1 Y.1 ∈ gTbl) (hcl : vwCl[ci]? = some (Y.1.cls, Tb, N)) (hd : gD X pc (.invokevirtual idx) 3 pc') (hst : st = As.reverse ++ .ref a :: rest) (hrest : (rest.map fun v => v.category).sum ≤ 8) (ht : T.1 a = ci + 1) (hk : k + Y.2.2.2.2.cells ≤ X.2.2.2.2.cells ∧ n + Y.2.2.2.2.slots ≤ X.2.2.2.2.slots) (hC : Ct E Y (.ref a :: As) T gi gr Q1)
    (kk : ∀ T' gi' gr' v, Q1 T' gi' gr' v → G E X pc' ls (v.toList ++ rest) T' gi' gr' (k + Y.2.2.2.2.cells) (n + Y.2.2.2.2.slots) Q) : G E X pc ls st T gi gr k n Q := by
  obtain ⟨g1, g2, g3, g4⟩ := g
  obtain ⟨hd, rfl⟩ := hd
  intro p e s m args below meth c Z hc hr H locs lsA hl hw hf
  have hts := hc.2.2.2.2.2.2.1
  have hK := hc.2.2.2.2.2.2.2.2
  obtain ⟨hb0, cell, hcell, hat⟩ := hw.1.2.2 a (by rw [ht]; exact Nat.succ_ne_zero _)
  obtain ⟨q2, q3, q4⟩ := hat.1 ci _ ht hcl
  refine G_after (Y := Y) (Q1 := Q1) (va_runV (As := As) (rest := rest) (Ts := gTbl) (C := Y.1.cls) ⟨hc.1, hc.2.1, hc.2.2.1, hc.2.2.2.2.2.1, hts⟩ hC ⟨callB_of (ws' := gTbl) As.length hts (gws_good X Y g1) rfl rfl rfl (hts _ g2) (hts _ w1) g3 g4, hts _ w2, hts _ w3⟩ ⟨gBlind, ⟨cell, hcell, by rw [q3]; rfl, by rw [q2]; exact (hK.1.1 ci _ hcl).2.1⟩, (gPre hw hK).2⟩ rfl rfl hl.1 hst (lv_room hrest) hd hk) hc hr hl hf kk
theorem G_callS {idx : Nat} {As rest : List Value} (g : gCall X Y As.length) (w1 : Cond.methodLink X.1.cls idx Y.1 ∈ gTbl) (w2 : Cond.static Y.1 ∈ gTbl) (hd : gD X pc (.invokestatic idx) 3 pc') (hst : st = As.reverse ++ rest) (hrest : (rest.map fun v => v.category).sum ≤ 8) (hk : k + Y.2.2.2.2.cells ≤ X.2.2.2.2.cells ∧ n + Y.2.2.2.2.slots ≤ X.2.2.2.2.slots) (hC : Ct E Y As T gi gr Q1)
    (kk : ∀ T' gi' gr' v, Q1 T' gi' gr' v → G E X pc' ls (v.toList ++ rest) T' gi' gr' (k + Y.2.2.2.2.cells) (n + Y.2.2.2.2.slots) Q) : G E X pc ls st T gi gr k n Q := by
  obtain ⟨g1, g2, g3, g4⟩ := g
  obtain ⟨hd, rfl⟩ := hd
  intro p e s m args below meth c Z hc hr H locs lsA hl hw hf
  have hts := hc.2.2.2.2.2.2.1
  have hK := hc.2.2.2.2.2.2.2.2
  refine G_after (Y := Y) (Q1 := Q1) (va_runS (As := As) (rest := rest) (Ts := gTbl) ⟨hc.1, hc.2.1, hc.2.2.1, hc.2.2.2.2.2.1, hts⟩ hC ⟨callB_of (ws' := gTbl) As.length hts (gws_good X Y g1) rfl rfl rfl (hts _ g2) (hts _ w1) g3 g4, hts _ w2⟩ (gPre hw hK) rfl rfl hl.1 hst (lv_room hrest) hd hk) hc hr hl hf kk
theorem G_callSN {idx : Nat} {host : String} {As rest : List Value} (g : gCall X Y As.length) (w1 : Cond.methodLinkNest X.1.cls idx Y.1 host ∈ gNest) (w2 : Cond.static Y.1 ∈ gTbl) (hd : gD X pc (.invokestatic idx) 3 pc') (hst : st = As.reverse ++ rest) (hrest : (rest.map fun v => v.category).sum ≤ 8) (hk : k + Y.2.2.2.2.cells ≤ X.2.2.2.2.cells ∧ n + Y.2.2.2.2.slots ≤ X.2.2.2.2.slots) (hC : Ct E Y As T gi gr Q1)
    (kk : ∀ T' gi' gr' v, Q1 T' gi' gr' v → G E X pc' ls (v.toList ++ rest) T' gi' gr' (k + Y.2.2.2.2.cells) (n + Y.2.2.2.2.slots) Q) : G E X pc ls st T gi gr k n Q := by
  obtain ⟨g1, g2, g3, g4⟩ := g
  obtain ⟨hd, rfl⟩ := hd
  intro p e s m args below meth c Z hc hr H locs lsA hl hw hf
  have hts := hc.2.2.2.2.2.2.1
  have hK := hc.2.2.2.2.2.2.2.2
  refine G_after (Y := Y) (Q1 := Q1) (va_runSN (As := As) (rest := rest) (Ts := gTbl) ⟨hc.1, hc.2.1, hc.2.2.1, hc.2.2.2.2.2.1, hts⟩ hC ⟨va_cnB (ws' := gTbl) As.length hts (gws_good X Y g1) rfl rfl rfl (hK.2.1 _ w1) (hts _ g2) g3 g4, hts _ w2, trivial⟩ (gPre hw hK) rfl rfl hl.1 hst (lv_room hrest) hd hk) hc hr hl hf kk
theorem G_callI {idx a : Nat} {As rest : List Value} (g : gCall X Y As.length) (w1 : Cond.methodLink X.1.cls idx Y.1 ∈ gTbl) (w2 : Cond.instanceMethod Y.1 ∈ gTbl) (hnm : Y.1.name = "<init>") (hret : Y.2.2.2.1 = none) (hd : gD X pc (.invokespecial idx) 3 pc') (hst : st = As.reverse ++ .ref a :: rest) (hrest : (rest.map fun v => v.category).sum ≤ 8) (hk : k + Y.2.2.2.2.cells ≤ X.2.2.2.2.cells ∧ n + Y.2.2.2.2.slots ≤ X.2.2.2.2.slots) (hC : Ct E Y (.ref a :: As) T gi gr Q1)
    (kk : ∀ T' gi' gr' v, Q1 T' gi' gr' v → G E X pc' ls (v.toList ++ rest) T' gi' gr' (k + Y.2.2.2.2.cells) (n + Y.2.2.2.2.slots) Q) : G E X pc ls st T gi gr k n Q := by
  obtain ⟨g1, g2, g3, g4⟩ := g
  obtain ⟨hd, rfl⟩ := hd
  intro p e s m args below meth c Z hc hr H locs lsA hl hw hf
  have hts := hc.2.2.2.2.2.2.1
  have hK := hc.2.2.2.2.2.2.2.2
  have g1' : Cond.code Y.1 Y.2.1 Y.2.2.1 none ∈ gTbl := by rw [← hret]; exact g1
  refine G_after (Y := Y) (Q1 := Q1) (va_runI (As := As) (rest := rest) (Ts := gTbl) (bytes := Y.2.1) (maxL := Y.2.2.1) ⟨hc.1, hc.2.1, hc.2.2.1, hc.2.2.2.2.2.1, hts⟩ hC ⟨callB_of (ws' := gTbl) As.length hts (gws_good X Y g1) (by unfold gws; rw [hret]) rfl rfl (hts _ g2) (hts _ w1) g3 g4, hnm, hts _ w2⟩ (gPre hw hK) rfl rfl hl.1 hst (lv_room hrest) hd hk) hc hr hl hf kk
theorem G_callIN {idx a : Nat} {host : String} {As rest : List Value} (g : gCall X Y As.length) (w1 : Cond.methodLinkNest X.1.cls idx Y.1 host ∈ gNest) (w2 : Cond.instanceMethod Y.1 ∈ gTbl) (hnm : Y.1.name = "<init>") (hret : Y.2.2.2.1 = none) (hd : gD X pc (.invokespecial idx) 3 pc') (hst : st = As.reverse ++ .ref a :: rest) (hrest : (rest.map fun v => v.category).sum ≤ 8) (hk : k + Y.2.2.2.2.cells ≤ X.2.2.2.2.cells ∧ n + Y.2.2.2.2.slots ≤ X.2.2.2.2.slots) (hC : Ct E Y (.ref a :: As) T gi gr Q1)
    (kk : ∀ T' gi' gr' v, Q1 T' gi' gr' v → G E X pc' ls (v.toList ++ rest) T' gi' gr' (k + Y.2.2.2.2.cells) (n + Y.2.2.2.2.slots) Q) : G E X pc ls st T gi gr k n Q := by
  obtain ⟨g1, g2, g3, g4⟩ := g
  obtain ⟨hd, rfl⟩ := hd
  intro p e s m args below meth c Z hc hr H locs lsA hl hw hf
  have hts := hc.2.2.2.2.2.2.1
  have hK := hc.2.2.2.2.2.2.2.2
  refine G_after (Y := Y) (Q1 := Q1) (va_runIN (As := As) (rest := rest) (Ts := gTbl) (bytes := Y.2.1) (maxL := Y.2.2.1) ⟨hc.1, hc.2.1, hc.2.2.1, hc.2.2.2.2.2.1, hts⟩ hC ⟨va_cnB (ws' := gTbl) As.length hts (gws_good X Y g1) (by unfold gws; rw [hret]) rfl rfl (hK.2.1 _ w1) (hts _ g2) g3 g4, hnm, hts _ w2⟩ (gPre hw hK) rfl rfl hl.1 hst (lv_room hrest) hd hk) hc hr hl hf kk
end GC
section GN
variable {E : gE} {X : gX} {pc pc' : Nat} {ls st st' : List Value} {T : gT} {gi : gI} {gr : gR} {k n : Nat} {Q : gQ}
theorem G_st (h : st = st') (kk : G E X pc ls st' T gi gr k n Q) : G E X pc ls st T gi gr k n Q := by
  subst h
  exact kk
theorem vp_inN {j len a : Nat} {T : gT} (hl : T.2.1 a = len) (hj : j < len) (hb : len < 2 ^ 31) : vp_in (nI j) (T.2.1 a) := by
  rw [hl]
  exact vp_in_nI hj hb
theorem G_ialdN {a j len : Nat} (hd : gD X pc .iaload 1 pc') (ht : T.1 a = 100) (hl : T.2.1 a = len) (hb : len < 2 ^ 31) (hj : j < len) (kk : G E X pc' ls (.int (gi a j) :: st) T gi gr k n Q) : G E X pc ls (.int (nI j) :: .ref a :: st) T gi gr k n Q := by
  refine G_iald hd ht (vp_inN hl hj hb) ?_
  rw [nI_clamp (Nat.lt_trans hj hb)]
  exact kk
theorem G_zaldN {a j len : Nat} (hd : gD X pc .baload 1 pc') (ht : T.1 a = 101) (hl : T.2.1 a = len) (hb : len < 2 ^ 31) (hj : j < len) (kk : G E X pc' ls (.int (gi a j) :: st) T gi gr k n Q) : G E X pc ls (.int (nI j) :: .ref a :: st) T gi gr k n Q := by
  refine G_zald hd ht (vp_inN hl hj hb) ?_
  rw [nI_clamp (Nat.lt_trans hj hb)]
  exact kk
theorem G_aaldN (t : Nat) {a j len : Nat} (hd : gD X pc .aaload 1 pc') (h2 : 2 ≤ t ∧ t < 5) (ht : T.1 a = 100 + t) (hl : T.2.1 a = len) (hb : len < 2 ^ 31) (hj : j < len) (kk : G E X pc' ls (va_rf (gr a j) :: st) T gi gr k n Q) : G E X pc ls (.int (nI j) :: .ref a :: st) T gi gr k n Q := by
  refine G_aald t hd h2 ht (vp_inN hl hj hb) ?_
  rw [nI_clamp (Nat.lt_trans hj hb)]
  exact kk
theorem G_aaldsN (t : Nat) {a j len q : Nat} (hd : gD X pc .aaload 1 pc') (h2 : 2 ≤ t ∧ t < 5) (ht : T.1 a = 100 + t) (hl : T.2.1 a = len) (hb : len < 2 ^ 31) (hj : j < len) (hq : gr a j = some q) (kk : G E X pc' ls (.ref q :: st) T gi gr k n Q) : G E X pc ls (.int (nI j) :: .ref a :: st) T gi gr k n Q := G_aaldN t hd h2 ht hl hb hj (by rw [hq]; exact kk)
theorem G_iastN {a j len : Nat} {x : Int32} (hd : gD X pc .iastore 1 pc') (ht : T.1 a = 100) (hl : T.2.1 a = len) (hb : len < 2 ^ 31) (hj : j < len) (kk : G E X pc' ls st T (gu gi a j x) gr k n Q) : G E X pc ls (.int x :: .int (nI j) :: .ref a :: st) T gi gr k n Q := by
  refine G_iast hd ht (vp_inN hl hj hb) ?_
  rw [nI_clamp (Nat.lt_trans hj hb)]
  exact kk
theorem G_zastN {a j len : Nat} {x : Int32} (hd : gD X pc .bastore 1 pc') (ht : T.1 a = 101) (hl : T.2.1 a = len) (hb : len < 2 ^ 31) (hj : j < len) (hx : x = 0 ∨ x = 1) (kk : G E X pc' ls st T (gu gi a j x) gr k n Q) : G E X pc ls (.int x :: .int (nI j) :: .ref a :: st) T gi gr k n Q := by
  refine G_zast hd ht (vp_inN hl hj hb) hx ?_
  rw [nI_clamp (Nat.lt_trans hj hb)]
  exact kk
theorem G_aastsN (t : Nat) {a v ci j len : Nat} {C : String} {Tb : u_T} {N : Nat} (hd : gD X pc .aastore 1 pc') (h2 : t = 2 ∨ t = 3) (ht : T.1 a = 100 + t) (hl : T.2.1 a = len) (hb : len < 2 ^ 31) (hj : j < len) (hv : T.1 v = ci + 1) (hcl : vwCl[ci]? = some (C, Tb, N)) (hC : gAT t = .object C) (kk : G E X pc' ls st T gi (gu gr a j (some v)) k n Q) : G E X pc ls (.ref v :: .int (nI j) :: .ref a :: st) T gi gr k n Q := by
  refine G_aast t hd h2 ht (vp_inN hl hj hb) hv hcl hC ?_
  rw [nI_clamp (Nat.lt_trans hj hb)]
  exact kk
theorem G_aastNN (t : Nat) {a j len : Nat} {C : String} (hd : gD X pc .aastore 1 pc') (h2 : t = 2 ∨ t = 3) (ht : T.1 a = 100 + t) (hl : T.2.1 a = len) (hb : len < 2 ^ 31) (hj : j < len) (hC : gAT t = .object C) (kk : G E X pc' ls st T gi (gu gr a j none) k n Q) : G E X pc ls (.null :: .int (nI j) :: .ref a :: st) T gi gr k n Q := by
  refine G_aastN t hd h2 ht (vp_inN hl hj hb) hC ?_
  rw [nI_clamp (Nat.lt_trans hj hb)]
  exact kk
end GN
