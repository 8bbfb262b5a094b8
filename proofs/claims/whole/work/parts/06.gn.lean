theorem gn_outer (c : ClassId) (N h0 : Nat) : ∀ i : Nat, Jvm.Free.Multi.outerC c N h0 i = arrV c N (gav 4 (fun _ => 0) (fun j => if j < i then some (h0 + 1 + j) else none))
  | 0 => by
    show ({ cls := c, slots := Array.replicate N .null, vm := .none } : Cell) = _
    rw [arrV_new]
    refine congrArg (arrV c N) (funext fun j => ?_)
    simp [gav, va_rf]
  | i + 1 => by
    show (Jvm.Free.Multi.outerC c N h0 i).setSlot i (.ref (h0 + 1 + i)) = _
    rw [gn_outer c N h0 i, arrV_store]
    refine congrArg (arrV c N) (funext fun j => ?_)
    by_cases e : j = i
    · subst e
      simp [updV, gav, va_rf]
    · by_cases h : j < i
      · simp [updV, gav, e, h, Nat.lt_succ_of_lt h]
      · simp [updV, gav, e, h, show ¬ j < i + 1 by omega]
def gNM (T : gT) (N K : Nat) : gT := (fun q => if q = T.2.2 then 104 else if T.2.2 < q ∧ q ≤ T.2.2 + N then 100 else T.1 q, fun q => if q = T.2.2 then N else if T.2.2 < q ∧ q ≤ T.2.2 + N then K else T.2.1 q, T.2.2 + 1 + N)
def gNMi (T : gT) (gi : gI) (N : Nat) : gI := fun q => if T.2.2 ≤ q ∧ q ≤ T.2.2 + N then (fun _ => 0) else gi q
def gNMr (T : gT) (gr : gR) (N : Nat) : gR := fun q => if q = T.2.2 then (fun j => if j < N then some (T.2.2 + 1 + j) else none) else if T.2.2 < q ∧ q ≤ T.2.2 + N then (fun _ => none) else gr q
section GMN
variable {E : gE} {X : gX} {pc pc' : Nat} {ls st : List Value} {T : gT} {gi : gI} {gr : gR} {k n : Nat} {Q : gQ}
theorem G_mna {idx N K : Nat} {x y : Int32} (hd : gD X pc (.multianewarray idx 2) 4 pc') (w1 : Cond.classLink X.1.cls idx "[[I" ∈ gTbl) (w2 : Cond.arrayClass FieldType.int ∈ gTbl) (hx : ¬ x < 0) (hy : ¬ y < 0) (hN : x.toNatClampNeg = N) (hK : y.toNatClampNeg = K) (hN1 : N ≤ 1000) (hK1 : K ≤ 1000) (hk : k + (1 + N) ≤ X.2.2.2.2.cells) (hn : n + (N + N * K) ≤ X.2.2.2.2.slots)
    (kk : G E X pc' ls (.ref T.2.2 :: st) (gNM T N K) (gNMi T gi N) (gNMr T gr N) (k + 1 + N) (n + N + N * K) Q) : G E X pc ls (.int y :: .int x :: st) T gi gr k n Q := by
  obtain ⟨hd, rfl⟩ := hd
  subst hN
  subst hK
  intro p e s m args below meth c Z hc hr H locs lsA hl hw hf
  have hts := hc.2.2.2.2.2.2.1
  have hKs := hc.2.2.2.2.2.2.2.2
  intro U hU Xs
  obtain ⟨vm₁, cA, comp, -, fA, fC, hO, -, X', step⟩ := Xs.multianewarray2F hc.1 hc.2.2.2.2.2.1 (hts _ w1) hKs.2.2.2.2 (hts _ w2) (g := F0 m pc lsA (.int y :: .int x :: st)) rfl (by rw [hc.2.1]; exact hd) rfl hx hy (by omega) (by show _ * 4 ≤ _; omega) (by omega) rfl rfl hk hn
  have hcA : cA = E.2.2.1 4 := by
    have h := (gK_arr hKs (q := 4) (by decide)).2
    exact Option.some.inj (fA.symm.trans h)
  have hcomp : comp = E.2.2.1 0 := by
    have h := (gK_arr hKs (q := 0) (by decide)).2
    exact Option.some.inj (fC.symm.trans h)
  subst hcA
  subst hcomp
  generalize hF : Jvm.Free.Multi.fill (U.setVm vm₁) (E.2.2.1 4) (E.2.2.1 0) x.toNatClampNeg y.toNatClampNeg (defaultValue .int) x.toNatClampNeg = F at X' step
  have hUh : (U.setVm vm₁).heap = H := hU
  obtain ⟨f1, f2, -, -⟩ := Jvm.Free.Multi.fill_facts (U.setVm vm₁) (E.2.2.1 4) (E.2.2.1 0) x.toNatClampNeg y.toNatClampNeg (defaultValue .int) x.toNatClampNeg
  rw [hF, hUh] at f1 f2
  have hold : ∀ q : Nat, q < H.size → F.heap[q]? = H[q]? := fun q hq => by
    have := Jvm.Free.Multi.fill_old (U.setVm vm₁) (E.2.2.1 4) (E.2.2.1 0) x.toNatClampNeg y.toNatClampNeg (defaultValue .int) (a := q) (by rw [hUh]; exact hq) x.toNatClampNeg
    rw [hF, hUh] at this
    exact this
  have hrow : ∀ j : Nat, j < x.toNatClampNeg → F.heap[H.size + 1 + j]? = some (arrV (E.2.2.1 0) y.toNatClampNeg (gav 0 (fun _ => 0) (fun _ => none))) := fun j hj => by
    have := Jvm.Free.Multi.fill_inner (U.setVm vm₁) (E.2.2.1 4) (E.2.2.1 0) x.toNatClampNeg y.toNatClampNeg (defaultValue .int) x.toNatClampNeg j hj
    rw [hF, hUh] at this
    rw [this]
    show some ({ cls := E.2.2.1 0, slots := Array.replicate _ (Value.int 0), vm := .none } : Cell) = _
    rw [arrV_new]
    rfl
  rw [gn_outer] at f2
  obtain ⟨m1, m2, m3⟩ := hw.1
  have hM : gMem E (gNM T x.toNatClampNeg y.toNatClampNeg) (gNMi T gi x.toNatClampNeg) (gNMr T gr x.toNatClampNeg) F.heap := by
    refine ⟨by rw [f1, m1]; rfl, by show gbase E ≤ T.2.2 + 1 + _; omega, fun q hq => ?_⟩
    by_cases h1 : q = T.2.2
    · subst h1
      refine ⟨m2, _, by rw [← m1]; exact f2, ?_⟩
      have a1 : (gNM T x.toNatClampNeg y.toNatClampNeg).1 T.2.2 = 100 + 4 := by simp [gNM]
      have a2 : (gNM T x.toNatClampNeg y.toNatClampNeg).2.1 T.2.2 = x.toNatClampNeg := by simp [gNM]
      rw [a1, a2]
      refine gAt_arr ?_
      refine congrArg (arrV (E.2.2.1 4) x.toNatClampNeg) (funext fun j => ?_)
      simp [gav, gNMr, m1]
    · by_cases h2 : T.2.2 < q ∧ q ≤ T.2.2 + x.toNatClampNeg
      · have hrj := hrow (q - T.2.2 - 1) (by omega)
        rw [show H.size + 1 + (q - T.2.2 - 1) = q by omega] at hrj
        refine ⟨by omega, _, hrj, ?_⟩
        have a1 : (gNM T x.toNatClampNeg y.toNatClampNeg).1 q = 100 + 0 := by simp only [gNM]; rw [if_neg h1, if_pos h2]
        have a2 : (gNM T x.toNatClampNeg y.toNatClampNeg).2.1 q = y.toNatClampNeg := by simp only [gNM]; rw [if_neg h1, if_pos h2]
        have a3 : gNMi T gi x.toNatClampNeg q = fun _ => 0 := by unfold gNMi; rw [if_pos (by omega)]
        rw [a1, a2, a3]
        exact gAt_arr (by congr 1)
      · have a1 : (gNM T x.toNatClampNeg y.toNatClampNeg).1 q = T.1 q := by simp only [gNM]; rw [if_neg h1, if_neg h2]
        have a2 : (gNM T x.toNatClampNeg y.toNatClampNeg).2.1 q = T.2.1 q := by simp only [gNM]; rw [if_neg h1, if_neg h2]
        have a3 : gNMi T gi x.toNatClampNeg q = gi q := by unfold gNMi; rw [if_neg (by omega)]
        have a4 : gNMr T gr x.toNatClampNeg q = gr q := by unfold gNMr; rw [if_neg h1, if_neg h2]
        rw [a1] at hq
        obtain ⟨hb, cell, hcell, hat⟩ := m3 q hq
        refine ⟨hb, cell, (hold q (Array.getElem?_eq_some_iff.mp hcell).1).trans hcell, ?_⟩
        rw [a1, a2, a3, a4]
        exact hat
  obtain ⟨t2, b1, b2⟩ := kk p e s m args below meth c Z hc hr F.heap locs lsA hl (gW_to hw hM (hold _ (by rw [m1]; exact Nat.lt_of_lt_of_le hw.2.2 m2))) hf F rfl X'
  refine ⟨t2, step t2 ?_, b2⟩
  have e0 : U.heap.size = T.2.2 := by rw [hU]; exact m1
  rw [e0]
  exact b1
end GMN
