theorem MetF_ofW {l : Launch} {y : MethodName} {ws ws' : List Cond} {rm : Room} {Pc : Array Value → State → Prop} {Qc : Array Value → State → Outcome → State → Prop} {mc ms : Nat} {free : Addr → Prop} {cc : ByteArray} {maxL : Nat} {ret : Option FieldType}
    (hy : plainFor y = true) (hw : ws = Cond.code y cc maxL ret :: ws')
    (body : ∀ p e s m args below meth c s₁, BodyLoose p l y (headSpec ws rm) cc maxL ret e s m args below meth c s₁ → c.maxLocals = maxL → Pc args s → W p l e (headSpec ws rm).room s m args below meth c s.heap [] 0 0 (MQ below Qc args s mc ms free) (entryFrame m args maxL)) : Met l y ws rm Pc Qc mc ms free := by
  refine MetFree.of_bodySF (code := cc) (maxLocals := maxL) (ret := ret) hy ?_ ?_
  · intro args s m h hn
    obtain ⟨meth, c, h1, h2, h3, h4, h5, h6, -, -⟩ := Cond.code_spec hn (atoms_spec (ws := ws) h _ (by rw [hw]; exact List.mem_cons_self))
    exact ⟨meth, c, h1, h2, h3, h4, h5, h6⟩
  · intro p e s m args below meth c s₁ B hml hP _
    have hh0 : s₁.heap = s.heap := by rw [B.state]; rfl
    obtain ⟨t, a1, o, b1, b2, b3⟩ := body p e s m args below meth c s₁ B hml hP s₁ hh0 (Stand.of_body B)
    exact ⟨t, o, a1, b1, b2, ⟨b3.1, b3.2⟩⟩
theorem Ct_ofF {E : gE} {X : gX} {As ls : List Value} {T : gT} {gi : gI} {gr : gR} {Q : gQ} (hpl : plainFor X.1 = true) (hcat : ∀ v ∈ As, v.category = 1) (hl : As.length ≤ X.2.2.1) (hls : As ++ List.replicate (X.2.2.1 - As.length) (.long 0) = ls) (hG : G E X 0 ls [] T gi gr 0 0 Q) : Ct E X As T gi gr Q := by
  subst hls
  refine MetF_ofW (l := E.1) (cc := X.2.1) (maxL := X.2.2.1) (ret := X.2.2.2.1) hpl rfl ?_
  intro p e s m args below meth c s₁ B hml hv
  obtain ⟨rfl, hW, hK⟩ := hv
  have hts := atoms_spec (ws := gws X) B.pre
  rw [lg_entry_eq]
  have hlocks := B.notSynchronized
  refine hG p e s m _ below meth c _ ⟨B.exec, B.bytes, hml, B.returns, hlocks, findClass_of_methodNamed B.named, fun w hw => hts w (List.mem_cons_of_mem _ hw), (name_of_methodNamed B.named B.method).1, hK⟩ ?_ s.heap [] _ (gL_entry hcat hl) hW (fun q hq => by cases hq)
  intro T' gi' gr' v H' locs' lsA pc' hq hw hf hrt
  have fin : ∀ t : State, t.heap = H' → s.WarmedH t.vm → ∃ (T' : gT) (gi' : gI) (gr' : gR) (v' : Option Value), (Outcome.returned v) = .returned v' ∧ Q T' gi' gr' v' ∧ gW E T' gi' gr' t t.heap ∧ gK E t := fun t ht hwm => ⟨T', gi', gr', v, rfl, hq, by rw [ht]; exact gW_moved hwm.alike hw, gK_warm hwm hK⟩
  have hret := B.returns
  cases v with
  | none => exact W.vret B.exec B.bytes (by rw [hret]; exact hrt.2) fin hf hrt.1
  | some v =>
    cases v with
    | int x =>
      obtain ⟨h1, ty, h2, h3⟩ := hrt
      exact W.zret B.exec B.bytes (by rw [hret]; exact h2) h3 fin hf h1
    | null =>
      obtain ⟨h1, h2, C, h3⟩ := hrt
      exact W.aret B.exec B.bytes (by rw [hret]; exact h3) (Or.inl ⟨C, rfl⟩) h2 fin hf h1
    | ref a =>
      obtain ⟨h1, h2, C, h3⟩ := hrt
      exact W.aret B.exec B.bytes (by rw [hret]; exact h3) (Or.inl ⟨C, rfl⟩) h2 fin hf h1
    | long x => obtain ⟨h1, h2, C, h3⟩ := hrt; rcases h2 with h2 | ⟨a, h2⟩ <;> cases h2
    | float x => obtain ⟨h1, h2, C, h3⟩ := hrt; rcases h2 with h2 | ⟨a, h2⟩ <;> cases h2
    | double x => obtain ⟨h1, h2, C, h3⟩ := hrt; rcases h2 with h2 | ⟨a, h2⟩ <;> cases h2
    | retAddr x => obtain ⟨h1, h2, C, h3⟩ := hrt; rcases h2 with h2 | ⟨a, h2⟩ <;> cases h2
def fmI (x y : Int32) : Int32 := if 0 ≤ x ^^^ y then x - x / y * y else if x - x / y * y = 0 then x - x / y * y else x - x / y * y + y
theorem cJM_floorMod {E : gE} {T : gT} {gi : gI} {gr : gR} {x y : Int32} (hy : ¬ y = 0) : Ct E mJM_floorMod [.int x, .int y] T gi gr (fun T' gi' gr' v => T' = T ∧ gi' = gi ∧ gr' = gr ∧ v = some (.int (fmI x y))) := by
  refine Ct_ofF (ls := [.int x, .int y, .long 0]) (by decide +kernel) (gcat_cons rfl (gcat_cons rfl gcat_nil)) (Nat.le_of_ble_eq_true rfl) rfl ?_
  refine G_iload_n dJM_floorMod_0 rfl ?_
  refine G_iload_n dJM_floorMod_1 rfl ?_
  refine G_irem dJM_floorMod_2 hy ?_
  refine G_istore_n (ls' := [.int x, .int y, .int (x - x / y * y)]) dJM_floorMod_3 (by decide) rfl ?_
  refine G_iload_n dJM_floorMod_4 rfl ?_
  refine G_iload_n dJM_floorMod_5 rfl ?_
  refine G_ixor dJM_floorMod_6 ?_
  refine G_if_ge dJM_floorMod_7 (fun h1 => ?_) (fun h1 => ?_)
  · refine G_iload_n dJM_floorMod_18 rfl ?_
    exact G_ireturn dJM_floorMod_19 rfl rfl (by decide) (by decide) ⟨rfl, rfl, rfl, by unfold fmI; rw [if_pos h1]⟩
  refine G_iload_n dJM_floorMod_10 rfl ?_
  refine G_if_eq dJM_floorMod_11 (fun h2 => ?_) (fun h2 => ?_)
  · refine G_iload_n dJM_floorMod_18 rfl ?_
    exact G_ireturn dJM_floorMod_19 rfl rfl (by decide) (by decide) ⟨rfl, rfl, rfl, by unfold fmI; rw [if_neg h1, if_pos h2]⟩
  refine G_iload_n dJM_floorMod_14 rfl ?_
  refine G_iload_n dJM_floorMod_15 rfl ?_
  refine G_iadd dJM_floorMod_16 ?_
  exact G_ireturn dJM_floorMod_17 rfl rfl (by decide) (by decide) ⟨rfl, rfl, rfl, by unfold fmI; rw [if_neg h1, if_neg h2]⟩
def stA0 (back : Bool) (fo : Option Nat) (nb : Nat) : Int32 := match fo with
  | some f => nI f
  | none => if back = true then nI nb else -1
def stPc (back : Bool) : Int32 := if back = true then -1 else 1
def stX (back : Bool) (fo : Option Nat) (nb i : Nat) : Nat := (fmI (stA0 back fo nb + nI i * stPc back) (nI nb)).toNatClampNeg
def stOk1 (back : Bool) (fo : Option Nat) (nb i : Nat) : Bool := decide (stX back fo nb i < nb) && decide (fmI (stA0 back fo nb + nI i * stPc back) (nI nb) = nI (stX back fo nb i))
def stOk (nb i f : Nat) : Bool := !(decide (1 ≤ i) && decide (i ≤ nb)) || ((!decide (f < nb) || (stOk1 true (some f) nb i && stOk1 false (some f) nb i)) && stOk1 true none nb i && stOk1 false none nb i)
theorem stX_dec : ∀ nb, nb < 7 → ∀ i, i < 7 → ∀ f, f < 7 → stOk nb i f = true := by
  decide +kernel
theorem stX_ok {back : Bool} {fo : Option Nat} {nb i : Nat} (h6 : nb ≤ 6) (hf : ∀ j, fo = some j → j < nb) (h1 : 1 ≤ i) (h2 : i ≤ nb) : stX back fo nb i < nb ∧ fmI (stA0 back fo nb + nI i * stPc back) (nI nb) = nI (stX back fo nb i) := by
  cases fo with
  | none =>
    have h := stX_dec nb (by omega) i (by omega) 0 (by omega)
    simp only [stOk, stOk1, decide_eq_true h1, decide_eq_true h2, Bool.and_true, Bool.not_true, Bool.false_or, Bool.and_eq_true, decide_eq_true_eq] at h
    cases back with
    | true => exact h.1.2
    | false => exact h.2
  | some f =>
    have hf' := hf f rfl
    have h := stX_dec nb (by omega) i (by omega) f (by omega)
    simp only [stOk, stOk1, decide_eq_true h1, decide_eq_true h2, decide_eq_true hf', Bool.and_true, Bool.not_true, Bool.false_or, Bool.and_eq_true, decide_eq_true_eq] at h
    cases back with
    | true => exact h.1.1.1
    | false => exact h.1.1.2
abbrev atB1 (B : Nat → BS) (i : Nat) : Prop := chA (B i).1 (B i).2.2.2.2.2.1
def stS (A : Nat → Prop) [DecidablePred A] (ix : Nat → Nat) : Nat → Nat → Option Nat
  | 0, _ => none
  | n + 1, i => if A (ix i) then some (ix i) else stS A ix n (i + 1)
def stF (B : Nat → BS) (nb : Nat) (fo : Option Nat) (back : Bool) : Option Nat := match stS (atB1 B) (stX back fo nb) nb 1 with
  | some j => some j
  | none => fo
theorem stS_lt {A : Nat → Prop} [DecidablePred A] {ix : Nat → Nat} {nb : Nat} (h : ∀ i, 1 ≤ i → i ≤ nb → ix i < nb) : ∀ n i, 1 ≤ i → i + n ≤ nb + 1 → ∀ j, stS A ix n i = some j → j < nb
  | 0, _, _, _, j, hj => by cases hj
  | n + 1, i, h1, h2, j, hj => by
    unfold stS at hj
    split at hj
    · cases hj; exact h i h1 (by omega)
    · exact stS_lt h n (i + 1) (by omega) (by omega) j hj
theorem stF_lt {B : Nat → BS} {nb : Nat} {fo : Option Nat} {back : Bool} (h6 : nb ≤ 6) (hf : ∀ j, fo = some j → j < nb) : ∀ j, stF B nb fo back = some j → j < nb := by
  intro j hj
  unfold stF at hj
  cases hh : stS (atB1 B) (stX back fo nb) nb 1 with
  | none => rw [hh] at hj; exact hf j hj
  | some k => rw [hh] at hj; cases hj; exact stS_lt (fun i h1 h2 => (stX_ok h6 hf h1 h2).1) nb 1 (by omega) (by omega) j hh
theorem st_loop {E : gE} {T : gT} {gi : gI} {gr : gR} {dv nb : Nat} {bx cx od : Nat → Nat} {par : Nat → Option Nat} {B : Nat → BS} {fo pr : Option Nat} {w h : Int32} {pl : Nat → Int32} {cs : Nat → Option K5} {D : Nat → Bool} {F : Nat → Int32} {back : Bool} {Q : gQ} (hI : CInv T gi gr dv nb bx cx od par B fo pr w h pl cs D F) (kx : ∀ (gr' : gR) (ls : List Value), CInv T gi gr' dv nb bx cx od par B (stF B nb fo back) pr w h pl cs D F → CFr T T gi gi gr gr' dv → ls[0]? = some (.ref dv) → G E mDV_step 93 ls [] T gi gr' 0 0 Q) : ∀ (n i : Nat) (v5 : Value), 1 ≤ i → i + n = nb + 1 → stS (atB1 B) (stX back fo nb) nb 1 = stS (atB1 B) (stX back fo nb) n i → G E mDV_step 41 [.ref dv, .int (bI back), .int (stPc back), .int (stA0 back fo nb), .int (nI i), v5] [] T gi gr 0 0 Q := by
  obtain ⟨hS, hB, hF, hL, hP, hC, hBd, hD, hM, hA⟩ := id hI
  have hn6 := hS.2.1.2
  have hfl := stF_lt (B := B) (back := back) hn6 hF.2.2.1
  intro n
  induction n with
  | zero =>
    intro i v5 h1 h2 h3
    refine G_iload dDV_step_41 rfl ?_
    refine G_aload_n dDV_step_43 rfl ?_
    refine G_getI fDV_45 dDV_step_44 hS.1.1 ?_
    rw [hB.1]
    have : i = nb + 1 := by omega
    subst this
    refine G_icmp_gt dDV_step_47 (fun _ => kx gr _ ?_ CFr.rf rfl) (fun z => absurd (nI_lt (a := nb) (b := nb + 1) (by omega) (by omega)) z)
    unfold stF
    rw [h3]
    exact hI
  | succ n ih =>
    intro i v5 h1 h2 h3
    have hx := stX_ok (back := back) hn6 hF.2.2.1 h1 (by omega)
    have hj := hx.1
    refine G_iload dDV_step_41 rfl ?_
    refine G_aload_n dDV_step_43 rfl ?_
    refine G_getI fDV_45 dDV_step_44 hS.1.1 ?_
    rw [hB.1]
    refine G_icmp_gt dDV_step_47 (fun z => absurd z (nI_nlt (by omega) (by omega))) (fun _ => ?_)
    refine G_aload_n dDV_step_50 rfl ?_
    refine G_getRs fDV_18 dDV_step_51 hS.1.1 hS.1.2.2.2.1 ?_
    refine G_iload_n dDV_step_54 rfl ?_
    refine G_iload dDV_step_55 rfl ?_
    refine G_iload_n dDV_step_57 rfl ?_
    refine G_imul dDV_step_58 ?_
    refine G_iadd dDV_step_59 ?_
    refine G_aload_n dDV_step_60 rfl ?_
    refine G_getI fDV_45 dDV_step_61 hS.1.1 ?_
    rw [hB.1]
    refine G_callS (As := [.int (stA0 back fo nb + nI i * stPc back), .int (nI nb)]) (rest := [.ref (dv + 4)]) gDV_step_JM_floorMod lDV_146.1 lDV_146.2 dDV_step_64 rfl (Nat.le_of_ble_eq_true rfl) ⟨by decide, by decide⟩ (cJM_floorMod (fun z => by have := (nI_z (by omega)).mp z; omega)) ?_
    refine same4 ?_
    refine G_st (st' := [.int (nI (stX back fo nb i)), .ref (dv + 4)]) (by rw [hx.2]; rfl) ?_
    generalize hje : stX back fo nb i = j at hj ⊢
    refine G_aaldsN 2 dDV_step_67 (by decide) hS.1.2.2.2.2.2.1 hS.1.2.2.2.2.2.2.1 (by decide) (by omega) (hS.2.2.1 j hj).1 ?_
    refine G_astore (ls' := [.ref dv, .int (bI back), .int (stPc back), .int (stA0 back fo nb), .int (nI i), .ref (bx j)]) dDV_step_68 (by decide) rfl ?_
    refine G_aload dDV_step_70 rfl ?_
    refine G_callV (As := []) (rest := []) gDV_step_BX_canHaveAttention lDV_133.1 lDV_133.2.1 lDV_133.2.2.1 lDV_133.2.2.2 dDV_step_72 rfl (Nat.le_of_ble_eq_true rfl) (hS.2.2.1 j hj).2.1.1 ⟨by decide, by decide⟩ (cBX_canHaveAttention (hS.2.2.1 j hj).2.1 (hB.2 j hj).2.1 (hB.2 j hj).2.2.2.2.2.2.1) ?_
    refine same4 ?_
    refine G_st (st' := [.int (if atB1 B j then 1 else 0)]) rfl ?_
    refine G_if_eq dDV_step_75 (fun h4 => ?_) (fun h4 => ?_)
    · refine G_iinc (ls' := [.ref dv, .int (bI back), .int (stPc back), .int (stA0 back fo nb), .int (nI (i + 1)), .ref (bx j)]) dDV_step_87 rfl (nI_inc i) (by decide) rfl ?_
      refine G_goto dDV_step_90 ?_
      exact ih (i + 1) _ (by omega) (by omega) (by rw [h3]; conv => lhs; unfold stS; rw [hje, if_neg (if01.mp h4)])
    · refine G_aload_n dDV_step_78 rfl ?_
      refine G_aload dDV_step_79 rfl ?_
      refine G_putR (r := some (bx j)) rfl wDV_137 (Or.inl rfl) dDV_step_81 hS.1.1 (nr_o _) (ft_o _) ?_
      refine G_goto dDV_step_84 ?_
      have hst : stF B nb fo back = some j := by unfold stF; rw [h3]; conv => lhs; unfold stS; rw [hje, if_pos (by by_cases c : atB1 B j; exact c; exact absurd (if01.mpr c) h4)]
      have hy := C_fop hI (gr' := gu gr dv 5 (some (bx j))) (fo' := some j) (pr' := pr) (fun a ha => by rw [gu_off ha]) (fun k hk => by rw [gu_ne (by omega)]) ⟨gu_same, by rw [gu_ne (by omega)]; exact hF.2.1, fun k z => by cases z; exact hj, hF.2.2.2⟩
      exact kx _ _ (by rw [hst]; exact hy.1) hy.2 rfl
theorem C_step {E : gE} {T : gT} {gi : gI} {gr : gR} {dv nb : Nat} {bx cx od : Nat → Nat} {par : Nat → Option Nat} {B : Nat → BS} {fo pr : Option Nat} {w h : Int32} {pl : Nat → Int32} {cs : Nat → Option K5} {D : Nat → Bool} {F : Nat → Int32} {back : Bool} (hI : CInv T gi gr dv nb bx cx od par B fo pr w h pl cs D F) : Ct E mDV_step [.ref dv, .int (bI back)] T gi gr (fun T' gi' gr' v => T' = T ∧ CFr T T' gi gi' gr gr' dv ∧ v = some (.int (noI (attP (scB par pl B nb) (stF B nb fo back)))) ∧ CInv T' gi' gr' dv nb bx cx od par (scS par pl B nb (stF B nb fo back) pr D).1 (attP (scB par pl B nb) (stF B nb fo back)) (attP (scB par pl B nb) pr) w h pl cs (scS par pl B nb (stF B nb fo back) pr D).2 F) := by
  obtain ⟨hS, hB, hF, hL, hP, hC, hBd, hD, hM, hA⟩ := id hI
  refine Ct_of (ls := [.ref dv, .int (bI back), .long 0, .long 0, .long 0, .long 0]) (by decide) (gcat_cons rfl (gcat_cons rfl gcat_nil)) (Nat.le_of_ble_eq_true rfl) rfl ?_
  have main : ∀ v5, G E mDV_step 41 [.ref dv, .int (bI back), .int (stPc back), .int (stA0 back fo nb), .int (nI 1), v5] [] T gi gr 0 0 (fun T' gi' gr' v => T' = T ∧ CFr T T' gi gi' gr gr' dv ∧ v = some (.int (noI (attP (scB par pl B nb) (stF B nb fo back)))) ∧ CInv T' gi' gr' dv nb bx cx od par (scS par pl B nb (stF B nb fo back) pr D).1 (attP (scB par pl B nb) (stF B nb fo back)) (attP (scB par pl B nb) pr) w h pl cs (scS par pl B nb (stF B nb fo back) pr D).2 F) := by
    intro v5
    refine st_loop hI (fun gr' ls hI1 hf1 hls => ?_) nb 1 v5 (by omega) (by omega) rfl
    refine G_aload_n dDV_step_93 hls ?_
    refine G_callV (As := []) (rest := []) gDV_step_DV_showChanges lDV_42.1 lDV_42.2.1 lDV_42.2.2.1 lDV_42.2.2.2 dDV_step_94 rfl (Nat.le_of_ble_eq_true rfl) hS.1.1 ⟨by decide, by decide⟩ (C_show hI1) ?_
    rintro _ _ _ _ ⟨rfl, rfl, hI2, hf2⟩
    refine G_st (st' := []) rfl ?_
    refine G_aload_n dDV_step_97 hls ?_
    refine G_getR fDV_137 dDV_step_98 hI2.1.1.1 ?_
    rw [hI2.2.2.1.1]
    refine G_callS (As := [va_rf ((attP (scB par pl B nb) (stF B nb fo back)).map bx)]) (rest := []) gDV_step_DV_numberOf lDV_125.1 lDV_125.2 dDV_step_101 rfl (Nat.le_of_ble_eq_true rfl) ⟨by decide, by decide⟩ (cDV_numberOf hI2.1 hI2.2.1 hI2.2.2.1.2.2.1) ?_
    refine same4 ?_
    refine G_st (st' := [.int (noI (attP (scB par pl B nb) (stF B nb fo back)))]) rfl ?_
    exact G_ireturn dDV_step_104 rfl rfl (by decide) (by decide) ⟨rfl, hf1.tr hf2, rfl, hI2⟩
  have mid : ∀ v3 : Int32, v3 = (if back = true then nI nb else -1) → G E mDV_step 22 [.ref dv, .int (bI back), .int (stPc back), .long 0, .long 0, .long 0] [.int v3] T gi gr 0 0 (fun T' gi' gr' v => T' = T ∧ CFr T T' gi gi' gr gr' dv ∧ v = some (.int (noI (attP (scB par pl B nb) (stF B nb fo back)))) ∧ CInv T' gi' gr' dv nb bx cx od par (scS par pl B nb (stF B nb fo back) pr D).1 (attP (scB par pl B nb) (stF B nb fo back)) (attP (scB par pl B nb) pr) w h pl cs (scS par pl B nb (stF B nb fo back) pr D).2 F) := by
    intro v3 e3
    refine G_istore_n (ls' := [.ref dv, .int (bI back), .int (stPc back), .int v3, .long 0, .long 0]) dDV_step_22 (by decide) rfl ?_
    refine G_aload_n dDV_step_23 rfl ?_
    refine G_getR fDV_137 dDV_step_24 hS.1.1 ?_
    rw [hF.1]
    cases fo with
    | none =>
      refine G_st (st' := [.null]) rfl ?_
      refine G_ifnullN dDV_step_27 ?_
      refine G_iconst (v := nI 1) dDV_step_38 (by decide) ?_
      refine G_istore (ls' := [.ref dv, .int (bI back), .int (stPc back), .int v3, .int (nI 1), .long 0]) dDV_step_39 (by decide) rfl ?_
      have e4 : v3 = stA0 back none nb := e3
      rw [e4]
      exact main _
    | some f =>
      have hf := hF.2.2.1 f rfl
      refine G_st (st' := [.ref (bx f)]) rfl ?_
      refine G_ifnull dDV_step_27 ?_
      refine G_aload_n dDV_step_30 rfl ?_
      refine G_getRs fDV_137 dDV_step_31 hS.1.1 hF.1 ?_
      refine G_getI fDV_143 dDV_step_34 (hS.2.2.1 f hf).2.1.1 ?_
      rw [(hB.2 f hf).1]
      refine G_istore_n (ls' := [.ref dv, .int (bI back), .int (stPc back), .int (nI f), .long 0, .long 0]) dDV_step_37 (by decide) rfl ?_
      refine G_iconst (v := nI 1) dDV_step_38 (by decide) ?_
      refine G_istore (ls' := [.ref dv, .int (bI back), .int (stPc back), .int (nI f), .int (nI 1), .long 0]) dDV_step_39 (by decide) rfl ?_
      exact main _
  have fst : ∀ v2 : Int32, v2 = stPc back → G E mDV_step 9 [.ref dv, .int (bI back), .long 0, .long 0, .long 0, .long 0] [.int v2] T gi gr 0 0 (fun T' gi' gr' v => T' = T ∧ CFr T T' gi gi' gr gr' dv ∧ v = some (.int (noI (attP (scB par pl B nb) (stF B nb fo back)))) ∧ CInv T' gi' gr' dv nb bx cx od par (scS par pl B nb (stF B nb fo back) pr D).1 (attP (scB par pl B nb) (stF B nb fo back)) (attP (scB par pl B nb) pr) w h pl cs (scS par pl B nb (stF B nb fo back) pr D).2 F) := by
    rintro _ rfl
    refine G_istore_n (ls' := [.ref dv, .int (bI back), .int (stPc back), .long 0, .long 0, .long 0]) dDV_step_9 (by decide) rfl ?_
    refine G_iload_n dDV_step_10 rfl ?_
    refine G_if_eq dDV_step_11 (fun h1 => ?_) (fun h1 => ?_)
    · refine G_iconst (v := (-1)) dDV_step_21 (by decide) ?_
      exact mid _ (by rw [if_neg (fun z => by rw [z] at h1; exact absurd h1 (by decide))])
    · refine G_aload_n dDV_step_14 rfl ?_
      refine G_getI fDV_45 dDV_step_15 hS.1.1 ?_
      rw [hB.1]
      refine G_goto dDV_step_18 ?_
      exact mid _ (by cases back with
        | true => rfl
        | false => exact absurd rfl h1)
  refine G_iload_n dDV_step_0 rfl ?_
  refine G_if_eq dDV_step_1 (fun h1 => ?_) (fun h1 => ?_)
  · refine G_iconst (v := 1) dDV_step_8 (by decide) ?_
    exact fst _ (by cases back with
      | true => exact absurd h1 (by decide)
      | false => rfl)
  · refine G_iconst (v := (-1)) dDV_step_4 (by decide) ?_
    refine G_goto dDV_step_5 ?_
    exact fst _ (by cases back with
      | true => rfl
      | false => exact absurd rfl h1)
