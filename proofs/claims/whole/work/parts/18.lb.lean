def slL (R : Nat → Nat → Int32) (w h : Int32) (nb : Nat) (cs : Nat → Option K5) (pl : Nat → Int32) : Nat → Int32 := edL (sfP (daP R w h nb cs) cs (4 * nb) 3) pl (4 * nb) (4 * nb)
def slK (w h : Int32) (nb : Nat) (cs : Nat → Option K5) (pl : Nat → Int32) : Prop := ∀ R, daK R w h nb cs ∧ ((daP R w h nb cs).2 = 0 → cbK (daP R w h nb cs) pl nb cs)
def nrS (R : Nat → Nat → Int32) (w h : Int32) (nb : Nat) (cs : Nat → Option K5) (e : Nat) (x : Int32) : S2 := fixP (daP R w h nb cs) e 0 (nearI x (-((daP R w h nb cs).1 e 0)) ((daP R w h nb cs).1 0 e)) (4 * nb)
def nrL (R : Nat → Nat → Int32) (w h : Int32) (nb : Nat) (cs : Nat → Option K5) (pl : Nat → Int32) (e : Nat) (x : Int32) : Nat → Int32 := edL (sfP (nrS R w h nb cs e x) cs (4 * nb) 3) pl (4 * nb) (4 * nb)
def nrK (w h : Int32) (nb : Nat) (cs : Nat → Option K5) (pl : Nat → Int32) (e : Nat) (x : Int32) : Prop := ∀ R, daK R w h nb cs ∧ fixK (daP R w h nb cs) e 0 (nearI x (-((daP R w h nb cs).1 e 0)) ((daP R w h nb cs).1 0 e)) (4 * nb) ∧ cbK (nrS R w h nb cs e x) pl nb cs
def BdAny (gi : gI) (la : Nat) : Prop := ∃ (S : S2) (ec : Nat), BdIs gi (la + 3) S.1 S.2 ec
theorem PlIs.off {gi gi' : gI} {la : Nat} {pl : Nat → Int32} (h : PlIs gi la pl) (hO : BdOff gi gi' (la + 3)) : PlIs gi' la pl := fun j hj => by rw [hO (la + 1) (by omega)]; exact h j hj
theorem LaOff.rf {gi : gI} {la : Nat} : LaOff gi gi la := fun _ _ _ => rfl
theorem LaIs.lo {gi gi' : gI} {la nb : Nat} {w h : Int32} (hL : LaIs gi la nb w h) (hO : LaOff gi gi' la) : LaIs gi' la nb w h := by
  unfold LaIs
  rw [hO la (by omega) (by omega)]
  exact hL
theorem CsIs.lo {T : gT} {gi gi' : gI} {gr : gR} {la : Nat} {cs : Nat → Option K5} {cx : Nat → Nat} (hC : CsIs T gi gr la cs cx) (hO : LaOff gi gi' la) : CsIs T gi' gr la cs cx := hC.off (fun a ha => hO a (by omega) (by omega))
theorem LaOk.gr {T : gT} {gr gr' : gR} {la : Nat} (hL : LaOk T gr la) (h : ∀ a, a ≠ la + 2 → gr' a = gr a) : LaOk T gr' la := by
  obtain ⟨h1, h2, h3, h4, h5, h6, h7, h8, b1, b2, b3, b4, b5⟩ := hL
  refine ⟨h1, by rw [h la (by omega)]; exact h2, by rw [h la (by omega)]; exact h3, by rw [h la (by omega)]; exact h4, h5, h6, h7, h8, b1, b2, b3, by rw [h (la + 3) (by omega)]; exact b4, fun i hi => ?_⟩
  rw [h (la + 3 + 1) (by omega)]
  exact b5 i hi
theorem gu_nn {α : Type} {f : Nat → Nat → α} {a k : Nat} {x : α} (h : f a k = x) : gu f a k x = f := by
  funext q j
  unfold gu
  split
  · rename_i e
    rw [e.1, e.2, h]
  · rfl
theorem gu_uu {α : Type} {f : Nat → Nat → α} {a k : Nat} {x y : α} : gu (gu f a k x) a k y = gu f a k y := by
  funext q j
  unfold gu
  split <;> rfl
theorem cLA_solve {E : gE} {T : gT} {gi : gI} {gr : gR} {la nb : Nat} {w h : Int32} {pl : Nat → Int32} {cs : Nat → Option K5} {cx : Nat → Nat} (hL : LaOk T gr la) (hI : LaIs gi la nb w h) (hP : PlIs gi la pl) (hC : CsIs T gi gr la cs cx) (hS : BdAny gi la) (hnb : nb ≤ 6) (hK : slK w h nb cs pl) : Ct E mLA_solve [.ref la] T gi gr (fun T' gi' gr' v => T' = T ∧ gr' = gr ∧ BdAny gi' la ∧ LaOff gi gi' la ∧ ∃ R, ((daP R w h nb cs).2 = 0 ∧ v = some (.int 1) ∧ PlIs gi' la (slL R w h nb cs pl) ∨ ¬ (daP R w h nb cs).2 = 0 ∧ v = some (.int 0) ∧ PlIs gi' la pl)) := by
  have hB : BdOk T gr (la + 3) := hL.2.2.2.2.2.2.2.2
  obtain ⟨⟨R, cf⟩, ec0, hS⟩ := hS
  refine Ct_of (ls := [.ref la]) (by decide) (gcat_cons rfl gcat_nil) (Nat.le_of_ble_eq_true rfl) rfl ?_
  refine G_aload_n dLA_solve_0 rfl ?_
  refine G_callV (As := []) (rest := []) gLA_solve_LA_demandAll lLA_49.1 lLA_49.2.1 lLA_49.2.2.1 lLA_49.2.2.2 dLA_solve_1 rfl (Nat.le_of_ble_eq_true rfl) hL.1 ⟨by decide, by decide⟩ (cLA_demandAll hL hI hC hS hnb (hK R).1) ?_
  rintro _ g1 _ _ ⟨rfl, rfl, rfl, hS1, hO1⟩
  refine G_st (st' := []) rfl ?_
  refine G_aload_n dLA_solve_4 rfl ?_
  refine G_getRs fLA_24 dLA_solve_5 hL.1 hL.2.2.2.1 ?_
  refine G_getI fLA_52 dLA_solve_8 hB.1 ?_
  rw [hS1.2.1]
  refine G_if_eq dLA_solve_11 (fun h1 => ?_) (fun h1 => ?_)
  · refine G_aload_n dLA_solve_16 rfl ?_
    refine G_callV (As := []) (rest := []) gLA_solve_LA_chooseBest lLA_56.1 lLA_56.2.1 lLA_56.2.2.1 lLA_56.2.2.2 dLA_solve_17 rfl (Nat.le_of_ble_eq_true rfl) hL.1 ⟨by decide, by decide⟩ (cLA_chooseBest (S := daP R w h nb cs) hL (hI.off hO1) (hC.off hO1.la) hS1 (hP.off hO1) hnb ((hK R).2 h1)) ?_
    rintro _ g2 _ _ ⟨rfl, rfl, rfl, hS2, hP2, hO2⟩
    refine G_st (st' := []) rfl ?_
    refine G_iconst (v := 1) dLA_solve_20 (by decide) ?_
    obtain ⟨S2, hS2⟩ := hS2
    exact G_ireturn dLA_solve_21 rfl (nr_z (by decide)) (by decide) (by decide) ⟨rfl, rfl, ⟨S2, _, hS2⟩, hO1.lo.tr hO2, R, Or.inl ⟨h1, rfl, hP2⟩⟩
  · refine G_iconst (v := 0) dLA_solve_14 (by decide) ?_
    exact G_ireturn dLA_solve_15 rfl (nr_z (by decide)) (by decide) (by decide) ⟨rfl, rfl, ⟨_, _, hS1⟩, hO1.lo, R, Or.inr ⟨h1, rfl, hP.off hO1⟩⟩
theorem cLA_solveNear {E : gE} {T : gT} {gi : gI} {gr : gR} {la nb : Nat} {w h : Int32} {pl : Nat → Int32} {cs : Nat → Option K5} {cx : Nat → Nat} {e : Nat} {x : Int32} (hL : LaOk T gr la) (hI : LaIs gi la nb w h) (hP : PlIs gi la pl) (hC : CsIs T gi gr la cs cx) (hS : BdAny gi la) (hnb : nb ≤ 6) (he : e < 24) (hK : nrK w h nb cs pl e x) : Ct E mLA_solveNear [.ref la, .int (nI e), .int x] T gi gr (fun T' gi' gr' v => T' = T ∧ gr' = gr ∧ v = none ∧ BdAny gi' la ∧ LaOff gi gi' la ∧ ∃ R, PlIs gi' la (nrL R w h nb cs pl e x)) := by
  have hB : BdOk T gr (la + 3) := hL.2.2.2.2.2.2.2.2
  obtain ⟨⟨R, cf⟩, ec0, hS⟩ := hS
  refine Ct_of (ls := [.ref la, .int (nI e), .int x]) (by decide) (gcat_cons rfl (gcat_cons rfl (gcat_cons rfl gcat_nil))) (Nat.le_of_ble_eq_true rfl) rfl ?_
  refine G_aload_n dLA_solveNear_0 rfl ?_
  refine G_callV (As := []) (rest := []) gLA_solveNear_LA_demandAll lLA_49.1 lLA_49.2.1 lLA_49.2.2.1 lLA_49.2.2.2 dLA_solveNear_1 rfl (Nat.le_of_ble_eq_true rfl) hL.1 ⟨by decide, by decide⟩ (cLA_demandAll hL hI hC hS hnb (hK R).1) ?_
  rintro _ g1 _ _ ⟨rfl, rfl, rfl, hS1, hO1⟩
  refine G_st (st' := []) rfl ?_
  refine G_aload_n dLA_solveNear_4 rfl ?_
  refine G_getRs fLA_24 dLA_solveNear_5 hL.1 hL.2.2.2.1 ?_
  refine G_iload_n dLA_solveNear_8 rfl ?_
  refine G_iconst (v := nI 0) dLA_solveNear_9 (by decide +kernel) ?_
  refine G_iload_n dLA_solveNear_10 rfl ?_
  refine G_callV (As := [.int (nI e), .int (nI 0), .int x]) (rest := []) gLA_solveNear_BD_fixNear lLA_59.1 lLA_59.2.1 lLA_59.2.2.1 lLA_59.2.2.2 dLA_solveNear_11 rfl (Nat.le_of_ble_eq_true rfl) hB.1 ⟨by decide, by decide⟩ (pBD_fixNear (S := daP R w h nb cs) (p := e) (q := 0) hB hS1 (by omega) (by decide) (by omega) (hK R).2.1) ?_
  rintro _ g2 _ _ ⟨rfl, rfl, rfl, hS2, hO2⟩
  refine G_st (st' := [.int (nearI x (-((daP R w h nb cs).1 e 0)) ((daP R w h nb cs).1 0 e))]) rfl ?_
  refine G_pop dLA_solveNear_14 rfl ?_
  refine G_aload_n dLA_solveNear_15 rfl ?_
  refine G_callV (As := []) (rest := []) gLA_solveNear_LA_chooseBest lLA_56.1 lLA_56.2.1 lLA_56.2.2.1 lLA_56.2.2.2 dLA_solveNear_16 rfl (Nat.le_of_ble_eq_true rfl) hL.1 ⟨by decide, by decide⟩ (cLA_chooseBest (S := nrS R w h nb cs e x) hL (hI.off (hO1.tr hO2)) (hC.off (hO1.tr hO2).la) hS2 (hP.off (hO1.tr hO2)) hnb (hK R).2.2) ?_
  rintro _ g3 _ _ ⟨rfl, rfl, rfl, hS3, hP3, hO3⟩
  refine G_st (st' := []) rfl ?_
  obtain ⟨S3, hS3⟩ := hS3
  exact G_return dLA_solveNear_19 rfl (by decide) (by decide) ⟨rfl, rfl, rfl, ⟨S3, _, hS3⟩, (hO1.tr hO2).lo.tr hO3, R, hP3⟩
theorem cLA_constraintAt {E : gE} {T : gT} {gi : gI} {gr : gR} {la : Nat} {x : Int32} (hL : LaOk T gr la) : Ct E mLA_constraintAt [.ref la, .int x] T gi gr (fun T' gi' gr' v => T' = T ∧ gi' = gi ∧ gr' = gr ∧ ∃ r, v = some (va_rf r) ∧ ((∃ j, j < 16 ∧ x = nI j ∧ r = gr (la + 2) j) ∨ (x < 0 ∨ 16 ≤ x) ∧ r = none)) := by
  refine Ct_of (ls := [.ref la, .int x]) (by decide) (gcat_cons rfl (gcat_cons rfl gcat_nil)) (Nat.le_of_ble_eq_true rfl) rfl ?_
  refine G_iload_n dLA_constraintAt_0 rfl ?_
  refine G_if_lt dLA_constraintAt_1 (fun h1 => ?_) (fun h1 => ?_)
  · refine G_null dLA_constraintAt_19 ?_
    exact G_areturn (r := none) dLA_constraintAt_20 rfl rfl (by decide) (by decide) ⟨rfl, rfl, rfl, none, rfl, Or.inr ⟨Or.inl h1, rfl⟩⟩
  · refine G_iload_n dLA_constraintAt_4 rfl ?_
    refine G_bipush (v := 16) dLA_constraintAt_5 (by decide) ?_
    refine G_icmp_ge dLA_constraintAt_7 (fun h2 => ?_) (fun h2 => ?_)
    · refine G_null dLA_constraintAt_19 ?_
      exact G_areturn (r := none) dLA_constraintAt_20 rfl rfl (by decide) (by decide) ⟨rfl, rfl, rfl, none, rfl, Or.inr ⟨Or.inr h2, rfl⟩⟩
    · obtain ⟨j, hj, rfl, -⟩ := pk_mu (L := 16) h1 h2 (by decide)
      refine G_aload_n dLA_constraintAt_10 rfl ?_
      refine G_getRs fLA_17 dLA_constraintAt_11 hL.1 hL.2.2.1 ?_
      refine G_iload_n dLA_constraintAt_14 rfl ?_
      refine G_aaldN 3 dLA_constraintAt_15 (by decide) hL.2.2.2.2.2.2.1 hL.2.2.2.2.2.2.2.1 (by decide) hj ?_
      refine G_goto dLA_constraintAt_16 ?_
      exact G_areturn dLA_constraintAt_20 rfl rfl (by decide) (by decide) ⟨rfl, rfl, rfl, _, rfl, Or.inl ⟨j, hj, rfl, rfl⟩⟩
theorem fn_loop {E : gE} {T : gT} {gi : gI} {gr : gR} {la : Nat} {Q : gQ} (hL : LaOk T gr la) (kx : ∀ v, ((∃ i, i < 16 ∧ gr (la + 2) i = none ∧ (∀ j, j < i → gr (la + 2) j ≠ none) ∧ v = some (.int (nI i))) ∨ (∀ j, j < 16 → gr (la + 2) j ≠ none) ∧ v = some (.int (-1))) → Q T gi gr v) : ∀ (n i : Nat), i + n = 16 → (∀ j, j < i → gr (la + 2) j ≠ none) → G E mLA_freeNumber 2 [.ref la, .int (nI i)] [] T gi gr 0 0 Q := by
  intro n
  induction n with
  | zero =>
    intro i hi hn
    have hi : i = 16 := by omega
    subst hi
    refine G_iload_n dLA_freeNumber_2 rfl ?_
    refine G_bipush (v := 16) dLA_freeNumber_3 (by decide) ?_
    refine G_icmp_ge dLA_freeNumber_5 (fun h1 => ?_) (fun h1 => ?_)
    · refine G_iconst (v := -1) dLA_freeNumber_25 (by decide) ?_
      exact G_ireturn dLA_freeNumber_26 rfl rfl (by decide) (by decide) (kx _ (Or.inr ⟨hn, rfl⟩))
    · exact absurd (nI_le (a := 16) (b := 16) (by omega) (by decide)) h1
  | succ n ih =>
    intro i hin hn
    refine G_iload_n dLA_freeNumber_2 rfl ?_
    refine G_bipush (v := 16) dLA_freeNumber_3 (by decide) ?_
    refine G_icmp_ge dLA_freeNumber_5 (fun h1 => ?_) (fun h1 => ?_)
    · exact absurd h1 (nI_ge (a := i) (b := 16) (by omega) (by decide))
    · refine G_aload_n dLA_freeNumber_8 rfl ?_
      refine G_getRs fLA_17 dLA_freeNumber_9 hL.1 hL.2.2.1 ?_
      refine G_iload_n dLA_freeNumber_12 rfl ?_
      refine G_aaldN 3 dLA_freeNumber_13 (by decide) hL.2.2.2.2.2.2.1 hL.2.2.2.2.2.2.2.1 (by decide) (by omega) ?_
      refine G_ifnonnullq dLA_freeNumber_14 (fun h2 => ?_) (fun q h2 => ?_)
      · refine G_iload_n dLA_freeNumber_17 rfl ?_
        exact G_ireturn dLA_freeNumber_18 rfl rfl (by decide) (by decide) (kx _ (Or.inl ⟨i, by omega, h2, hn, rfl⟩))
      · refine G_iinc (ls' := [.ref la, .int (nI (i + 1))]) dLA_freeNumber_19 rfl (nI_inc i) (by decide) rfl ?_
        refine G_goto dLA_freeNumber_22 ?_
        refine ih (i + 1) (by omega) (fun j hj => ?_)
        by_cases e : j = i
        · rw [e, h2]; exact fun z => by cases z
        · exact hn j (by omega)
theorem cLA_freeNumber {E : gE} {T : gT} {gi : gI} {gr : gR} {la : Nat} (hL : LaOk T gr la) : Ct E mLA_freeNumber [.ref la] T gi gr (fun T' gi' gr' v => T' = T ∧ gi' = gi ∧ gr' = gr ∧ ((∃ i, i < 16 ∧ gr (la + 2) i = none ∧ (∀ j, j < i → gr (la + 2) j ≠ none) ∧ v = some (.int (nI i))) ∨ (∀ j, j < 16 → gr (la + 2) j ≠ none) ∧ v = some (.int (-1)))) := by
  refine Ct_of (ls := [.ref la, .long 0]) (by decide) (gcat_cons rfl gcat_nil) (Nat.le_of_ble_eq_true rfl) rfl ?_
  refine G_iconst (v := nI 0) dLA_freeNumber_0 (by decide +kernel) ?_
  refine G_istore_n (ls' := [.ref la, .int (nI 0)]) dLA_freeNumber_1 (by decide) rfl ?_
  exact fn_loop hL (fun v hv => ⟨rfl, rfl, rfl, hv⟩) 16 0 rfl (fun j hj => absurd hj (Nat.not_lt_zero _))
theorem CsIs.put {T : gT} {gi : gI} {gr : gR} {la i ck : Nat} {κ : K5} {cs : Nat → Option K5} {cx : Nat → Nat} (hC : CsIs T gi gr la cs cx) (ht : T.1 ck = 7) (hk : CnIs gi ck κ) (ho : CnOk κ) (hn : ¬ (la ≤ ck ∧ ck < la + 29)) : CsIs T gi (gu gr (la + 2) i (some ck)) la (gup cs i (some κ)) (gup cx i ck) := by
  intro j hj
  by_cases e : j = i
  · subst e
    refine ⟨fun z => (by rw [gup_same] at z; cases z), fun κ' z => ?_⟩
    rw [gup_same] at z
    cases z
    rw [gup_same, gu_same]
    exact ⟨rfl, ht, hk, ho, hn⟩
  · rw [gup_ne e, gup_ne e, gu_ne (Or.inr e)]
    exact hC j hj
theorem CsIs.clr {T : gT} {gi : gI} {gr : gR} {la i : Nat} {cs : Nat → Option K5} {cx : Nat → Nat} (hC : CsIs T gi gr la cs cx) : CsIs T gi (gu gr (la + 2) i none) la (gup cs i none) cx := by
  intro j hj
  by_cases e : j = i
  · subst e
    refine ⟨fun z => gu_same, fun κ' z => ?_⟩
    rw [gup_same] at z
    cases z
  · rw [gup_ne e, gu_ne (Or.inr e)]
    exact hC j hj
theorem cLA_add {E : gE} {T : gT} {gi : gI} {gr : gR} {la nb : Nat} {w h : Int32} {pl : Nat → Int32} {cs : Nat → Option K5} {cx : Nat → Nat} {i ck : Nat} {κ : K5} (hL : LaOk T gr la) (hI : LaIs gi la nb w h) (hP : PlIs gi la pl) (hC : CsIs T gi gr la cs cx) (hS : BdAny gi la) (hnb : nb ≤ 6) (hi : i < 16) (hn : cs i = none) (ht : T.1 ck = 7) (hk : CnIs gi ck κ) (ho : CnOk κ) (hout : ¬ (la ≤ ck ∧ ck < la + 29)) (hK : slK w h nb (gup cs i (some κ)) pl) : Ct E mLA_add [.ref la, .int (nI i), .ref ck] T gi gr (fun T' gi' gr' v => T' = T ∧ BdAny gi' la ∧ LaOff gi gi' la ∧ ∃ R, ((daP R w h nb (gup cs i (some κ))).2 = 0 ∧ v = some (.int 1) ∧ gr' = gu gr (la + 2) i (some ck) ∧ PlIs gi' la (slL R w h nb (gup cs i (some κ)) pl) ∨ ¬ (daP R w h nb (gup cs i (some κ))).2 = 0 ∧ v = some (.int 0) ∧ gr' = gr ∧ PlIs gi' la pl)) := by
  have hL' : LaOk T (gu gr (la + 2) i (some ck)) la := hL.gr (fun a ha => gu_off ha)
  have hgn : gr (la + 2) i = none := (hC i hi).1 hn
  refine Ct_of (ls := [.ref la, .int (nI i), .ref ck, .long 0]) (by decide) (gcat_cons rfl (gcat_cons rfl (gcat_cons rfl gcat_nil))) (Nat.le_of_ble_eq_true rfl) rfl ?_
  refine G_aload_n dLA_add_0 rfl ?_
  refine G_getRs fLA_17 dLA_add_1 hL.1 hL.2.2.1 ?_
  refine G_iload_n dLA_add_4 rfl ?_
  refine G_aload_n dLA_add_5 rfl ?_
  refine G_aastsN 3 (C := "DamageView$Constraint") (Tb := TbCN) (N := 5) (ci := 6) dLA_add_6 (by decide) hL.2.2.2.2.2.2.1 hL.2.2.2.2.2.2.2.1 (by decide) hi ht rfl rfl ?_
  refine G_aload_n dLA_add_7 rfl ?_
  refine G_callV (As := []) (rest := []) gLA_add_LA_solve lLA_45.1 lLA_45.2.1 lLA_45.2.2.1 lLA_45.2.2.2 dLA_add_8 rfl (Nat.le_of_ble_eq_true rfl) hL.1 ⟨by decide, by decide⟩ (cLA_solve hL' hI hP (hC.put ht hk ho hout) hS hnb hK) ?_
  rintro _ g1 _ v ⟨rfl, rfl, hS1, hO1, R, ⟨hc, rfl, hP1⟩ | ⟨hc, rfl, hP1⟩⟩
  · refine G_st (st' := [.int 1]) rfl ?_
    refine G_istore_n (ls' := [.ref la, .int (nI i), .ref ck, .int 1]) dLA_add_11 (by decide) rfl ?_
    refine G_iload_n dLA_add_12 rfl ?_
    refine G_if_ne dLA_add_13 (fun h1 => ?_) (fun h1 => absurd h1 (by decide))
    refine G_iload_n dLA_add_23 rfl ?_
    exact G_ireturn dLA_add_24 rfl (nr_z (by decide)) (by decide) (by decide) ⟨rfl, hS1, hO1, R, Or.inl ⟨hc, rfl, rfl, hP1⟩⟩
  · refine G_st (st' := [.int 0]) rfl ?_
    refine G_istore_n (ls' := [.ref la, .int (nI i), .ref ck, .int 0]) dLA_add_11 (by decide) rfl ?_
    refine G_iload_n dLA_add_12 rfl ?_
    refine G_if_ne dLA_add_13 (fun h1 => absurd rfl h1) (fun h1 => ?_)
    refine G_aload_n dLA_add_16 rfl ?_
    refine G_getRs fLA_17 dLA_add_17 hL'.1 hL'.2.2.1 ?_
    refine G_iload_n dLA_add_20 rfl ?_
    refine G_null dLA_add_21 ?_
    refine G_aastNN 3 (C := "DamageView$Constraint") dLA_add_22 (by decide) hL'.2.2.2.2.2.2.1 hL'.2.2.2.2.2.2.2.1 (by decide) hi rfl ?_
    rw [gu_uu, gu_nn hgn]
    refine G_iload_n dLA_add_23 rfl ?_
    exact G_ireturn dLA_add_24 rfl (nr_z (by decide)) (by decide) (by decide) ⟨rfl, hS1, hO1, R, Or.inr ⟨hc, rfl, rfl, hP1⟩⟩
theorem cLA_takeAway {E : gE} {T : gT} {gi : gI} {gr : gR} {la nb : Nat} {w h : Int32} {pl : Nat → Int32} {cs : Nat → Option K5} {cx : Nat → Nat} {i : Nat} (hL : LaOk T gr la) (hI : LaIs gi la nb w h) (hP : PlIs gi la pl) (hC : CsIs T gi gr la cs cx) (hS : BdAny gi la) (hnb : nb ≤ 6) (hi : i < 16) (hK : slK w h nb (gup cs i none) pl) : Ct E mLA_takeAway [.ref la, .int (nI i)] T gi gr (fun T' gi' gr' v => T' = T ∧ gr' = gu gr (la + 2) i none ∧ v = none ∧ BdAny gi' la ∧ LaOff gi gi' la ∧ ∃ R, ((daP R w h nb (gup cs i none)).2 = 0 ∧ PlIs gi' la (slL R w h nb (gup cs i none) pl) ∨ ¬ (daP R w h nb (gup cs i none)).2 = 0 ∧ PlIs gi' la pl)) := by
  have hL' : LaOk T (gu gr (la + 2) i none) la := hL.gr (fun a ha => gu_off ha)
  refine Ct_of (ls := [.ref la, .int (nI i)]) (by decide) (gcat_cons rfl (gcat_cons rfl gcat_nil)) (Nat.le_of_ble_eq_true rfl) rfl ?_
  refine G_aload_n dLA_takeAway_0 rfl ?_
  refine G_getRs fLA_17 dLA_takeAway_1 hL.1 hL.2.2.1 ?_
  refine G_iload_n dLA_takeAway_4 rfl ?_
  refine G_null dLA_takeAway_5 ?_
  refine G_aastNN 3 (C := "DamageView$Constraint") dLA_takeAway_6 (by decide) hL.2.2.2.2.2.2.1 hL.2.2.2.2.2.2.2.1 (by decide) hi rfl ?_
  refine G_aload_n dLA_takeAway_7 rfl ?_
  refine G_callV (As := []) (rest := []) gLA_takeAway_LA_solve lLA_45.1 lLA_45.2.1 lLA_45.2.2.1 lLA_45.2.2.2 dLA_takeAway_8 rfl (Nat.le_of_ble_eq_true rfl) hL.1 ⟨by decide, by decide⟩ (cLA_solve hL' hI hP hC.clr hS hnb hK) ?_
  rintro _ g1 _ v ⟨rfl, rfl, hS1, hO1, R, ⟨hc, rfl, hP1⟩ | ⟨hc, rfl, hP1⟩⟩
  · refine G_st (st' := [.int 1]) rfl ?_
    refine G_pop dLA_takeAway_11 rfl ?_
    exact G_return dLA_takeAway_12 rfl (by decide) (by decide) ⟨rfl, rfl, rfl, hS1, hO1, R, Or.inl ⟨hc, hP1⟩⟩
  · refine G_st (st' := [.int 0]) rfl ?_
    refine G_pop dLA_takeAway_11 rfl ?_
    exact G_return dLA_takeAway_12 rfl (by decide) (by decide) ⟨rfl, rfl, rfl, hS1, hO1, R, Or.inr ⟨hc, hP1⟩⟩
theorem cLA_setSize {E : gE} {T : gT} {gi : gI} {gr : gR} {la nb : Nat} {w h : Int32} {pl : Nat → Int32} {cs : Nat → Option K5} {cx : Nat → Nat} {w2 h2 : Int32} (hL : LaOk T gr la) (hI : LaIs gi la nb w h) (hP : PlIs gi la pl) (hC : CsIs T gi gr la cs cx) (hS : BdAny gi la) (hnb : nb ≤ 6) (hK : slK w2 h2 nb cs pl) : Ct E mLA_setSize [.ref la, .int w2, .int h2] T gi gr (fun T' gi' gr' v => T' = T ∧ gr' = gr ∧ BdAny gi' la ∧ (∀ a, a ≠ la → a ≠ la + 1 → ¬ (la + 3 ≤ a ∧ a < la + 29) → gi' a = gi a) ∧ ∃ R, ((daP R w2 h2 nb cs).2 = 0 ∧ v = some (.int 1) ∧ LaIs gi' la nb w2 h2 ∧ PlIs gi' la (slL R w2 h2 nb cs pl) ∨ ¬ (daP R w2 h2 nb cs).2 = 0 ∧ v = some (.int 0) ∧ LaIs gi' la nb w h ∧ PlIs gi' la pl)) := by
  refine Ct_of (ls := [.ref la, .int w2, .int h2, .long 0, .long 0, .long 0]) (by decide) (gcat_cons rfl (gcat_cons rfl (gcat_cons rfl gcat_nil))) (Nat.le_of_ble_eq_true rfl) rfl ?_
  refine G_aload_n dLA_setSize_0 rfl ?_
  refine G_getI fLA_28 dLA_setSize_1 hL.1 ?_
  rw [hI.2.1]
  refine G_istore_n (ls' := [.ref la, .int w2, .int h2, .int w, .long 0, .long 0]) dLA_setSize_4 (by decide) rfl ?_
  refine G_aload_n dLA_setSize_5 rfl ?_
  refine G_getI fLA_32 dLA_setSize_6 hL.1 ?_
  rw [hI.2.2]
  refine G_istore (ls' := [.ref la, .int w2, .int h2, .int w, .int h, .long 0]) dLA_setSize_9 (by decide) rfl ?_
  refine G_aload_n dLA_setSize_11 rfl ?_
  refine G_iload_n dLA_setSize_12 rfl ?_
  refine G_putI wLA_28 (Or.inl rfl) dLA_setSize_13 hL.1 rfl rfl ?_
  refine G_aload_n dLA_setSize_16 rfl ?_
  refine G_iload_n dLA_setSize_17 rfl ?_
  refine G_putI wLA_32 (Or.inl rfl) dLA_setSize_18 hL.1 rfl rfl ?_
  generalize hg : gu (gu gi la 4 w2) la 5 h2 = g0
  have hoff : ∀ a, a ≠ la → g0 a = gi a := fun a ha => by rw [← hg, gu_off ha, gu_off ha]
  have hI0 : LaIs g0 la nb w2 h2 := ⟨by rw [← hg, gu_ne (Or.inr (by decide)), gu_ne (Or.inr (by decide))]; exact hI.1, by rw [← hg, gu_ne (Or.inr (by decide)), gu_same], by rw [← hg, gu_same]⟩
  have hP0 : PlIs g0 la pl := fun j hj => by rw [hoff _ (by omega)]; exact hP j hj
  have hC0 : CsIs T g0 gr la cs cx := hC.off (fun a ha => hoff a (by omega))
  have hS0 : BdAny g0 la := by
    obtain ⟨S, ec, s1, s2, s3⟩ := hS
    exact ⟨S, ec, by rw [hoff _ (by omega)]; exact s1, by rw [hoff _ (by omega)]; exact s2, fun i j hi hj => by rw [hoff _ (by omega)]; exact s3 i j hi hj⟩
  refine G_aload_n dLA_setSize_21 rfl ?_
  refine G_callV (As := []) (rest := []) gLA_setSize_LA_solve lLA_45.1 lLA_45.2.1 lLA_45.2.2.1 lLA_45.2.2.2 dLA_setSize_22 rfl (Nat.le_of_ble_eq_true rfl) hL.1 ⟨by decide, by decide⟩ (cLA_solve hL hI0 hP0 hC0 hS0 hnb hK) ?_
  rintro _ g1 _ v ⟨rfl, rfl, hS1, hO1, R, ⟨hc, rfl, hP1⟩ | ⟨hc, rfl, hP1⟩⟩
  · refine G_st (st' := [.int 1]) rfl ?_
    refine G_istore (ls' := [.ref la, .int w2, .int h2, .int w, .int h, .int 1]) dLA_setSize_25 (by decide) rfl ?_
    refine G_iload dLA_setSize_27 rfl ?_
    refine G_if_ne dLA_setSize_29 (fun h1 => ?_) (fun h1 => absurd h1 (by decide))
    refine G_iload dLA_setSize_43 rfl ?_
    exact G_ireturn dLA_setSize_45 rfl (nr_z (by decide)) (by decide) (by decide) ⟨rfl, rfl, hS1, fun a h1 h2 h3 => (hO1 a h2 h3).trans (hoff a h1), R, Or.inl ⟨hc, rfl, hI0.lo hO1, hP1⟩⟩
  · refine G_st (st' := [.int 0]) rfl ?_
    refine G_istore (ls' := [.ref la, .int w2, .int h2, .int w, .int h, .int 0]) dLA_setSize_25 (by decide) rfl ?_
    refine G_iload dLA_setSize_27 rfl ?_
    refine G_if_ne dLA_setSize_29 (fun h1 => absurd rfl h1) (fun h1 => ?_)
    refine G_aload_n dLA_setSize_32 rfl ?_
    refine G_iload_n dLA_setSize_33 rfl ?_
    refine G_putI wLA_28 (Or.inl rfl) dLA_setSize_34 hL.1 rfl rfl ?_
    refine G_aload_n dLA_setSize_37 rfl ?_
    refine G_iload dLA_setSize_38 rfl ?_
    refine G_putI wLA_32 (Or.inl rfl) dLA_setSize_40 hL.1 rfl rfl ?_
    refine G_iload dLA_setSize_43 rfl ?_
    have hoff2 : ∀ a, a ≠ la → gu (gu g1 la 4 w) la 5 h a = g1 a := fun a ha => by rw [gu_off ha, gu_off ha]
    refine G_ireturn dLA_setSize_45 rfl (nr_z (by decide)) (by decide) (by decide) ⟨rfl, rfl, ?_, fun a h1 h2 h3 => by rw [hoff2 a h1]; exact (hO1 a h2 h3).trans (hoff a h1), R, Or.inr ⟨hc, rfl, ⟨?_, ?_, gu_same⟩, fun j hj => by rw [hoff2 _ (by omega)]; exact hP1 j hj⟩⟩
    · obtain ⟨S, ec, s1, s2, s3⟩ := hS1
      exact ⟨S, ec, by rw [hoff2 _ (by omega)]; exact s1, by rw [hoff2 _ (by omega)]; exact s2, fun i j hi hj => by rw [hoff2 _ (by omega)]; exact s3 i j hi hj⟩
    · rw [gu_ne (Or.inr (by decide)), gu_ne (Or.inr (by decide))]; exact (hI0.lo hO1).1
    · rw [gu_ne (Or.inr (by decide)), gu_same]
