def ScOk (T : gT) (gr : gR) (sc : Nat) : Prop := T.1 sc = 2 ∧ gr sc 0 = some (sc + 1) ∧ gr sc 1 = some (sc + 2) ∧ T.1 (sc + 1) = 100 ∧ T.2.1 (sc + 1) = 384 ∧ T.1 (sc + 2) = 101 ∧ T.2.1 (sc + 2) = 384
def bI (b : Bool) : Int32 := if b = true then 1 else 0
theorem bI_01 (b : Bool) : bI b = 0 ∨ bI b = 1 := by cases b <;> simp [bI]
theorem bI_0 {b : Bool} : bI b = 0 ↔ b = false := by cases b <;> simp [bI]
def DmIs (gi : gI) (sc : Nat) (D : Nat → Bool) : Prop := ∀ j, j < 384 → gi (sc + 2) j = bI (D j)
def FrIs (gi : gI) (sc : Nat) (F : Nat → Int32) : Prop := ∀ j, j < 384 → gi (sc + 1) j = F j
def dmA (D : Nat → Bool) (q : A4) (n : Nat) : Nat → Bool := fun j => D j || (decide (j < n) && decide (arH q (nI (j % 24)) (nI (j / 24))))
def cntB (D : Nat → Bool) : Nat → Nat
  | 0 => 0
  | n + 1 => cntB D n + (if D n = true then 1 else 0)
theorem cntB_le (D : Nat → Bool) : ∀ n, cntB D n ≤ n
  | 0 => Nat.le_refl _
  | n + 1 => by
    have := cntB_le D n
    unfold cntB
    split <;> omega
theorem nI_pt (i j : Nat) : nI j * 24 + nI i = nI (j * 24 + i) := by
  rw [show (24 : Int32) = nI 24 from rfl, pk_mul, nI_add]
theorem cSC_pointOf {E : gE} {T : gT} {gi : gI} {gr : gR} {i j : Nat}  : Ct E mSC_pointOf [.int (nI i), .int (nI j)] T gi gr (fun T' gi' gr' v => T' = T ∧ gi' = gi ∧ gr' = gr ∧ v = some (.int (nI (j * 24 + i)))) := by
  refine Ct_of (ls := [.int (nI i), .int (nI j)]) (by decide) (gcat_cons rfl (gcat_cons rfl gcat_nil)) (Nat.le_of_ble_eq_true rfl) rfl ?_
  refine G_iload_n dSC_pointOf_0 rfl ?_
  refine G_bipush (v := 24) dSC_pointOf_1 (by decide) ?_
  refine G_imul dSC_pointOf_3 ?_
  refine G_iload_n dSC_pointOf_4 rfl ?_
  refine G_iadd dSC_pointOf_5 ?_
  exact G_ireturn dSC_pointOf_6 rfl rfl (by decide) (by decide) ⟨rfl, rfl, rfl, by rw [← nI_pt]⟩
theorem cSC_isDamaged {E : gE} {T : gT} {gi : gI} {gr : gR} {sc i j : Nat} {D : Nat → Bool} (hS : ScOk T gr sc) (hD : DmIs gi sc D) (hi : i < 24) (hj : j < 16) : Ct E mSC_isDamaged [.ref sc, .int (nI i), .int (nI j)] T gi gr (fun T' gi' gr' v => T' = T ∧ gi' = gi ∧ gr' = gr ∧ v = some (.int (bI (D (j * 24 + i))))) := by
  refine Ct_of (ls := [.ref sc, .int (nI i), .int (nI j)]) (by decide) (gcat_cons rfl (gcat_cons rfl (gcat_cons rfl gcat_nil))) (Nat.le_of_ble_eq_true rfl) rfl ?_
  refine G_aload_n dSC_isDamaged_0 rfl ?_
  refine G_getRs fSC_15 dSC_isDamaged_1 hS.1 hS.2.2.1 ?_
  refine G_iload_n dSC_isDamaged_4 rfl ?_
  refine G_iload_n dSC_isDamaged_5 rfl ?_
  refine G_callS (As := [.int (nI i), .int (nI j)]) (rest := [.ref (sc + 2)]) gSC_isDamaged_SC_pointOf lSC_25.1 lSC_25.2 dSC_isDamaged_6 rfl (Nat.le_of_ble_eq_true rfl) ⟨by decide, by decide⟩ cSC_pointOf ?_
  rintro _ _ _ _ ⟨rfl, rfl, rfl, rfl⟩
  refine G_st (st' := [.int (nI (j * 24 + i)), .ref (sc + 2)]) rfl ?_
  refine G_zaldN dSC_isDamaged_9 hS.2.2.2.2.2.1 hS.2.2.2.2.2.2 (by decide) (by omega) ?_
  rw [hD (j * 24 + i) (by omega)]
  exact G_ireturn dSC_isDamaged_10 rfl (nr_z (bI_01 _)) (by decide) (by decide) ⟨rfl, rfl, rfl, rfl⟩
theorem cSC_frameAt {E : gE} {T : gT} {gi : gI} {gr : gR} {sc i j : Nat} {F : Nat → Int32} (hS : ScOk T gr sc) (hF : FrIs gi sc F) (hi : i < 24) (hj : j < 16) : Ct E mSC_frameAt [.ref sc, .int (nI i), .int (nI j)] T gi gr (fun T' gi' gr' v => T' = T ∧ gi' = gi ∧ gr' = gr ∧ v = some (.int (F (j * 24 + i)))) := by
  refine Ct_of (ls := [.ref sc, .int (nI i), .int (nI j)]) (by decide) (gcat_cons rfl (gcat_cons rfl (gcat_cons rfl gcat_nil))) (Nat.le_of_ble_eq_true rfl) rfl ?_
  refine G_aload_n dSC_frameAt_0 rfl ?_
  refine G_getRs fSC_9 dSC_frameAt_1 hS.1 hS.2.1 ?_
  refine G_iload_n dSC_frameAt_4 rfl ?_
  refine G_iload_n dSC_frameAt_5 rfl ?_
  refine G_callS (As := [.int (nI i), .int (nI j)]) (rest := [.ref (sc + 1)]) gSC_frameAt_SC_pointOf lSC_25.1 lSC_25.2 dSC_frameAt_6 rfl (Nat.le_of_ble_eq_true rfl) ⟨by decide, by decide⟩ cSC_pointOf ?_
  rintro _ _ _ _ ⟨rfl, rfl, rfl, rfl⟩
  refine G_st (st' := [.int (nI (j * 24 + i)), .ref (sc + 1)]) rfl ?_
  refine G_ialdN dSC_frameAt_9 hS.2.2.2.1 hS.2.2.2.2.1 (by decide) (by omega) ?_
  rw [hF (j * 24 + i) (by omega)]
  exact G_ireturn dSC_frameAt_10 rfl rfl (by decide) (by decide) ⟨rfl, rfl, rfl, rfl⟩
theorem cSC_repair {E : gE} {T : gT} {gi : gI} {gr : gR} {sc i j : Nat} {F : Nat → Int32} {D : Nat → Bool} {c : Int32} (hS : ScOk T gr sc) (hF : FrIs gi sc F) (hD : DmIs gi sc D) (hi : i < 24) (hj : j < 16) : Ct E mSC_repair [.ref sc, .int (nI i), .int (nI j), .int c] T gi gr (fun T' gi' gr' v => T' = T ∧ gr' = gr ∧ v = some (.int (if F (j * 24 + i) = c then 0 else 1)) ∧ FrIs gi' sc (gup F (j * 24 + i) c) ∧ DmIs gi' sc (gup D (j * 24 + i) false) ∧ ∀ a, a ≠ sc + 1 → a ≠ sc + 2 → gi' a = gi a) := by
  refine Ct_of (ls := [.ref sc, .int (nI i), .int (nI j), .int c, .long 0, .long 0]) (by decide) (gcat_cons rfl (gcat_cons rfl (gcat_cons rfl (gcat_cons rfl gcat_nil)))) (Nat.le_of_ble_eq_true rfl) rfl ?_
  refine G_iload_n dSC_repair_0 rfl ?_
  refine G_iload_n dSC_repair_1 rfl ?_
  refine G_callS (As := [.int (nI i), .int (nI j)]) (rest := []) gSC_repair_SC_pointOf lSC_25.1 lSC_25.2 dSC_repair_2 rfl (Nat.le_of_ble_eq_true rfl) ⟨by decide, by decide⟩ cSC_pointOf ?_
  rintro _ _ _ _ ⟨rfl, rfl, rfl, rfl⟩
  refine G_st (st' := [.int (nI (j * 24 + i))]) rfl ?_
  refine G_istore (ls' := [.ref sc, .int (nI i), .int (nI j), .int c, .int (nI (j * 24 + i)), .long 0]) dSC_repair_5 (by decide) rfl ?_
  refine G_aload_n dSC_repair_7 rfl ?_
  refine G_getRs fSC_9 dSC_repair_8 hS.1 hS.2.1 ?_
  refine G_iload dSC_repair_11 rfl ?_
  refine G_ialdN dSC_repair_13 hS.2.2.2.1 hS.2.2.2.2.1 (by decide) (by omega) ?_
  rw [hF (j * 24 + i) (by omega)]
  refine G_iload_n dSC_repair_14 rfl ?_
  refine G_icmp_eq dSC_repair_15 (fun h1 => ?_) (fun h1 => ?_)
  · refine G_iconst (v := 0) dSC_repair_22 (by decide) ?_
    refine G_istore (ls' := [.ref sc, .int (nI i), .int (nI j), .int c, .int (nI (j * 24 + i)), .int 0]) dSC_repair_23 (by decide) rfl ?_
    refine G_aload_n dSC_repair_25 rfl ?_
    refine G_getRs fSC_9 dSC_repair_26 hS.1 hS.2.1 ?_
    refine G_iload dSC_repair_29 rfl ?_
    refine G_iload_n dSC_repair_31 rfl ?_
    refine G_iastN dSC_repair_32 hS.2.2.2.1 hS.2.2.2.2.1 (by decide) (by omega) ?_
    refine G_aload_n dSC_repair_33 rfl ?_
    refine G_getRs fSC_15 dSC_repair_34 hS.1 hS.2.2.1 ?_
    refine G_iload dSC_repair_37 rfl ?_
    refine G_iconst (v := 0) dSC_repair_39 (by decide) ?_
    refine G_zastN dSC_repair_40 hS.2.2.2.2.2.1 hS.2.2.2.2.2.2 (by decide) (by omega) (Or.inl rfl) ?_
    refine G_iload dSC_repair_41 rfl ?_
    refine G_ireturn dSC_repair_43 rfl (nr_z (by decide)) (by decide) (by decide) ⟨rfl, rfl, by rw [if_pos h1], ?_, ?_, ?_⟩
    · intro a ha
      rw [gu_off (by omega)]
      by_cases e : a = j * 24 + i
      · subst e; rw [gu_same, gup_same]
      · rw [gu_ne (Or.inr e), gup_ne e]; exact hF a ha
    · intro a ha
      by_cases e : a = j * 24 + i
      · subst e; rw [gu_same, gup_same]; rfl
      · rw [gu_ne (Or.inr e), gu_off (by omega), gup_ne e]; exact hD a ha
    · intro a h1 h2
      rw [gu_off h2, gu_off h1]
  · refine G_iconst (v := 1) dSC_repair_18 (by decide) ?_
    refine G_goto dSC_repair_19 ?_
    refine G_istore (ls' := [.ref sc, .int (nI i), .int (nI j), .int c, .int (nI (j * 24 + i)), .int 1]) dSC_repair_23 (by decide) rfl ?_
    refine G_aload_n dSC_repair_25 rfl ?_
    refine G_getRs fSC_9 dSC_repair_26 hS.1 hS.2.1 ?_
    refine G_iload dSC_repair_29 rfl ?_
    refine G_iload_n dSC_repair_31 rfl ?_
    refine G_iastN dSC_repair_32 hS.2.2.2.1 hS.2.2.2.2.1 (by decide) (by omega) ?_
    refine G_aload_n dSC_repair_33 rfl ?_
    refine G_getRs fSC_15 dSC_repair_34 hS.1 hS.2.2.1 ?_
    refine G_iload dSC_repair_37 rfl ?_
    refine G_iconst (v := 0) dSC_repair_39 (by decide) ?_
    refine G_zastN dSC_repair_40 hS.2.2.2.2.2.1 hS.2.2.2.2.2.2 (by decide) (by omega) (Or.inl rfl) ?_
    refine G_iload dSC_repair_41 rfl ?_
    refine G_ireturn dSC_repair_43 rfl (nr_z (by decide)) (by decide) (by decide) ⟨rfl, rfl, by rw [if_neg h1], ?_, ?_, ?_⟩
    · intro a ha
      rw [gu_off (by omega)]
      by_cases e : a = j * 24 + i
      · subst e; rw [gu_same, gup_same]
      · rw [gu_ne (Or.inr e), gup_ne e]; exact hF a ha
    · intro a ha
      by_cases e : a = j * 24 + i
      · subst e; rw [gu_same, gup_same]; rfl
      · rw [gu_ne (Or.inr e), gu_off (by omega), gup_ne e]; exact hD a ha
    · intro a h1 h2
      rw [gu_off h2, gu_off h1]
theorem dp_loop {E : gE} {T : gT} {gi : gI} {gr : gR} {sc : Nat} {D : Nat → Bool} {Q : gQ} (hS : ScOk T gr sc) (hD : DmIs gi sc D) (kx : Q T gi gr (some (.int (nI (cntB D 384))))) : ∀ (n i : Nat), i + n = 384 → G E mSC_damagedPoints 4 [.ref sc, .int (nI (cntB D i)), .int (nI i)] [] T gi gr 0 0 Q := by
  intro n
  induction n with
  | zero =>
    intro i hi
    have hi : i = 384 := by omega
    subst hi
    refine G_iload_n dSC_damagedPoints_4 rfl ?_
    refine G_aload_n dSC_damagedPoints_5 rfl ?_
    refine G_getRs fSC_15 dSC_damagedPoints_6 hS.1 hS.2.2.1 ?_
    refine G_alen 1 (v := nI 384) dSC_damagedPoints_9 (by decide) hS.2.2.2.2.2.1 (by rw [hS.2.2.2.2.2.2]; rfl) ?_
    refine G_icmp_ge dSC_damagedPoints_10 (fun h1 => ?_) (fun h1 => ?_)
    · refine G_iload_n dSC_damagedPoints_31 rfl ?_
      exact G_ireturn dSC_damagedPoints_32 rfl rfl (by decide) (by decide) kx
    · exact absurd (nI_le (by omega) (by omega)) h1
  | succ n ih =>
    intro i hi
    have hc := cntB_le D i
    refine G_iload_n dSC_damagedPoints_4 rfl ?_
    refine G_aload_n dSC_damagedPoints_5 rfl ?_
    refine G_getRs fSC_15 dSC_damagedPoints_6 hS.1 hS.2.2.1 ?_
    refine G_alen 1 (v := nI 384) dSC_damagedPoints_9 (by decide) hS.2.2.2.2.2.1 (by rw [hS.2.2.2.2.2.2]; rfl) ?_
    refine G_icmp_ge dSC_damagedPoints_10 (fun h1 => ?_) (fun h1 => ?_)
    · exact absurd h1 (nI_ge (by omega) (by omega))
    · refine G_aload_n dSC_damagedPoints_13 rfl ?_
      refine G_getRs fSC_15 dSC_damagedPoints_14 hS.1 hS.2.2.1 ?_
      refine G_iload_n dSC_damagedPoints_17 rfl ?_
      refine G_zaldN dSC_damagedPoints_18 hS.2.2.2.2.2.1 hS.2.2.2.2.2.2 (by decide) (by omega) ?_
      rw [hD i (by omega)]
      refine G_if_eq dSC_damagedPoints_19 (fun h2 => ?_) (fun h2 => ?_)
      · refine G_iinc (ls' := [.ref sc, .int (nI (cntB D i)), .int (nI (i + 1))]) dSC_damagedPoints_25 rfl (nI_inc i) (by decide) rfl ?_
        refine G_goto dSC_damagedPoints_28 ?_
        have e : cntB D (i + 1) = cntB D i := by
          show cntB D i + _ = _
          rw [if_neg (by rw [bI_0.mp h2]; decide), Nat.add_zero]
        have := ih (i + 1) (by omega)
        rw [e] at this
        exact this
      · refine G_iinc (ls' := [.ref sc, .int (nI (cntB D i + 1)), .int (nI i)]) dSC_damagedPoints_22 rfl (nI_inc _) (by decide) rfl ?_
        refine G_iinc (ls' := [.ref sc, .int (nI (cntB D i + 1)), .int (nI (i + 1))]) dSC_damagedPoints_25 rfl (nI_inc i) (by decide) rfl ?_
        refine G_goto dSC_damagedPoints_28 ?_
        have e : cntB D (i + 1) = cntB D i + 1 := by
          show cntB D i + _ = _
          rw [if_pos (by cases hb : D i with | true => rfl | false => exact absurd (bI_0.mpr hb) h2)]
        have := ih (i + 1) (by omega)
        rw [e] at this
        exact this
theorem cSC_damagedPoints {E : gE} {T : gT} {gi : gI} {gr : gR} {sc : Nat} {D : Nat → Bool} (hS : ScOk T gr sc) (hD : DmIs gi sc D) : Ct E mSC_damagedPoints [.ref sc] T gi gr (fun T' gi' gr' v => T' = T ∧ gi' = gi ∧ gr' = gr ∧ v = some (.int (nI (cntB D 384)))) := by
  refine Ct_of (ls := [.ref sc, .long 0, .long 0]) (by decide) (gcat_cons rfl gcat_nil) (Nat.le_of_ble_eq_true rfl) rfl ?_
  refine G_iconst (v := nI 0) dSC_damagedPoints_0 (by decide +kernel) ?_
  refine G_istore_n (ls' := [.ref sc, .int (nI 0), .long 0]) dSC_damagedPoints_1 (by decide) rfl ?_
  refine G_iconst (v := nI 0) dSC_damagedPoints_2 (by decide +kernel) ?_
  refine G_istore_n (ls' := [.ref sc, .int (nI 0), .int (nI 0)]) dSC_damagedPoints_3 (by decide) rfl ?_
  exact dp_loop hS hD ⟨rfl, rfl, rfl, rfl⟩ 384 0 rfl
theorem dmA_step0 {D : Nat → Bool} {q : A4} {gi : gI} {sc x y : Nat} (hx : x < 24) (hD : DmIs gi sc (dmA D q (y * 24 + x))) (h : ¬ arH q (nI x) (nI y)) : DmIs gi sc (dmA D q (y * 24 + (x + 1))) := by
  intro j hj
  rw [hD j hj]
  congr 1
  unfold dmA
  by_cases e : j = y * 24 + x
  · subst e
    rw [show (y * 24 + x) % 24 = x by omega, show (y * 24 + x) / 24 = y by omega, decide_eq_false h, Bool.and_false, Bool.and_false]
  · rw [show decide (j < y * 24 + x) = decide (j < y * 24 + (x + 1)) by
      apply decide_eq_decide.mpr
      omega]
theorem dmA_step1 {D : Nat → Bool} {q : A4} {gi : gI} {sc x y : Nat} (hx : x < 24) (hD : DmIs gi sc (dmA D q (y * 24 + x))) (h : arH q (nI x) (nI y)) : DmIs (gu gi (sc + 2) (y * 24 + x) 1) sc (dmA D q (y * 24 + (x + 1))) := by
  intro j hj
  by_cases e : j = y * 24 + x
  · subst e
    rw [gu_same]
    unfold dmA
    rw [show (y * 24 + x) % 24 = x by omega, show (y * 24 + x) / 24 = y by omega, decide_eq_true h, decide_eq_true (show y * 24 + x < y * 24 + (x + 1) by omega), Bool.and_true, Bool.or_true]
    rfl
  · rw [gu_ne (Or.inr e), hD j hj]
    congr 1
    unfold dmA
    rw [show decide (j < y * 24 + x) = decide (j < y * 24 + (x + 1)) by
      apply decide_eq_decide.mpr
      omega]
theorem da_in {E : gE} {T : gT} {g0 : gI} {gr : gR} {sc a y : Nat} {D : Nat → Bool} {q : A4} {Q : gQ} (hS : ScOk T gr sc) (hta : T.1 a = 6) (hne : a ≠ sc + 2) (hA0 : ArIs g0 a q) (hy : y < 16) (kx : ∀ gi : gI, DmIs gi sc (dmA D q (y * 24 + 24)) → Off1 g0 gi (sc + 2) → G E mSC_damageArea 42 [.ref sc, .ref a, .int (nI y), .int (nI 24)] [] T gi gr 0 0 Q) : ∀ (n x : Nat), x + n = 24 → ∀ gi : gI, DmIs gi sc (dmA D q (y * 24 + x)) → Off1 g0 gi (sc + 2) → G E mSC_damageArea 10 [.ref sc, .ref a, .int (nI y), .int (nI x)] [] T gi gr 0 0 Q := by
  intro n
  induction n with
  | zero =>
    intro x hx gi hD hO
    have hx : x = 24 := by omega
    subst hx
    refine G_iload_n dSC_damageArea_10 rfl ?_
    refine G_bipush (v := 24) dSC_damageArea_11 (by decide) ?_
    refine G_icmp_ge dSC_damageArea_13 (fun h1 => ?_) (fun h1 => ?_)
    · exact kx gi hD hO
    · exact absurd (nI_le (a := 24) (b := 24) (by omega) (by decide)) h1
  | succ n ih =>
    intro x hxn gi hD hO
    have hx : x < 24 := by omega
    have hA : ArIs gi a q := hA0.off hO hne
    refine G_iload_n dSC_damageArea_10 rfl ?_
    refine G_bipush (v := 24) dSC_damageArea_11 (by decide) ?_
    refine G_icmp_ge dSC_damageArea_13 (fun h1 => ?_) (fun h1 => ?_)
    · exact absurd h1 (nI_ge (a := x) (b := 24) (by omega) (by decide))
    · refine G_aload_n dSC_damageArea_16 rfl ?_
      refine G_iload_n dSC_damageArea_17 rfl ?_
      refine G_iload_n dSC_damageArea_18 rfl ?_
      refine G_callV (As := [.int (nI x), .int (nI y)]) (rest := []) gSC_damageArea_AR_has lSC_19.1 lSC_19.2.1 lSC_19.2.2.1 lSC_19.2.2.2 dSC_damageArea_19 rfl (Nat.le_of_ble_eq_true rfl) hta ⟨by decide, by decide⟩ (cAR_has hta hA) ?_
      rintro _ _ _ _ ⟨rfl, rfl, rfl, rfl⟩
      refine G_st (st' := [.int (if arH q (nI x) (nI y) then 1 else 0)]) rfl ?_
      refine G_if_eq dSC_damageArea_22 (fun h2 => ?_) (fun h2 => ?_)
      · refine G_iinc (ls' := [.ref sc, .ref a, .int (nI y), .int (nI (x + 1))]) dSC_damageArea_36 rfl (nI_inc x) (by decide) rfl ?_
        refine G_goto dSC_damageArea_39 ?_
        exact ih (x + 1) (by omega) _ (dmA_step0 hx hD (fun c => by rw [if_pos c] at h2; exact absurd h2 (by decide))) hO
      · refine G_aload_n dSC_damageArea_25 rfl ?_
        refine G_getRs fSC_15 dSC_damageArea_26 hS.1 hS.2.2.1 ?_
        refine G_iload_n dSC_damageArea_29 rfl ?_
        refine G_iload_n dSC_damageArea_30 rfl ?_
        refine G_callS (As := [.int (nI x), .int (nI y)]) (rest := [.ref (sc + 2)]) gSC_damageArea_SC_pointOf lSC_25.1 lSC_25.2 dSC_damageArea_31 rfl (Nat.le_of_ble_eq_true rfl) ⟨by decide, by decide⟩ cSC_pointOf ?_
        rintro _ _ _ _ ⟨rfl, rfl, rfl, rfl⟩
        refine G_st (st' := [.int (nI (y * 24 + x)), .ref (sc + 2)]) rfl ?_
        refine G_iconst (v := 1) dSC_damageArea_34 (by decide) ?_
        refine G_zastN dSC_damageArea_35 hS.2.2.2.2.2.1 hS.2.2.2.2.2.2 (by decide) (by omega) (Or.inr rfl) ?_
        refine G_iinc (ls' := [.ref sc, .ref a, .int (nI y), .int (nI (x + 1))]) dSC_damageArea_36 rfl (nI_inc x) (by decide) rfl ?_
        refine G_goto dSC_damageArea_39 ?_
        exact ih (x + 1) (by omega) _ (dmA_step1 hx hD (by by_cases c : arH q (nI x) (nI y); exact c; exact absurd (if_neg c) h2)) (fun b hb => by rw [gu_off hb]; exact hO b hb)
theorem da_out {E : gE} {T : gT} {g0 : gI} {gr : gR} {sc a : Nat} {D : Nat → Bool} {q : A4} {Q : gQ} (hS : ScOk T gr sc) (hta : T.1 a = 6) (hne : a ≠ sc + 2) (hA0 : ArIs g0 a q) (kx : ∀ gi : gI, DmIs gi sc (dmA D q 384) → Off1 g0 gi (sc + 2) → Q T gi gr none) : ∀ (n y : Nat), y + n = 16 → ∀ (gi : gI) (v3 : Value), DmIs gi sc (dmA D q (y * 24)) → Off1 g0 gi (sc + 2) → G E mSC_damageArea 2 [.ref sc, .ref a, .int (nI y), v3] [] T gi gr 0 0 Q := by
  intro n
  induction n with
  | zero =>
    intro y hy gi v3 hD hO
    have hy : y = 16 := by omega
    subst hy
    refine G_iload_n dSC_damageArea_2 rfl ?_
    refine G_bipush (v := 16) dSC_damageArea_3 (by decide) ?_
    refine G_icmp_ge dSC_damageArea_5 (fun h1 => ?_) (fun h1 => ?_)
    · exact G_return dSC_damageArea_48 rfl (by decide) (by decide) (kx gi hD hO)
    · exact absurd (nI_le (a := 16) (b := 16) (by omega) (by decide)) h1
  | succ n ih =>
    intro y hyn gi v3 hD hO
    refine G_iload_n dSC_damageArea_2 rfl ?_
    refine G_bipush (v := 16) dSC_damageArea_3 (by decide) ?_
    refine G_icmp_ge dSC_damageArea_5 (fun h1 => ?_) (fun h1 => ?_)
    · exact absurd h1 (nI_ge (a := y) (b := 16) (by omega) (by decide))
    · refine G_iconst (v := nI 0) dSC_damageArea_8 (by decide +kernel) ?_
      refine G_istore_n (ls' := [.ref sc, .ref a, .int (nI y), .int (nI 0)]) dSC_damageArea_9 (by decide) rfl ?_
      refine da_in hS hta hne hA0 (by omega) (fun g1 hD1 hO1 => ?_) 24 0 rfl gi hD hO
      refine G_iinc (ls' := [.ref sc, .ref a, .int (nI (y + 1)), .int (nI 24)]) dSC_damageArea_42 rfl (nI_inc y) (by decide) rfl ?_
      refine G_goto dSC_damageArea_45 ?_
      exact ih (y + 1) (by omega) g1 _ (by rw [show (y + 1) * 24 = y * 24 + 24 by omega]; exact hD1) hO1
theorem cSC_damageArea {E : gE} {T : gT} {gi : gI} {gr : gR} {sc a : Nat} {D : Nat → Bool} {q : A4} (hS : ScOk T gr sc) (hta : T.1 a = 6) (hne : a ≠ sc + 2) (hA : ArIs gi a q) (hD : DmIs gi sc D) : Ct E mSC_damageArea [.ref sc, .ref a] T gi gr (fun T' gi' gr' v => T' = T ∧ gr' = gr ∧ v = none ∧ DmIs gi' sc (dmA D q 384) ∧ Off1 gi gi' (sc + 2)) := by
  refine Ct_of (ls := [.ref sc, .ref a, .long 0, .long 0]) (by decide) (gcat_cons rfl (gcat_cons rfl gcat_nil)) (Nat.le_of_ble_eq_true rfl) rfl ?_
  refine G_iconst (v := nI 0) dSC_damageArea_0 (by decide +kernel) ?_
  refine G_istore_n (ls' := [.ref sc, .ref a, .int (nI 0), .long 0]) dSC_damageArea_1 (by decide) rfl ?_
  refine da_out hS hta hne hA (fun g1 hD1 hO1 => ⟨rfl, rfl, rfl, hD1, hO1⟩) 16 0 rfl gi _ (fun j hj => ?_) (fun _ _ => rfl)
  rw [hD j hj]
  unfold dmA
  rw [decide_eq_false (show ¬ j < 0 * 24 by omega), Bool.false_and, Bool.or_false]
