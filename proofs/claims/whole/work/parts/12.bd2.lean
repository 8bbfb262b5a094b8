def nearI (w l m : Int32) : Int32 := if l ≤ w then (if w ≤ m then w else m) else l
def KOk (R : Nat → Nat → Int32) (p q : Nat) (d : Int32) : Prop := d < R q p → -(R p q) ≤ d → ¬ (¬ 268435456 ≤ R p q ∧ R p q + d < R p p)
def fixM (R : Nat → Nat → Int32) (p q : Nat) (d : Int32) (ec : Nat) : Nat → Nat → Int32 := kamM (kamM R p q d ec) q p (-d) ec
def fixC (R : Nat → Nat → Int32) (p q : Nat) (d : Int32) (ec : Nat) (cf : Int32) : Int32 := kamC (kamM R p q d ec) q p (-d) (kamC R p q d cf)
theorem cDV_nearest {E : gE} {T : gT} {gi : gI} {gr : gR} {x l m : Int32}  : Ct E mDV_nearest [.int x, .int l, .int m] T gi gr (fun T' gi' gr' v => T' = T ∧ gi' = gi ∧ gr' = gr ∧ v = some (.int (nearI x l m))) := by
  refine Ct_of (ls := [.int x, .int l, .int m]) (by decide) (gcat_cons rfl (gcat_cons rfl (gcat_cons rfl gcat_nil))) (Nat.le_of_ble_eq_true rfl) rfl ?_
  refine G_iload_n dDV_nearest_0 rfl ?_
  refine G_iload_n dDV_nearest_1 rfl ?_
  refine G_icmp_ge dDV_nearest_2 (fun h1 => ?_) (fun h1 => ?_)
  · refine G_iload_n dDV_nearest_7 rfl ?_
    refine G_iload_n dDV_nearest_8 rfl ?_
    refine G_icmp_le dDV_nearest_9 (fun h2 => ?_) (fun h2 => ?_)
    · refine G_iload_n dDV_nearest_16 rfl ?_
      exact G_ireturn dDV_nearest_17 rfl rfl (by decide) (by decide) ⟨rfl, rfl, rfl, by simp [nearI, h1, h2]⟩
    · refine G_iload_n dDV_nearest_12 rfl ?_
      refine G_goto dDV_nearest_13 ?_
      exact G_ireturn dDV_nearest_17 rfl rfl (by decide) (by decide) ⟨rfl, rfl, rfl, by simp [nearI, h1, h2]⟩
  · refine G_iload_n dDV_nearest_5 rfl ?_
    exact G_ireturn dDV_nearest_6 rfl rfl (by decide) (by decide) ⟨rfl, rfl, rfl, by simp [nearI, h1]⟩
theorem cAR_init {E : gE} {T : gT} {gi : gI} {gr : gR} {a : Nat}  : Ct E mAR_init [.ref a] T gi gr (fun T' gi' gr' v => T' = T ∧ gi' = gi ∧ gr' = gr ∧ v = none) := by
  refine Ct_of (ls := [.ref a]) (by decide) (gcat_cons rfl gcat_nil) (Nat.le_of_ble_eq_true rfl) rfl ?_
  refine G_aload_n dAR_init_0 rfl ?_
  refine G_objInit oAR_3.1 oAR_3.2.1 oAR_3.2.2 dAR_init_1 (by decide) (Nat.le_of_ble_eq_true rfl) ?_
  exact G_return dAR_init_4 rfl (by decide) (by decide) ⟨rfl, rfl, rfl, rfl⟩
theorem JF_loop {E : gE} {T : gT} {g0 : gI} {gr : gR} {a len : Nat} {x : Int32} {Q : gQ} (ht : T.1 a = 100) (hl : T.2.1 a = len) (hb : len < 2 ^ 31) (kx : ∀ gi : gI, Off1 g0 gi a → (∀ j, j < len → gi a j = x) → Q T gi gr none) : ∀ (n i : Nat), i + n = len → ∀ gi : gI, Off1 g0 gi a → (∀ j, j < i → gi a j = x) → G E mJF_fill 5 [.ref a, .int x, .int (nI i), .int (nI len)] [] T gi gr 0 0 Q := by
  intro n
  induction n with
  | zero =>
    intro i hi gi hO hA
    refine G_iload_n dJF_fill_5 rfl ?_
    refine G_iload_n dJF_fill_6 rfl ?_
    refine G_icmp_ge dJF_fill_7 (fun h1 => ?_) (fun h1 => ?_)
    · exact G_return dJF_fill_20 rfl (by decide) (by decide) (kx gi hO (fun j hj => hA j (by omega)))
    · exact absurd (nI_le (by omega) (by omega)) h1
  | succ n ih =>
    intro i hi gi hO hA
    refine G_iload_n dJF_fill_5 rfl ?_
    refine G_iload_n dJF_fill_6 rfl ?_
    refine G_icmp_ge dJF_fill_7 (fun h1 => ?_) (fun h1 => ?_)
    · exact absurd h1 (nI_ge (by omega) (by omega))
    · refine G_aload_n dJF_fill_10 rfl ?_
      refine G_iload_n dJF_fill_11 rfl ?_
      refine G_iload_n dJF_fill_12 rfl ?_
      refine G_iastN dJF_fill_13 ht hl hb (by omega) ?_
      refine G_iinc (ls' := [.ref a, .int x, .int (nI (i + 1)), .int (nI len)]) dJF_fill_14 rfl (nI_inc i) (by decide) rfl ?_
      refine G_goto dJF_fill_17 ?_
      refine ih (i + 1) (by omega) _ (fun q hq => by rw [gu_off hq]; exact hO q hq) (fun j hj => ?_)
      rw [gu_row]
      by_cases e : j = i
      · rw [if_pos e]
      · rw [if_neg e]; exact hA j (by omega)
theorem cJF_fill {E : gE} {T : gT} {gi : gI} {gr : gR} {a len : Nat} {x : Int32} (ht : T.1 a = 100) (hl : T.2.1 a = len) (hb : len < 2 ^ 31) : Ct E mJF_fill [.ref a, .int x] T gi gr (fun T' gi' gr' v => T' = T ∧ gr' = gr ∧ v = none ∧ Off1 gi gi' a ∧ ∀ j, j < len → gi' a j = x) := by
  refine Ct_of (ls := [.ref a, .int x, .long 0, .long 0]) (by decide) (gcat_cons rfl (gcat_cons rfl gcat_nil)) (Nat.le_of_ble_eq_true rfl) rfl ?_
  refine G_iconst (v := nI 0) dJF_fill_0 (by decide +kernel) ?_
  refine G_istore_n (ls' := [.ref a, .int x, .int (nI 0), .long 0]) dJF_fill_1 (by decide) rfl ?_
  refine G_aload_n dJF_fill_2 rfl ?_
  refine G_alen 0 (v := nI len) dJF_fill_3 (by decide) ht (by rw [hl]; rfl) ?_
  refine G_istore_n (ls' := [.ref a, .int x, .int (nI 0), .int (nI len)]) dJF_fill_4 (by decide) rfl ?_
  exact JF_loop ht hl hb (fun g2 hO hA => ⟨rfl, rfl, rfl, hO, hA⟩) len 0 (Nat.zero_add _) gi (fun _ _ => rfl) (fun j hj => absurd hj (Nat.not_lt_zero _))
theorem cBD_fix {E : gE} {T : gT} {gi : gI} {gr : gR} {bd p q ec : Nat} {d cf : Int32} {R : Nat → Nat → Int32} (hB : BdOk T gr bd) (hI : BdIs gi bd R cf ec) (hp : p < 24) (hq : q < 24) (hec24 : ec ≤ 24) (hk1 : KOk R p q d) (hk2 : KOk (kamM R p q d ec) q p (-d)) : Ct E mBD_fix [.ref bd, .int (nI p), .int (nI q), .int d] T gi gr (fun T' gi' gr' v => T' = T ∧ gr' = gr ∧ v = none ∧ BdIs gi' bd (fixM R p q d ec) (fixC R p q d ec cf) ec ∧ BdOff gi gi' bd) := by
  refine Ct_of (ls := [.ref bd, .int (nI p), .int (nI q), .int d]) (by decide) (gcat_cons rfl (gcat_cons rfl (gcat_cons rfl (gcat_cons rfl gcat_nil)))) (Nat.le_of_ble_eq_true rfl) rfl ?_
  refine G_aload_n dBD_fix_0 rfl ?_
  refine G_iload_n dBD_fix_1 rfl ?_
  refine G_iload_n dBD_fix_2 rfl ?_
  refine G_iload_n dBD_fix_3 rfl ?_
  refine G_callV (As := [.int (nI p), .int (nI q), .int d]) (rest := []) gBD_fix_BD_keepAtMost lBD_37.1 lBD_37.2.1 lBD_37.2.2.1 lBD_37.2.2.2 dBD_fix_4 rfl (Nat.le_of_ble_eq_true rfl) hB.1 ⟨by decide, by decide⟩ (cBD_keepAtMost hB hI hp hq hec24 hk1) ?_
  rintro _ g1 _ _ ⟨rfl, rfl, rfl, hI1, hO1⟩
  refine G_st (st' := []) rfl ?_
  refine G_aload_n dBD_fix_7 rfl ?_
  refine G_iload_n dBD_fix_8 rfl ?_
  refine G_iload_n dBD_fix_9 rfl ?_
  refine G_iload_n dBD_fix_10 rfl ?_
  refine G_ineg dBD_fix_11 ?_
  refine G_callV (As := [.int (nI q), .int (nI p), .int (-(d))]) (rest := []) gBD_fix_BD_keepAtMost lBD_37.1 lBD_37.2.1 lBD_37.2.2.1 lBD_37.2.2.2 dBD_fix_12 rfl (Nat.le_of_ble_eq_true rfl) hB.1 ⟨by decide, by decide⟩ (cBD_keepAtMost hB hI1 hq hp hec24 hk2) ?_
  rintro _ g2 _ _ ⟨rfl, rfl, rfl, hI2, hO2⟩
  refine G_st (st' := []) rfl ?_
  exact G_return dBD_fix_15 rfl (by decide) (by decide) ⟨rfl, rfl, rfl, hI2, hO1.tr hO2⟩
theorem cBD_keepAtLeast {E : gE} {T : gT} {gi : gI} {gr : gR} {bd p q ec : Nat} {d cf : Int32} {R : Nat → Nat → Int32} (hB : BdOk T gr bd) (hI : BdIs gi bd R cf ec) (hp : p < 24) (hq : q < 24) (hec24 : ec ≤ 24) (hk1 : KOk R q p (-d)) : Ct E mBD_keepAtLeast [.ref bd, .int (nI p), .int (nI q), .int d] T gi gr (fun T' gi' gr' v => T' = T ∧ gr' = gr ∧ v = none ∧ BdIs gi' bd (kamM R q p (-d) ec) (kamC R q p (-d) cf) ec ∧ BdOff gi gi' bd) := by
  refine Ct_of (ls := [.ref bd, .int (nI p), .int (nI q), .int d]) (by decide) (gcat_cons rfl (gcat_cons rfl (gcat_cons rfl (gcat_cons rfl gcat_nil)))) (Nat.le_of_ble_eq_true rfl) rfl ?_
  refine G_aload_n dBD_keepAtLeast_0 rfl ?_
  refine G_iload_n dBD_keepAtLeast_1 rfl ?_
  refine G_iload_n dBD_keepAtLeast_2 rfl ?_
  refine G_iload_n dBD_keepAtLeast_3 rfl ?_
  refine G_ineg dBD_keepAtLeast_4 ?_
  refine G_callV (As := [.int (nI q), .int (nI p), .int (-(d))]) (rest := []) gBD_keepAtLeast_BD_keepAtMost lBD_37.1 lBD_37.2.1 lBD_37.2.2.1 lBD_37.2.2.2 dBD_keepAtLeast_5 rfl (Nat.le_of_ble_eq_true rfl) hB.1 ⟨by decide, by decide⟩ (cBD_keepAtMost hB hI hq hp hec24 hk1) ?_
  rintro _ g1 _ _ ⟨rfl, rfl, rfl, hI1, hO1⟩
  refine G_st (st' := []) rfl ?_
  exact G_return dBD_keepAtLeast_8 rfl (by decide) (by decide) ⟨rfl, rfl, rfl, hI1, hO1⟩
theorem cBD_fixNear {E : gE} {T : gT} {gi : gI} {gr : gR} {bd p q ec : Nat} {d cf : Int32} {R : Nat → Nat → Int32} (hB : BdOk T gr bd) (hI : BdIs gi bd R cf ec) (hp : p < 24) (hq : q < 24) (hec24 : ec ≤ 24) (hk1 : KOk R p q (nearI d (-(R p q)) (R q p))) (hk2 : KOk (kamM R p q (nearI d (-(R p q)) (R q p)) ec) q p (-(nearI d (-(R p q)) (R q p)))) : Ct E mBD_fixNear [.ref bd, .int (nI p), .int (nI q), .int d] T gi gr (fun T' gi' gr' v => T' = T ∧ gr' = gr ∧ v = some (.int (nearI d (-(R p q)) (R q p))) ∧ BdIs gi' bd (fixM R p q (nearI d (-(R p q)) (R q p)) ec) (fixC R p q (nearI d (-(R p q)) (R q p)) ec cf) ec ∧ BdOff gi gi' bd) := by
  refine Ct_of (ls := [.ref bd, .int (nI p), .int (nI q), .int d, .long 0]) (by decide) (gcat_cons rfl (gcat_cons rfl (gcat_cons rfl (gcat_cons rfl gcat_nil)))) (Nat.le_of_ble_eq_true rfl) rfl ?_
  refine G_iload_n dBD_fixNear_0 rfl ?_
  refine G_aload_n dBD_fixNear_1 rfl ?_
  refine G_iload_n dBD_fixNear_2 rfl ?_
  refine G_iload_n dBD_fixNear_3 rfl ?_
  refine G_callV (As := [.int (nI p), .int (nI q)]) (rest := [.int d]) gBD_fixNear_BD_lowest lBD_41.1 lBD_41.2.1 lBD_41.2.2.1 lBD_41.2.2.2 dBD_fixNear_4 rfl (Nat.le_of_ble_eq_true rfl) hB.1 ⟨by decide, by decide⟩ (cBD_lowest hB hp hq) ?_
  rintro _ _ _ _ ⟨rfl, rfl, rfl, rfl⟩
  rw [hI.2.2 p q hp hq]
  refine G_st (st' := [.int (-(R p q)), .int d]) rfl ?_
  refine G_aload_n dBD_fixNear_7 rfl ?_
  refine G_iload_n dBD_fixNear_8 rfl ?_
  refine G_iload_n dBD_fixNear_9 rfl ?_
  refine G_callV (As := [.int (nI p), .int (nI q)]) (rest := [.int (-(R p q)), .int d]) gBD_fixNear_BD_highest lBD_44.1 lBD_44.2.1 lBD_44.2.2.1 lBD_44.2.2.2 dBD_fixNear_10 rfl (Nat.le_of_ble_eq_true rfl) hB.1 ⟨by decide, by decide⟩ (cBD_highest hB hp hq) ?_
  rintro _ _ _ _ ⟨rfl, rfl, rfl, rfl⟩
  rw [hI.2.2 q p hq hp]
  refine G_st (st' := [.int (R q p), .int (-(R p q)), .int d]) rfl ?_
  refine G_callSN (As := [.int d, .int (-(R p q)), .int (R q p)]) (rest := []) gBD_fixNear_DV_nearest lBD_47.1 lBD_47.2 dBD_fixNear_13 rfl (Nat.le_of_ble_eq_true rfl) ⟨by decide, by decide⟩ cDV_nearest ?_
  rintro _ _ _ _ ⟨rfl, rfl, rfl, rfl⟩
  refine G_st (st' := [.int (nearI d (-(R p q)) (R q p))]) rfl ?_
  refine G_istore (ls' := [.ref bd, .int (nI p), .int (nI q), .int d, .int (nearI d (-(R p q)) (R q p))]) dBD_fixNear_16 (by decide) rfl ?_
  refine G_aload_n dBD_fixNear_18 rfl ?_
  refine G_iload_n dBD_fixNear_19 rfl ?_
  refine G_iload_n dBD_fixNear_20 rfl ?_
  refine G_iload dBD_fixNear_21 rfl ?_
  refine G_callV (As := [.int (nI p), .int (nI q), .int (nearI d (-(R p q)) (R q p))]) (rest := []) gBD_fixNear_BD_keepAtMost lBD_37.1 lBD_37.2.1 lBD_37.2.2.1 lBD_37.2.2.2 dBD_fixNear_23 rfl (Nat.le_of_ble_eq_true rfl) hB.1 ⟨by decide, by decide⟩ (cBD_keepAtMost hB hI hp hq hec24 hk1) ?_
  rintro _ g1 _ _ ⟨rfl, rfl, rfl, hI1, hO1⟩
  refine G_st (st' := []) rfl ?_
  refine G_aload_n dBD_fixNear_26 rfl ?_
  refine G_iload_n dBD_fixNear_27 rfl ?_
  refine G_iload_n dBD_fixNear_28 rfl ?_
  refine G_iload dBD_fixNear_29 rfl ?_
  refine G_ineg dBD_fixNear_31 ?_
  refine G_callV (As := [.int (nI q), .int (nI p), .int (-(nearI d (-(R p q)) (R q p)))]) (rest := []) gBD_fixNear_BD_keepAtMost lBD_37.1 lBD_37.2.1 lBD_37.2.2.1 lBD_37.2.2.2 dBD_fixNear_32 rfl (Nat.le_of_ble_eq_true rfl) hB.1 ⟨by decide, by decide⟩ (cBD_keepAtMost hB hI1 hq hp hec24 hk2) ?_
  rintro _ g2 _ _ ⟨rfl, rfl, rfl, hI2, hO2⟩
  refine G_st (st' := []) rfl ?_
  refine G_iload dBD_fixNear_35 rfl ?_
  exact G_ireturn dBD_fixNear_37 rfl rfl (by decide) (by decide) ⟨rfl, rfl, rfl, hI2, hO1.tr hO2⟩
def opR (R : Nat → Nat → Int32) (ec : Nat) : Nat → Nat → Int32 := fun i j => if i < ec then (if i = j then 0 else 268435456) else R i j
theorem mn24 {ec : Nat} (h : ec ≤ 24) : (if (24 : Int32) < nI ec then (24 : Int32) else nI ec) = nI ec := by
  rw [if_neg]
  exact nI_nlt (a := 24) (by omega) (by decide)
theorem op_loop {E : gE} {T : gT} {g0 : gI} {gr : gR} {bd ec : Nat} {R : Nat → Nat → Int32} {Q : gQ} (hB : BdOk T gr bd) (hec24 : ec ≤ 24) (v1 : Value) (kx : ∀ gi : gI, BdIs gi bd (opR R ec) 0 ec → BdOff g0 gi bd → Q T gi gr none) : ∀ (n i : Nat), i + n = ec → ∀ gi : gI, BdIs gi bd (opR R i) 0 ec → BdOff g0 gi bd → G E mBD_open 17 [.ref bd, v1, .int (nI i)] [] T gi gr 0 0 Q := by
  intro n
  induction n with
  | zero =>
    intro i hi gi hI hO
    refine G_iload_n dBD_open_17 rfl ?_
    refine G_aload_n dBD_open_18 rfl ?_
    refine G_getI fBD_22 dBD_open_19 hB.1 ?_
    rw [hI.1]
    refine G_icmp_ge dBD_open_22 (fun h1 => ?_) (fun h1 => ?_)
    · refine G_return dBD_open_51 rfl (by decide) (by decide) (kx gi ?_ hO)
      rw [show ec = i by omega]
      rw [show ec = i by omega] at hI
      exact hI
    · exact absurd (nI_le (by omega) (by omega)) h1
  | succ n ih =>
    intro i hi gi hI hO
    have hi24 : i < 24 := by omega
    refine G_iload_n dBD_open_17 rfl ?_
    refine G_aload_n dBD_open_18 rfl ?_
    refine G_getI fBD_22 dBD_open_19 hB.1 ?_
    rw [hI.1]
    refine G_icmp_ge dBD_open_22 (fun h1 => ?_) (fun h1 => ?_)
    · exact absurd h1 (nI_ge (by omega) (by omega))
    · refine G_aload_n dBD_open_25 rfl ?_
      refine G_getRs fBD_11 dBD_open_26 hB.1 hB.2.2.2.1 ?_
      refine G_iload_n dBD_open_29 rfl ?_
      refine G_aaldsN 4 dBD_open_30 (by decide) hB.2.1 hB.2.2.1 (by decide) hi24 (hB.2.2.2.2 i hi24).1 ?_
      refine G_ldc (v := 268435456) dBD_open_31 kBD_30 ?_
      refine G_callS (As := [.ref (bd + 2 + i), .int 268435456]) (rest := []) gBD_open_JF_fill lBD_31.1 lBD_31.2 dBD_open_33 rfl (Nat.le_of_ble_eq_true rfl) ⟨by decide, by decide⟩ (cJF_fill (hB.2.2.2.2 i hi24).2.1 (hB.2.2.2.2 i hi24).2.2 (by decide)) ?_
      rintro _ g1 _ _ ⟨rfl, rfl, rfl, hO1, hA1⟩
      refine G_st (st' := []) rfl ?_
      refine G_aload_n dBD_open_36 rfl ?_
      refine G_getRs fBD_11 dBD_open_37 hB.1 hB.2.2.2.1 ?_
      refine G_iload_n dBD_open_40 rfl ?_
      refine G_aaldsN 4 dBD_open_41 (by decide) hB.2.1 hB.2.2.1 (by decide) hi24 (hB.2.2.2.2 i hi24).1 ?_
      refine G_iload_n dBD_open_42 rfl ?_
      refine G_iconst (v := 0) dBD_open_43 (by decide) ?_
      refine G_iastN dBD_open_44 (hB.2.2.2.2 i hi24).2.1 (hB.2.2.2.2 i hi24).2.2 (by decide) hi24 ?_
      refine G_iinc (ls' := [.ref bd, v1, .int (nI (i + 1))]) dBD_open_45 rfl (nI_inc i) (by decide) rfl ?_
      refine G_goto dBD_open_48 ?_
      have hr : ∀ a, a ≠ bd + 2 + i → gu g1 (bd + 2 + i) i 0 a = gi a := fun a ha => by rw [gu_off ha]; exact hO1 a ha
      refine ih (i + 1) (by omega) _ ⟨by rw [hr bd (by omega)]; exact hI.1, by rw [hr bd (by omega)]; exact hI.2.1, fun a j ha hj => ?_⟩ (fun a ha => by rw [hr a (by omega)]; exact hO a ha)
      by_cases e : a = i
      · subst e
        rw [gu_row]
        unfold opR
        rw [if_pos (Nat.lt_succ_self _)]
        by_cases ej : j = a
        · rw [if_pos ej, if_pos ej.symm]
        · rw [if_neg ej, if_neg (fun z => ej z.symm)]
          exact hA1 j hj
      · rw [hr (bd + 2 + a) (by omega), hI.2.2 a j ha hj]
        unfold opR
        by_cases c : a < i
        · simp only [if_pos c, if_pos (show a < i + 1 by omega)]
        · simp only [if_neg c, if_neg (show ¬ a < i + 1 by omega)]
theorem cBD_open {E : gE} {T : gT} {gi : gI} {gr : gR} {bd ec ec0 : Nat} {cf : Int32} {R : Nat → Nat → Int32} (hB : BdOk T gr bd) (hI : BdIs gi bd R cf ec0) (hec24 : ec ≤ 24) : Ct E mBD_open [.ref bd, .int (nI ec)] T gi gr (fun T' gi' gr' v => T' = T ∧ gr' = gr ∧ v = none ∧ BdIs gi' bd (opR R ec) 0 ec ∧ BdOff gi gi' bd) := by
  refine Ct_of (ls := [.ref bd, .int (nI ec), .long 0]) (by decide) (gcat_cons rfl (gcat_cons rfl gcat_nil)) (Nat.le_of_ble_eq_true rfl) rfl ?_
  refine G_aload_n dBD_open_0 rfl ?_
  refine G_iload_n dBD_open_1 rfl ?_
  refine G_bipush (v := 24) dBD_open_2 (by decide) ?_
  refine G_mmin jBD_16.1 jBD_16.2.1 jBD_16.2.2.1 jBD_16.2.2.2 dBD_open_4 (by decide) (Nat.le_of_ble_eq_true rfl) (by decide) (by decide) ?_
  rw [mn24 hec24]
  refine G_putI wBD_22 (Or.inl rfl) dBD_open_7 hB.1 rfl rfl ?_
  refine G_aload_n dBD_open_10 rfl ?_
  refine G_iconst (v := 0) dBD_open_11 (by decide) ?_
  refine G_putI wBD_26 (Or.inl rfl) dBD_open_12 hB.1 (nr_z (Or.inl rfl)) (ft_z (Or.inl rfl)) ?_
  refine G_iconst (v := nI 0) dBD_open_15 (by decide +kernel) ?_
  refine G_istore_n (ls' := [.ref bd, .int (nI ec), .int (nI 0)]) dBD_open_16 (by decide) rfl ?_
  refine op_loop (g0 := gi) (R := R) hB hec24 _ (fun g2 hI2 hO2 => ⟨rfl, rfl, rfl, hI2, hO2⟩) ec 0 (Nat.zero_add _) _ ⟨?_, gu_same, fun i j hi hj => ?_⟩ (fun a ha => by rw [gu_off (by omega), gu_off (by omega)])
  · rw [gu_ne (Or.inr (by decide)), gu_same]
  · rw [gu_off (by omega), gu_off (by omega), hI.2.2 i j hi hj]
    unfold opR
    rw [if_neg (Nat.not_lt_zero _)]
