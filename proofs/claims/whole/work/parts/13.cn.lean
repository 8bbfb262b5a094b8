abbrev K5 : Type := Nat × Nat × Int32 × Nat × Nat
def CnIs (gi : gI) (ck : Nat) (κ : K5) : Prop := gi ck 0 = nI κ.2.2.2.2 ∧ gi ck 1 = nI κ.1 ∧ gi ck 2 = nI κ.2.1 ∧ gi ck 3 = κ.2.2.1 ∧ gi ck 4 = nI κ.2.2.2.1
def CnOk (κ : K5) : Prop := κ.1 < 24 ∧ κ.2.1 < 24 ∧ κ.2.2.2.1 < 2 ∧ κ.2.2.2.2 < 4
def erI (c a b : Int32) (fm : Nat) : Int32 := if fm = 0 then (if 0 ≤ c - (a - b) then c - (a - b) else 0 - (c - (a - b))) else (if 0 < c - (a - b) then c - (a - b) else 0)
theorem nI_z {a : Nat} (ha : a < 2 ^ 31) : nI a = 0 ↔ a = 0 := nI_eq (b := 0) ha (by decide)
def demM (R : Nat → Nat → Int32) (κ : K5) (ec : Nat) : Nat → Nat → Int32 := if κ.2.2.2.1 = 0 then fixM R κ.1 κ.2.1 κ.2.2.1 ec else kamM R κ.2.1 κ.1 (-κ.2.2.1) ec
def demC (R : Nat → Nat → Int32) (κ : K5) (ec : Nat) (cf : Int32) : Int32 := if κ.2.2.2.1 = 0 then fixC R κ.1 κ.2.1 κ.2.2.1 ec cf else kamC R κ.2.1 κ.1 (-κ.2.2.1) cf
def demK (R : Nat → Nat → Int32) (κ : K5) (ec : Nat) : Prop := (κ.2.2.2.1 = 0 → KOk R κ.1 κ.2.1 κ.2.2.1 ∧ KOk (kamM R κ.1 κ.2.1 κ.2.2.1 ec) κ.2.1 κ.1 (-κ.2.2.1)) ∧ (¬ κ.2.2.2.1 = 0 → KOk R κ.2.1 κ.1 (-κ.2.2.1))
def lowD (R : Nat → Nat → Int32) (κ : K5) : Int32 := nearI κ.2.2.1 (-(R κ.1 κ.2.1)) (R κ.2.1 κ.1)
def lowE (R : Nat → Nat → Int32) (κ : K5) : Int32 := if R κ.2.1 κ.1 < κ.2.2.1 then R κ.2.1 κ.1 else κ.2.2.1
def lerM (R : Nat → Nat → Int32) (κ : K5) (ec : Nat) : Nat → Nat → Int32 := if κ.2.2.2.1 = 0 then fixM R κ.1 κ.2.1 (lowD R κ) ec else kamM R κ.2.1 κ.1 (-(lowE R κ)) ec
def lerC (R : Nat → Nat → Int32) (κ : K5) (ec : Nat) (cf : Int32) : Int32 := if κ.2.2.2.1 = 0 then fixC R κ.1 κ.2.1 (lowD R κ) ec cf else kamC R κ.2.1 κ.1 (-(lowE R κ)) cf
def lerK (R : Nat → Nat → Int32) (κ : K5) (ec : Nat) : Prop := (κ.2.2.2.1 = 0 → KOk R κ.1 κ.2.1 (lowD R κ) ∧ KOk (kamM R κ.1 κ.2.1 (lowD R κ) ec) κ.2.1 κ.1 (-(lowD R κ))) ∧ (¬ κ.2.2.2.1 = 0 → KOk R κ.2.1 κ.1 (-(lowE R κ)))
theorem cCN_errorIn {E : gE} {T : gT} {gi : gI} {gr : gR} {ck pl : Nat} {κ : K5} (ht : T.1 ck = 7) (hC : CnIs gi ck κ) (hk : CnOk κ) (hp : T.1 pl = 100 ∧ T.2.1 pl = 24) : Ct E mCN_errorIn [.ref ck, .ref pl] T gi gr (fun T' gi' gr' v => T' = T ∧ gi' = gi ∧ gr' = gr ∧ v = some (.int (erI κ.2.2.1 (gi pl κ.1) (gi pl κ.2.1) κ.2.2.2.1))) := by
  refine Ct_of (ls := [.ref ck, .ref pl, .long 0]) (by decide) (gcat_cons rfl (gcat_cons rfl gcat_nil)) (Nat.le_of_ble_eq_true rfl) rfl ?_
  refine G_aload_n dCN_errorIn_0 rfl ?_
  refine G_getI fCN_18 dCN_errorIn_1 ht ?_
  rw [hC.2.2.2.1]
  refine G_aload_n dCN_errorIn_4 rfl ?_
  refine G_aload_n dCN_errorIn_5 rfl ?_
  refine G_getI fCN_9 dCN_errorIn_6 ht ?_
  rw [hC.2.1]
  refine G_ialdN dCN_errorIn_9 hp.1 hp.2 (by decide) hk.1 ?_
  refine G_aload_n dCN_errorIn_10 rfl ?_
  refine G_aload_n dCN_errorIn_11 rfl ?_
  refine G_getI fCN_15 dCN_errorIn_12 ht ?_
  rw [hC.2.2.1]
  refine G_ialdN dCN_errorIn_15 hp.1 hp.2 (by decide) hk.2.1 ?_
  refine G_isub dCN_errorIn_16 ?_
  refine G_isub dCN_errorIn_17 ?_
  refine G_istore_n (ls' := [.ref ck, .ref pl, .int ((κ.2.2.1) - ((gi (pl) κ.1) - (gi (pl) κ.2.1)))]) dCN_errorIn_18 (by decide) rfl ?_
  refine G_aload_n dCN_errorIn_19 rfl ?_
  refine G_getI fCN_21 dCN_errorIn_20 ht ?_
  rw [hC.2.2.2.2]
  refine G_if_ne dCN_errorIn_23 (fun h1 => ?_) (fun h1 => ?_)
  · refine G_iconst (v := 0) dCN_errorIn_33 (by decide) ?_
    refine G_iload_n dCN_errorIn_34 rfl ?_
    refine G_mmax jCN_33.1 jCN_33.2.1 jCN_33.2.2.1 jCN_33.2.2.2 dCN_errorIn_35 (by decide) (Nat.le_of_ble_eq_true rfl) (by decide) (by decide) ?_
    exact G_ireturn dCN_errorIn_38 rfl rfl (by decide) (by decide) ⟨rfl, rfl, rfl, by unfold erI; rw [if_neg (fun z => h1 ((nI_z (by have := hk.2.2.1; omega)).mpr z))]⟩
  · refine G_iload_n dCN_errorIn_26 rfl ?_
    refine G_mabs jCN_27.1 jCN_27.2.1 jCN_27.2.2.1 jCN_27.2.2.2 dCN_errorIn_27 (by decide) (Nat.le_of_ble_eq_true rfl) (by decide) (by decide) ?_
    refine G_goto dCN_errorIn_30 ?_
    exact G_ireturn dCN_errorIn_38 rfl rfl (by decide) (by decide) ⟨rfl, rfl, rfl, by unfold erI; rw [if_pos ((nI_z (by have := hk.2.2.1; omega)).mp h1)]⟩
theorem cCN_demandIn {E : gE} {T : gT} {gi : gI} {gr : gR} {ck bd ec : Nat} {κ : K5} {cf : Int32} {R : Nat → Nat → Int32} (ht : T.1 ck = 7) (hC : CnIs gi ck κ) (hk : CnOk κ) (hB : BdOk T gr bd) (hI : BdIs gi bd R cf ec) (hec24 : ec ≤ 24) (hD : demK R κ ec) : Ct E mCN_demandIn [.ref ck, .ref bd] T gi gr (fun T' gi' gr' v => T' = T ∧ gr' = gr ∧ v = none ∧ BdIs gi' bd (demM R κ ec) (demC R κ ec cf) ec ∧ BdOff gi gi' bd) := by
  refine Ct_of (ls := [.ref ck, .ref bd]) (by decide) (gcat_cons rfl (gcat_cons rfl gcat_nil)) (Nat.le_of_ble_eq_true rfl) rfl ?_
  refine G_aload_n dCN_demandIn_0 rfl ?_
  refine G_getI fCN_21 dCN_demandIn_1 ht ?_
  rw [hC.2.2.2.2]
  refine G_if_ne dCN_demandIn_4 (fun h1 => ?_) (fun h1 => ?_)
  · refine G_aload_n dCN_demandIn_26 rfl ?_
    refine G_aload_n dCN_demandIn_27 rfl ?_
    refine G_getI fCN_9 dCN_demandIn_28 ht ?_
    rw [hC.2.1]
    refine G_aload_n dCN_demandIn_31 rfl ?_
    refine G_getI fCN_15 dCN_demandIn_32 ht ?_
    rw [hC.2.2.1]
    refine G_aload_n dCN_demandIn_35 rfl ?_
    refine G_getI fCN_18 dCN_demandIn_36 ht ?_
    rw [hC.2.2.2.1]
    refine G_callV (As := [.int (nI κ.1), .int (nI κ.2.1), .int κ.2.2.1]) (rest := []) gCN_demandIn_BD_keepAtLeast lCN_43.1 lCN_43.2.1 lCN_43.2.2.1 lCN_43.2.2.2 dCN_demandIn_39 rfl (Nat.le_of_ble_eq_true rfl) hB.1 ⟨by decide, by decide⟩ (cBD_keepAtLeast hB hI hk.1 hk.2.1 hec24 (hD.2 (fun z => h1 ((nI_z (by have := hk.2.2.1; omega)).mpr z)))) ?_
    rintro _ g1 _ _ ⟨rfl, rfl, rfl, hI1, hO1⟩
    refine G_st (st' := []) rfl ?_
    exact G_return dCN_demandIn_42 rfl (by decide) (by decide) ⟨rfl, rfl, rfl, by unfold demM demC; rw [if_neg (fun z => h1 ((nI_z (by have := hk.2.2.1; omega)).mpr z)), if_neg (fun z => h1 ((nI_z (by have := hk.2.2.1; omega)).mpr z))]; exact hI1, hO1⟩
  · refine G_aload_n dCN_demandIn_7 rfl ?_
    refine G_aload_n dCN_demandIn_8 rfl ?_
    refine G_getI fCN_9 dCN_demandIn_9 ht ?_
    rw [hC.2.1]
    refine G_aload_n dCN_demandIn_12 rfl ?_
    refine G_getI fCN_15 dCN_demandIn_13 ht ?_
    rw [hC.2.2.1]
    refine G_aload_n dCN_demandIn_16 rfl ?_
    refine G_getI fCN_18 dCN_demandIn_17 ht ?_
    rw [hC.2.2.2.1]
    refine G_callV (As := [.int (nI κ.1), .int (nI κ.2.1), .int κ.2.2.1]) (rest := []) gCN_demandIn_BD_fix lCN_37.1 lCN_37.2.1 lCN_37.2.2.1 lCN_37.2.2.2 dCN_demandIn_20 rfl (Nat.le_of_ble_eq_true rfl) hB.1 ⟨by decide, by decide⟩ (cBD_fix hB hI hk.1 hk.2.1 hec24 (hD.1 ((nI_z (by have := hk.2.2.1; omega)).mp h1)).1 (hD.1 ((nI_z (by have := hk.2.2.1; omega)).mp h1)).2) ?_
    rintro _ g1 _ _ ⟨rfl, rfl, rfl, hI1, hO1⟩
    refine G_st (st' := []) rfl ?_
    refine G_goto dCN_demandIn_23 ?_
    exact G_return dCN_demandIn_42 rfl (by decide) (by decide) ⟨rfl, rfl, rfl, by unfold demM demC; rw [if_pos ((nI_z (by have := hk.2.2.1; omega)).mp h1), if_pos ((nI_z (by have := hk.2.2.1; omega)).mp h1)]; exact hI1, hO1⟩
theorem cCN_leastErrorIn {E : gE} {T : gT} {gi : gI} {gr : gR} {ck bd ec : Nat} {κ : K5} {cf : Int32} {R : Nat → Nat → Int32} (ht : T.1 ck = 7) (hC : CnIs gi ck κ) (hk : CnOk κ) (hB : BdOk T gr bd) (hI : BdIs gi bd R cf ec) (hec24 : ec ≤ 24) (hD : lerK R κ ec) : Ct E mCN_leastErrorIn [.ref ck, .ref bd] T gi gr (fun T' gi' gr' v => T' = T ∧ gr' = gr ∧ v = none ∧ BdIs gi' bd (lerM R κ ec) (lerC R κ ec cf) ec ∧ BdOff gi gi' bd) := by
  refine Ct_of (ls := [.ref ck, .ref bd]) (by decide) (gcat_cons rfl (gcat_cons rfl gcat_nil)) (Nat.le_of_ble_eq_true rfl) rfl ?_
  refine G_aload_n dCN_leastErrorIn_0 rfl ?_
  refine G_getI fCN_21 dCN_leastErrorIn_1 ht ?_
  rw [hC.2.2.2.2]
  refine G_if_ne dCN_leastErrorIn_4 (fun h1 => ?_) (fun h1 => ?_)
  · refine G_aload_n dCN_leastErrorIn_27 rfl ?_
    refine G_aload_n dCN_leastErrorIn_28 rfl ?_
    refine G_getI fCN_9 dCN_leastErrorIn_29 ht ?_
    rw [hC.2.1]
    refine G_aload_n dCN_leastErrorIn_32 rfl ?_
    refine G_getI fCN_15 dCN_leastErrorIn_33 ht ?_
    rw [hC.2.2.1]
    refine G_aload_n dCN_leastErrorIn_36 rfl ?_
    refine G_getI fCN_18 dCN_leastErrorIn_37 ht ?_
    rw [hC.2.2.2.1]
    refine G_aload_n dCN_leastErrorIn_40 rfl ?_
    refine G_aload_n dCN_leastErrorIn_41 rfl ?_
    refine G_getI fCN_9 dCN_leastErrorIn_42 ht ?_
    rw [hC.2.1]
    refine G_aload_n dCN_leastErrorIn_45 rfl ?_
    refine G_getI fCN_15 dCN_leastErrorIn_46 ht ?_
    rw [hC.2.2.1]
    refine G_callV (As := [.int (nI κ.1), .int (nI κ.2.1)]) (rest := [.int κ.2.2.1, .int (nI κ.2.1), .int (nI κ.1), .ref bd]) gCN_leastErrorIn_BD_highest lCN_50.1 lCN_50.2.1 lCN_50.2.2.1 lCN_50.2.2.2 dCN_leastErrorIn_49 rfl (Nat.le_of_ble_eq_true rfl) hB.1 ⟨by decide, by decide⟩ (cBD_highest hB hk.1 hk.2.1) ?_
    rintro _ _ _ _ ⟨rfl, rfl, rfl, rfl⟩
    rw [hI.2.2 _ _ hk.2.1 hk.1]
    refine G_st (st' := [.int (R κ.2.1 κ.1), .int κ.2.2.1, .int (nI κ.2.1), .int (nI κ.1), .ref bd]) rfl ?_
    refine G_mmin jCN_53.1 jCN_53.2.1 jCN_53.2.2.1 jCN_53.2.2.2 dCN_leastErrorIn_52 (by decide) (Nat.le_of_ble_eq_true rfl) (by decide) (by decide) ?_
    refine G_callV (As := [.int (nI κ.1), .int (nI κ.2.1), .int (if R κ.2.1 κ.1 < κ.2.2.1 then R κ.2.1 κ.1 else κ.2.2.1)]) (rest := []) gCN_leastErrorIn_BD_keepAtLeast lCN_43.1 lCN_43.2.1 lCN_43.2.2.1 lCN_43.2.2.2 dCN_leastErrorIn_55 rfl (Nat.le_of_ble_eq_true rfl) hB.1 ⟨by decide, by decide⟩ (cBD_keepAtLeast hB hI hk.1 hk.2.1 hec24 (hD.2 (fun z => h1 ((nI_z (by have := hk.2.2.1; omega)).mpr z)))) ?_
    rintro _ g1 _ _ ⟨rfl, rfl, rfl, hI1, hO1⟩
    refine G_st (st' := []) rfl ?_
    exact G_return dCN_leastErrorIn_58 rfl (by decide) (by decide) ⟨rfl, rfl, rfl, by unfold lerM lerC; rw [if_neg (fun z => h1 ((nI_z (by have := hk.2.2.1; omega)).mpr z)), if_neg (fun z => h1 ((nI_z (by have := hk.2.2.1; omega)).mpr z))]; exact hI1, hO1⟩
  · refine G_aload_n dCN_leastErrorIn_7 rfl ?_
    refine G_aload_n dCN_leastErrorIn_8 rfl ?_
    refine G_getI fCN_9 dCN_leastErrorIn_9 ht ?_
    rw [hC.2.1]
    refine G_aload_n dCN_leastErrorIn_12 rfl ?_
    refine G_getI fCN_15 dCN_leastErrorIn_13 ht ?_
    rw [hC.2.2.1]
    refine G_aload_n dCN_leastErrorIn_16 rfl ?_
    refine G_getI fCN_18 dCN_leastErrorIn_17 ht ?_
    rw [hC.2.2.2.1]
    refine G_callV (As := [.int (nI κ.1), .int (nI κ.2.1), .int κ.2.2.1]) (rest := []) gCN_leastErrorIn_BD_fixNear lCN_46.1 lCN_46.2.1 lCN_46.2.2.1 lCN_46.2.2.2 dCN_leastErrorIn_20 rfl (Nat.le_of_ble_eq_true rfl) hB.1 ⟨by decide, by decide⟩ (cBD_fixNear hB hI hk.1 hk.2.1 hec24 (hD.1 ((nI_z (by have := hk.2.2.1; omega)).mp h1)).1 (hD.1 ((nI_z (by have := hk.2.2.1; omega)).mp h1)).2) ?_
    rintro _ g1 _ _ ⟨rfl, rfl, rfl, hI1, hO1⟩
    refine G_st (st' := [.int (nearI κ.2.2.1 (-(R κ.1 κ.2.1)) (R κ.2.1 κ.1))]) rfl ?_
    refine G_pop dCN_leastErrorIn_23 rfl ?_
    refine G_goto dCN_leastErrorIn_24 ?_
    exact G_return dCN_leastErrorIn_58 rfl (by decide) (by decide) ⟨rfl, rfl, rfl, by unfold lerM lerC; rw [if_pos ((nI_z (by have := hk.2.2.1; omega)).mp h1), if_pos ((nI_z (by have := hk.2.2.1; omega)).mp h1)]; exact hI1, hO1⟩
