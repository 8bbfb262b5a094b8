def BxOk (T : gT) (gr : gR) (b : Nat) : Prop := T.1 b = 5 ∧ gr b 3 = some (b + 1) ∧ gr b 4 = some (b + 2) ∧ T.1 (b + 1) = 6 ∧ T.1 (b + 2) = 6
abbrev chA (kd : Int32) (q : A4) : Prop := ¬ kd = 0 ∧ ¬ arE q
def fa4 (pl : Nat → Int32) (f : Nat) : A4 := (pl f, pl (f + 1), pl (f + 2), pl (f + 3))
def Off2 (gi gi' : gI) (b : Nat) : Prop := ∀ a, a ≠ b + 1 → a ≠ b + 2 → gi' a = gi a
theorem nI_x4 (n : Nat) : nI n * 4 = nI (n * 4) := pk_mul n 4
theorem gNa_tag {T : gT} {a tag len q v : Nat} (h : T.1 q = v) (hne : q ≠ a) : (gNa T a tag len).1 q = v := (gup_ne hne).trans h
theorem gNa_new {T : gT} {a tag len : Nat} : (gNa T a tag len).1 a = tag := gup_same
theorem gNMa_tag {T : gT} {a N K q v : Nat} (h : T.1 q = v) (hne : q < a) : (gNMa T a N K).1 q = v := by
  show (if q = a then 104 else if a < q ∧ q ≤ a + N then 100 else T.1 q) = v
  rw [if_neg (by omega), if_neg (by omega)]
  exact h
theorem cBX_canHaveAttention {E : gE} {T : gT} {gi : gI} {gr : gR} {b : Nat} {kd : Int32} {q : A4} (hb : BxOk T gr b) (hk : gi b 1 = kd) (hA : ArIs gi (b + 1) q) : Ct E mBX_canHaveAttention [.ref b] T gi gr (fun T' gi' gr' v => T' = T ∧ gi' = gi ∧ gr' = gr ∧ v = some (.int (if chA kd q then 1 else 0))) := by
  refine Ct_of (ls := [.ref b]) (by decide) (gcat_cons rfl gcat_nil) (Nat.le_of_ble_eq_true rfl) rfl ?_
  refine G_aload_n dBX_canHaveAttention_0 rfl ?_
  refine G_getI fBX_25 dBX_canHaveAttention_1 hb.1 ?_
  rw [hk]
  refine G_if_eq dBX_canHaveAttention_4 (fun h1 => ?_) (fun h1 => ?_)
  · refine G_iconst (v := 0) dBX_canHaveAttention_21 (by decide) ?_
    exact G_ireturn dBX_canHaveAttention_22 rfl (nr_z (by decide)) (by decide) (by decide) ⟨rfl, rfl, rfl, by rw [if_neg (fun z => z.1 h1)]⟩
  · refine G_aload_n dBX_canHaveAttention_7 rfl ?_
    refine G_getRs fBX_12 dBX_canHaveAttention_8 hb.1 hb.2.1 ?_
    refine G_callV (As := []) (rest := []) gBX_canHaveAttention_AR_isEmpty lBX_35.1 lBX_35.2.1 lBX_35.2.2.1 lBX_35.2.2.2 dBX_canHaveAttention_11 rfl (Nat.le_of_ble_eq_true rfl) hb.2.2.2.1 ⟨by decide, by decide⟩ (cAR_isEmpty hb.2.2.2.1 hA) ?_
    rintro _ _ _ _ ⟨rfl, rfl, rfl, rfl⟩
    refine G_st (st' := [.int (if arE q then 1 else 0)]) rfl ?_
    refine G_if_ne dBX_canHaveAttention_14 (fun h2 => ?_) (fun h2 => ?_)
    · refine G_iconst (v := 0) dBX_canHaveAttention_21 (by decide) ?_
      exact G_ireturn dBX_canHaveAttention_22 rfl (nr_z (by decide)) (by decide) (by decide) ⟨rfl, rfl, rfl, by rw [if_neg (fun z => h2 (if01.mpr z.2))]⟩
    · refine G_iconst (v := 1) dBX_canHaveAttention_17 (by decide) ?_
      refine G_goto dBX_canHaveAttention_18 ?_
      exact G_ireturn dBX_canHaveAttention_22 rfl (nr_z (by decide)) (by decide) (by decide) ⟨rfl, rfl, rfl, by rw [if_pos ⟨h1, if01.mp h2⟩]⟩
theorem cBX_findArea0 {E : gE} {T : gT} {gi : gI} {gr : gR} {b n pl : Nat} {hid : Bool} {q : A4} (hb : BxOk T gr b) (hA : ArIs gi (b + 1) q) (hn : gi b 0 = nI n) (hn6 : n < 6) (hh : gi b 7 = bI hid) (hp : T.1 pl = 100 ∧ T.2.1 pl = 24) (hpl : pl ≠ b + 1 ∧ pl ≠ b + 2) (hpr : gr b 2 = none) : Ct E mBX_findArea [.ref b, .ref pl] T gi gr (fun T' gi' gr' v => T' = T ∧ gr' = gr ∧ v = none ∧ ArIs gi' (b + 2) q ∧ ArIs gi' (b + 1) (if hid = true then A0 else fa4 (gi pl) (n * 4)) ∧ Off2 gi gi' b) := by
  refine Ct_of (ls := [.ref b, .ref pl]) (by decide) (gcat_cons rfl (gcat_cons rfl gcat_nil)) (Nat.le_of_ble_eq_true rfl) rfl ?_
  refine G_aload_n dBX_findArea_0 rfl ?_
  refine G_getRs fBX_18 dBX_findArea_1 hb.1 hb.2.2.1 ?_
  refine G_aload_n dBX_findArea_4 rfl ?_
  refine G_getRs fBX_12 dBX_findArea_5 hb.1 hb.2.1 ?_
  refine G_callV (As := [.ref (b + 1)]) (rest := []) gBX_findArea_AR_copyFrom lBX_39.1 lBX_39.2.1 lBX_39.2.2.1 lBX_39.2.2.2 dBX_findArea_8 rfl (Nat.le_of_ble_eq_true rfl) hb.2.2.2.2 ⟨by decide, by decide⟩ (cAR_copyFrom hb.2.2.2.2 hb.2.2.2.1 (by omega) hA) ?_
  rintro _ g1 _ _ ⟨rfl, rfl, rfl, hA1, hO1⟩
  refine G_st (st' := []) rfl ?_
  refine G_aload_n dBX_findArea_11 rfl ?_
  refine G_getI fBX_43 dBX_findArea_12 hb.1 ?_
  rw [show g1 b 7 = bI hid by rw [hO1 b (by omega)]; exact hh]
  refine G_if_eq dBX_findArea_15 (fun h1 => ?_) (fun h1 => ?_)
  · refine G_aload_n dBX_findArea_26 rfl ?_
    refine G_getRs fBX_12 dBX_findArea_27 hb.1 hb.2.1 ?_
    refine G_aload_n dBX_findArea_30 rfl ?_
    refine G_aload_n dBX_findArea_31 rfl ?_
    refine G_getI fBX_21 dBX_findArea_32 hb.1 ?_
    rw [show g1 b 0 = nI n by rw [hO1 b (by omega)]; exact hn]
    refine G_iconst (v := 4) dBX_findArea_35 (by decide) ?_
    refine G_imul dBX_findArea_36 ?_
    rw [nI_x4]
    refine G_callV (As := [.ref pl, .int (nI (n * 4))]) (rest := []) gBX_findArea_AR_takeEdges lBX_50.1 lBX_50.2.1 lBX_50.2.2.1 lBX_50.2.2.2 dBX_findArea_37 rfl (Nat.le_of_ble_eq_true rfl) hb.2.2.2.1 ⟨by decide, by decide⟩ (cAR_takeEdges (f := n * 4) hb.2.2.2.1 (by omega) ⟨hp.1, hp.2, by omega⟩) ?_
    rintro _ g2 _ _ ⟨rfl, rfl, rfl, hA2, hO2⟩
    refine G_st (st' := []) rfl ?_
    refine G_aload_n dBX_findArea_40 rfl ?_
    refine G_getR fBX_28 dBX_findArea_41 hb.1 ?_
    rw [hpr]
    refine G_st (st' := [.null]) rfl ?_
    refine G_ifnullN dBX_findArea_44 ?_
    refine G_return dBX_findArea_61 rfl (by decide) (by decide) ⟨rfl, rfl, rfl, hA1.off hO2 (by omega), ?_, fun a h1 h2 => (hO2 a h1).trans (hO1 a h2)⟩
    rw [if_neg (by rw [bI_0.mp h1]; decide)]
    have e : gi pl = g1 pl := (hO1 pl (by omega)).symm
    unfold fa4
    rw [e]
    exact hA2
  · refine G_aload_n dBX_findArea_18 rfl ?_
    refine G_getRs fBX_12 dBX_findArea_19 hb.1 hb.2.1 ?_
    refine G_callV (As := []) (rest := []) gBX_findArea_AR_makeEmpty lBX_47.1 lBX_47.2.1 lBX_47.2.2.1 lBX_47.2.2.2 dBX_findArea_22 rfl (Nat.le_of_ble_eq_true rfl) hb.2.2.2.1 ⟨by decide, by decide⟩ (cAR_makeEmpty hb.2.2.2.1) ?_
    rintro _ g2 _ _ ⟨rfl, rfl, rfl, hA2, hO2⟩
    refine G_st (st' := []) rfl ?_
    exact G_return dBX_findArea_25 rfl (by decide) (by decide) ⟨rfl, rfl, rfl, hA1.off hO2 (by omega), by rw [if_pos (by cases hid with | true => rfl | false => exact absurd rfl h1)]; exact hA2, fun a h1 h2 => (hO2 a h1).trans (hO1 a h2)⟩
theorem cBX_findArea1 {E : gE} {T : gT} {gi : gI} {gr : gR} {b n pl pb : Nat} {hid : Bool} {q r : A4} (hb : BxOk T gr b) (hA : ArIs gi (b + 1) q) (hn : gi b 0 = nI n) (hn6 : n < 6) (hh : gi b 7 = bI hid) (hp : T.1 pl = 100 ∧ T.2.1 pl = 24) (hpl : pl ≠ b + 1 ∧ pl ≠ b + 2) (hpr : gr b 2 = some pb) (hpb : BxOk T gr pb) (hR : ArIs gi (pb + 1) r) (hne : pb ≠ b ∧ pb ≠ b + 1) : Ct E mBX_findArea [.ref b, .ref pl] T gi gr (fun T' gi' gr' v => T' = T ∧ gr' = gr ∧ v = none ∧ ArIs gi' (b + 2) q ∧ ArIs gi' (b + 1) (if hid = true then A0 else arC (fa4 (gi pl) (n * 4)) r) ∧ Off2 gi gi' b) := by
  refine Ct_of (ls := [.ref b, .ref pl]) (by decide) (gcat_cons rfl (gcat_cons rfl gcat_nil)) (Nat.le_of_ble_eq_true rfl) rfl ?_
  refine G_aload_n dBX_findArea_0 rfl ?_
  refine G_getRs fBX_18 dBX_findArea_1 hb.1 hb.2.2.1 ?_
  refine G_aload_n dBX_findArea_4 rfl ?_
  refine G_getRs fBX_12 dBX_findArea_5 hb.1 hb.2.1 ?_
  refine G_callV (As := [.ref (b + 1)]) (rest := []) gBX_findArea_AR_copyFrom lBX_39.1 lBX_39.2.1 lBX_39.2.2.1 lBX_39.2.2.2 dBX_findArea_8 rfl (Nat.le_of_ble_eq_true rfl) hb.2.2.2.2 ⟨by decide, by decide⟩ (cAR_copyFrom hb.2.2.2.2 hb.2.2.2.1 (by omega) hA) ?_
  rintro _ g1 _ _ ⟨rfl, rfl, rfl, hA1, hO1⟩
  refine G_st (st' := []) rfl ?_
  refine G_aload_n dBX_findArea_11 rfl ?_
  refine G_getI fBX_43 dBX_findArea_12 hb.1 ?_
  rw [show g1 b 7 = bI hid by rw [hO1 b (by omega)]; exact hh]
  refine G_if_eq dBX_findArea_15 (fun h1 => ?_) (fun h1 => ?_)
  · refine G_aload_n dBX_findArea_26 rfl ?_
    refine G_getRs fBX_12 dBX_findArea_27 hb.1 hb.2.1 ?_
    refine G_aload_n dBX_findArea_30 rfl ?_
    refine G_aload_n dBX_findArea_31 rfl ?_
    refine G_getI fBX_21 dBX_findArea_32 hb.1 ?_
    rw [show g1 b 0 = nI n by rw [hO1 b (by omega)]; exact hn]
    refine G_iconst (v := 4) dBX_findArea_35 (by decide) ?_
    refine G_imul dBX_findArea_36 ?_
    rw [nI_x4]
    refine G_callV (As := [.ref pl, .int (nI (n * 4))]) (rest := []) gBX_findArea_AR_takeEdges lBX_50.1 lBX_50.2.1 lBX_50.2.2.1 lBX_50.2.2.2 dBX_findArea_37 rfl (Nat.le_of_ble_eq_true rfl) hb.2.2.2.1 ⟨by decide, by decide⟩ (cAR_takeEdges (f := n * 4) hb.2.2.2.1 (by omega) ⟨hp.1, hp.2, by omega⟩) ?_
    rintro _ g2 _ _ ⟨rfl, rfl, rfl, hA2, hO2⟩
    refine G_st (st' := []) rfl ?_
    refine G_aload_n dBX_findArea_40 rfl ?_
    refine G_getRs fBX_28 dBX_findArea_41 hb.1 hpr ?_
    refine G_ifnull dBX_findArea_44 ?_
    refine G_aload_n dBX_findArea_47 rfl ?_
    refine G_getRs fBX_12 dBX_findArea_48 hb.1 hb.2.1 ?_
    refine G_aload_n dBX_findArea_51 rfl ?_
    refine G_getRs fBX_28 dBX_findArea_52 hb.1 hpr ?_
    refine G_getRs fBX_12 dBX_findArea_55 hpb.1 hpb.2.1 ?_
    refine G_callV (As := [.ref (pb + 1)]) (rest := []) gBX_findArea_AR_cutTo lBX_54.1 lBX_54.2.1 lBX_54.2.2.1 lBX_54.2.2.2 dBX_findArea_58 rfl (Nat.le_of_ble_eq_true rfl) hb.2.2.2.1 ⟨by decide, by decide⟩ (cAR_cutTo hb.2.2.2.1 hpb.2.2.2.1 (by omega) hA2 ((hR.off hO1 (by omega)).off hO2 (by omega))) ?_
    rintro _ g3 _ _ ⟨rfl, rfl, rfl, hA3, hO3⟩
    refine G_st (st' := []) rfl ?_
    refine G_return dBX_findArea_61 rfl (by decide) (by decide) ⟨rfl, rfl, rfl, (hA1.off hO2 (by omega)).off hO3 (by omega), ?_, fun a h1 h2 => (hO3 a h1).trans ((hO2 a h1).trans (hO1 a h2))⟩
    rw [if_neg (by rw [bI_0.mp h1]; decide)]
    have e : gi pl = g1 pl := (hO1 pl (by omega)).symm
    unfold fa4
    rw [e]
    exact hA3
  · refine G_aload_n dBX_findArea_18 rfl ?_
    refine G_getRs fBX_12 dBX_findArea_19 hb.1 hb.2.1 ?_
    refine G_callV (As := []) (rest := []) gBX_findArea_AR_makeEmpty lBX_47.1 lBX_47.2.1 lBX_47.2.2.1 lBX_47.2.2.2 dBX_findArea_22 rfl (Nat.le_of_ble_eq_true rfl) hb.2.2.2.1 ⟨by decide, by decide⟩ (cAR_makeEmpty hb.2.2.2.1) ?_
    rintro _ g2 _ _ ⟨rfl, rfl, rfl, hA2, hO2⟩
    refine G_st (st' := []) rfl ?_
    exact G_return dBX_findArea_25 rfl (by decide) (by decide) ⟨rfl, rfl, rfl, hA1.off hO2 (by omega), by rw [if_pos (by cases hid with | true => rfl | false => exact absurd rfl h1)]; exact hA2, fun a h1 h2 => (hO2 a h1).trans (hO1 a h2)⟩
theorem cCN_init {E : gE} {T : gT} {gi : gI} {gr : gR} {ck : Nat} {p q c f t : Int32} (ht : T.1 ck = 7) : Ct E mCN_init [.ref ck, .int p, .int q, .int c, .int f, .int t] T gi gr (fun T' gi' gr' v => T' = T ∧ gr' = gr ∧ v = none ∧ gi' ck 0 = t ∧ gi' ck 1 = p ∧ gi' ck 2 = q ∧ gi' ck 3 = c ∧ gi' ck 4 = f ∧ Off1 gi gi' ck) := by
  refine Ct_of (ls := [.ref ck, .int p, .int q, .int c, .int f, .int t]) (by decide) (gcat_cons rfl (gcat_cons rfl (gcat_cons rfl (gcat_cons rfl (gcat_cons rfl (gcat_cons rfl gcat_nil)))))) (Nat.le_of_ble_eq_true rfl) rfl ?_
  refine G_aload_n dCN_init_0 rfl ?_
  refine G_objInit oCN_3.1 oCN_3.2.1 oCN_3.2.2 dCN_init_1 (by decide) (Nat.le_of_ble_eq_true rfl) ?_
  refine G_aload_n dCN_init_4 rfl ?_
  refine G_iload_n dCN_init_5 rfl ?_
  refine G_putI wCN_9 (Or.inr rfl) dCN_init_6 ht rfl rfl ?_
  refine G_aload_n dCN_init_9 rfl ?_
  refine G_iload_n dCN_init_10 rfl ?_
  refine G_putI wCN_15 (Or.inr rfl) dCN_init_11 ht rfl rfl ?_
  refine G_aload_n dCN_init_14 rfl ?_
  refine G_iload_n dCN_init_15 rfl ?_
  refine G_putI wCN_18 (Or.inr rfl) dCN_init_16 ht rfl rfl ?_
  refine G_aload_n dCN_init_19 rfl ?_
  refine G_iload dCN_init_20 rfl ?_
  refine G_putI wCN_21 (Or.inr rfl) dCN_init_22 ht rfl rfl ?_
  refine G_aload_n dCN_init_25 rfl ?_
  refine G_iload dCN_init_26 rfl ?_
  refine G_putI wCN_24 (Or.inr rfl) dCN_init_28 ht rfl rfl ?_
  exact G_return dCN_init_31 rfl (by decide) (by decide) ⟨rfl, rfl, rfl, by simp [gu], by simp [gu], by simp [gu], by simp [gu], by simp [gu], fun q hq => by rw [gu_off hq, gu_off hq, gu_off hq, gu_off hq, gu_off hq]⟩
theorem cSC_init {E : gE} {T : gT} {gi : gI} {gr : gR} {sc : Nat} (ht : T.1 sc = 2) (hsz : T.2.2 = sc + 1) : Ct E mSC_init [.ref sc] T gi gr (fun T' gi' gr' v => v = none ∧ ScOk T' gr' sc ∧ T'.2.2 = sc + 3 ∧ DmIs gi' sc (fun _ => false) ∧ FrIs gi' sc (fun _ => 0) ∧ FrB T T' gi gi' gr gr' sc) := by
  refine Ct_of (ls := [.ref sc]) (by decide) (gcat_cons rfl gcat_nil) (Nat.le_of_ble_eq_true rfl) rfl ?_
  refine G_aload_n dSC_init_0 rfl ?_
  refine G_objInit oSC_3.1 oSC_3.2.1 oSC_3.2.2 dSC_init_1 (by decide) (Nat.le_of_ble_eq_true rfl) ?_
  refine G_aload_n dSC_init_4 rfl ?_
  refine G_sipush (v := 384) dSC_init_5 (by decide) ?_
  refine G_newaA 0 (a := sc + 1) (len := 384) dSC_init_8 hsz (by decide) rfl aI (by decide) (by decide) (by decide) (by decide) (by decide) ?_
  refine G_putR (r := some (sc + 1)) rfl wSC_9 (Or.inr rfl) dSC_init_10 (gNa_tag ht (by omega)) (nr_a _) (ft_a _) ?_
  refine G_aload_n dSC_init_13 rfl ?_
  refine G_sipush (v := 384) dSC_init_14 (by decide) ?_
  refine G_newaA 1 (a := sc + 2) (len := 384) dSC_init_17 rfl (by decide) rfl aZ (by decide) (by decide) (by decide) (by decide) (by decide) ?_
  refine G_putR (r := some (sc + 2)) rfl wSC_15 (Or.inr rfl) dSC_init_19 (gNa_tag (gNa_tag ht (by omega)) (by omega)) (nr_a _) (ft_a _) ?_
  refine G_return dSC_init_22 rfl (by decide) (by decide) ⟨rfl, ⟨(gNa_tag (gNa_tag ht (by omega)) (by omega)), by simp [gu, gup], by simp [gu, gup], by simp [gNa, gup], by simp [gNa, gup], by simp [gNa, gup], by simp [gNa, gup]⟩, rfl, fun j hj => by simp [gup, bI], fun j hj => by simp [gup], fun a ha => ?_⟩
  have h1 : a ≠ sc := by omega
  have h2 : a ≠ sc + 1 := by omega
  have h3 : a ≠ sc + 2 := by omega
  exact ⟨by simp [gNa, gup, h2, h3], by simp [gNa, gup, h2, h3], by simp [gup, h2, h3], by rw [gu_off h1, gup_ne h3, gu_off h1, gup_ne h2]⟩
theorem cBD_init {E : gE} {T : gT} {gi : gI} {gr : gR} {bd : Nat} (ht : T.1 bd = 4) (hsz : T.2.2 = bd + 1) (hz : gi bd = fun _ => 0) : Ct E mBD_init [.ref bd] T gi gr (fun T' gi' gr' v => v = none ∧ BdOk T' gr' bd ∧ T'.2.2 = bd + 26 ∧ BdIs gi' bd (fun _ _ => 0) (gi' bd 2) 0 ∧ FrB T T' gi gi' gr gr' bd) := by
  refine Ct_of (ls := [.ref bd]) (by decide) (gcat_cons rfl gcat_nil) (Nat.le_of_ble_eq_true rfl) rfl ?_
  refine G_aload_n dBD_init_0 rfl ?_
  refine G_objInit oBD_3.1 oBD_3.2.1 oBD_3.2.2 dBD_init_1 (by decide) (Nat.le_of_ble_eq_true rfl) ?_
  refine G_aload_n dBD_init_4 rfl ?_
  refine G_bipush (v := 24) dBD_init_5 (by decide) ?_
  refine G_bipush (v := 24) dBD_init_7 (by decide) ?_
  refine G_mnaA (a := bd + 1) (N := 24) (K := 24) dBD_init_9 hsz mnBD_9 aI (by decide) (by decide) (by decide) (by decide) (by decide) (by decide) (by decide) (by decide) ?_
  refine G_putR (r := some (bd + 1)) rfl wBD_11 (Or.inr rfl) dBD_init_13 (gNMa_tag ht (by omega)) (nr_a _) (ft_a _) ?_
  refine G_return dBD_init_16 rfl (by decide) (by decide) ⟨rfl, ⟨(gNMa_tag ht (by omega)), by simp [gNMa], by simp [gNMa], by simp [gu], fun i hi => ?_⟩, rfl, ⟨?_, rfl, fun i j hi hj => ?_⟩, fun a ha => ?_⟩
  · have h1 : bd + 2 + i ≠ bd + 1 := by omega
    have h2 : bd + 1 < bd + 2 + i ∧ bd + 2 + i ≤ bd + 1 + 24 := by omega
    refine ⟨?_, ?_, ?_⟩
    · rw [gu_off (by omega)]
      show gNMra gr (bd + 1) 24 (bd + 1) i = _
      unfold gNMra
      rw [if_pos rfl, if_pos hi]
    · show (if bd + 2 + i = bd + 1 then 104 else if bd + 1 < bd + 2 + i ∧ bd + 2 + i ≤ bd + 1 + 24 then 100 else T.1 (bd + 2 + i)) = 100
      rw [if_neg h1, if_pos h2]
    · show (if bd + 2 + i = bd + 1 then 24 else if bd + 1 < bd + 2 + i ∧ bd + 2 + i ≤ bd + 1 + 24 then 24 else T.2.1 (bd + 2 + i)) = 24
      rw [if_neg h1, if_pos h2]
  · show gNMia gi (bd + 1) 24 bd 1 = _
    unfold gNMia
    rw [if_neg (by omega), hz]
    decide +kernel
  · show gNMia gi (bd + 1) 24 (bd + 2 + i) j = (fun _ _ => (0 : Int32)) i j
    unfold gNMia
    rw [if_pos (by omega)]
  · have h1 : a ≠ bd + 1 := by omega
    have h2 : ¬ (bd + 1 < a ∧ a ≤ bd + 1 + 24) := by omega
    refine ⟨?_, ?_, ?_, ?_⟩
    · show (if a = bd + 1 then 104 else if bd + 1 < a ∧ a ≤ bd + 1 + 24 then 100 else T.1 a) = _
      rw [if_neg h1, if_neg h2]
    · show (if a = bd + 1 then 24 else if bd + 1 < a ∧ a ≤ bd + 1 + 24 then 24 else T.2.1 a) = _
      rw [if_neg h1, if_neg h2]
    · show gNMia gi (bd + 1) 24 a = _
      unfold gNMia
      rw [if_neg (by omega)]
    · rw [gu_off (by omega)]
      show gNMra gr (bd + 1) 24 a = _
      unfold gNMra
      rw [if_neg h1, if_neg h2]
