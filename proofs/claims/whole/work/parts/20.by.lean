abbrev BS : Type := Int32 × Int32 × Int32 × Bool × Bool × A4 × A4
def BxIs (gi : gI) (b : Nat) (β : BS) : Prop := gi b 1 = β.1 ∧ gi b 5 = β.2.1 ∧ gi b 6 = β.2.2.1 ∧ gi b 7 = bI β.2.2.2.1 ∧ gi b 8 = bI β.2.2.2.2.1 ∧ ArIs gi (b + 1) β.2.2.2.2.2.1 ∧ ArIs gi (b + 2) β.2.2.2.2.2.2
theorem cBX_init {E : gE} {T : gT} {gi : gI} {gr : gR} {b : Nat} {x kd : Int32} {pr : Option Nat} (ht : T.1 b = 5) (hsz : T.2.2 = b + 1) (hz : gi b = fun _ => 0) : Ct E mBX_init [.ref b, .int x, .int kd, va_rf (pr)] T gi gr (fun T' gi' gr' v => v = none ∧ BxOk T' gr' b ∧ T'.2.2 = b + 3 ∧ gr' b 2 = pr ∧ gi' b 0 = x ∧ BxIs gi' b (kd, 1 + x, 0, false, false, A0, A0) ∧ FrB T T' gi gi' gr gr' b) := by
  refine Ct_of (ls := [.ref b, .int x, .int kd, va_rf (pr)]) (by decide) (gcat_cons rfl (gcat_cons rfl (gcat_cons rfl (gcat_cons (va_rf_cat _) gcat_nil)))) (Nat.le_of_ble_eq_true rfl) rfl ?_
  refine G_aload_n dBX_init_0 rfl ?_
  refine G_objInit oBX_3.1 oBX_3.2.1 oBX_3.2.2 dBX_init_1 (by decide) (Nat.le_of_ble_eq_true rfl) ?_
  refine G_aload_n dBX_init_4 rfl ?_
  refine G_newA (a := b + 1) nwBX_9 dBX_init_5 hsz (by decide) (by decide) ?_
  refine G_dup dBX_init_8 rfl ?_
  refine G_callIN (As := []) (rest := [.ref (b + 1), .ref b]) gBX_init_AR_init lBX_11.1 lBX_11.2 rfl rfl dBX_init_9 rfl (Nat.le_of_ble_eq_true rfl) ⟨by decide, by decide⟩ cAR_init ?_
  rintro _ _ _ _ ⟨rfl, rfl, rfl, rfl⟩
  refine G_st (st' := [.ref (b + 1), .ref b]) rfl ?_
  refine G_putR (r := some (b + 1)) rfl wBX_12 (Or.inr rfl) dBX_init_12 (gNa_tag ht (by omega)) (nr_o _) (ft_o _) ?_
  refine G_aload_n dBX_init_15 rfl ?_
  refine G_newA (a := b + 2) nwBX_9 dBX_init_16 rfl (by decide) (by decide) ?_
  refine G_dup dBX_init_19 rfl ?_
  refine G_callIN (As := []) (rest := [.ref (b + 2), .ref b]) gBX_init_AR_init lBX_11.1 lBX_11.2 rfl rfl dBX_init_20 rfl (Nat.le_of_ble_eq_true rfl) ⟨by decide, by decide⟩ cAR_init ?_
  rintro _ _ _ _ ⟨rfl, rfl, rfl, rfl⟩
  refine G_st (st' := [.ref (b + 2), .ref b]) rfl ?_
  refine G_putR (r := some (b + 2)) rfl wBX_18 (Or.inr rfl) dBX_init_23 (gNa_tag (gNa_tag ht (by omega)) (by omega)) (nr_o _) (ft_o _) ?_
  refine G_aload_n dBX_init_26 rfl ?_
  refine G_iload_n dBX_init_27 rfl ?_
  refine G_putI wBX_21 (Or.inr rfl) dBX_init_28 (gNa_tag (gNa_tag ht (by omega)) (by omega)) rfl rfl ?_
  refine G_aload_n dBX_init_31 rfl ?_
  refine G_iload_n dBX_init_32 rfl ?_
  refine G_putI wBX_25 (Or.inr rfl) dBX_init_33 (gNa_tag (gNa_tag ht (by omega)) (by omega)) rfl rfl ?_
  refine G_aload_n dBX_init_36 rfl ?_
  refine G_aload_nq dBX_init_37 rfl ?_
  refine G_putR (r := pr) rfl wBX_28 (Or.inr rfl) dBX_init_38 (gNa_tag (gNa_tag ht (by omega)) (by omega)) (nr_o _) (ft_o _) ?_
  refine G_aload_n dBX_init_41 rfl ?_
  refine G_iconst (v := 1) dBX_init_42 (by decide) ?_
  refine G_iload_n dBX_init_43 rfl ?_
  refine G_iadd dBX_init_44 ?_
  refine G_putI wBX_32 (Or.inr rfl) dBX_init_45 (gNa_tag (gNa_tag ht (by omega)) (by omega)) rfl rfl ?_
  refine G_return dBX_init_48 rfl (by decide) (by decide) ⟨rfl, ⟨(gNa_tag (gNa_tag ht (by omega)) (by omega)), by simp [gu, gup], by simp [gu, gup], by simp [gNa, gup], by simp [gNa, gup]⟩, rfl, by simp [gu, gup], by simp [gu, gup], ⟨?_, ?_, ?_, ?_, ?_, ⟨by simp [gu, gup, A0], by simp [gu, gup, A0], by simp [gu, gup, A0], by simp [gu, gup, A0]⟩, ⟨by simp [gu, gup, A0], by simp [gu, gup, A0], by simp [gu, gup, A0], by simp [gu, gup, A0]⟩⟩, fun a ha => ?_⟩
  · simp [gu, gup, hz]
  · simp [gu, gup, hz]
  · simp [gu, gup, hz]
  · simp [gu, gup, hz, bI]
  · simp [gu, gup, hz, bI]
  · have h1 : a ≠ b := by omega
    have h2 : a ≠ b + 1 := by omega
    have h3 : a ≠ b + 2 := by omega
    exact ⟨by simp [gNa, gup, h2, h3], by simp [gNa, gup, h2, h3], by rw [gu_off h1, gu_off h1, gu_off h1, gup_ne h3, gup_ne h2], by rw [gu_off h1, gu_off h1, gup_ne h3, gu_off h1, gup_ne h2]⟩
theorem cLA_init {E : gE} {T : gT} {gi : gI} {gr : gR} {la : Nat} {w h : Int32} {cx : Nat → Nat} (ht : T.1 la = 3) (hsz : T.2.2 = la + 1) (hz : gi la = fun _ => 0) : Ct E mLA_init [.ref la, .int w, .int h] T gi gr (fun T' gi' gr' v => v = none ∧ LaOk T' gr' la ∧ T'.2.2 = la + 29 ∧ LaIs gi' la 0 w h ∧ PlIs gi' la (fun j => if j = 1 then w else if j = 3 then h else 0) ∧ CsIs T' gi' gr' la (fun _ => none) cx ∧ BdAny gi' la ∧ FrB T T' gi gi' gr gr' la) := by
  refine Ct_of (ls := [.ref la, .int w, .int h]) (by decide) (gcat_cons rfl (gcat_cons rfl (gcat_cons rfl gcat_nil))) (Nat.le_of_ble_eq_true rfl) rfl ?_
  refine G_aload_n dLA_init_0 rfl ?_
  refine G_objInit oLA_3.1 oLA_3.2.1 oLA_3.2.2 dLA_init_1 (by decide) (Nat.le_of_ble_eq_true rfl) ?_
  refine G_aload_n dLA_init_4 rfl ?_
  refine G_bipush (v := 24) dLA_init_5 (by decide) ?_
  refine G_newaA 0 (a := la + 1) (len := 24) dLA_init_7 hsz (by decide) rfl aI (by decide) (by decide) (by decide) (by decide) (by decide) ?_
  refine G_putR (r := some (la + 1)) rfl wLA_9 (Or.inr rfl) dLA_init_9 (gNa_tag ht (by omega)) (nr_a _) (ft_a _) ?_
  refine G_aload_n dLA_init_12 rfl ?_
  refine G_bipush (v := 16) dLA_init_13 (by decide) ?_
  refine G_anewA 3 (a := la + 2) (len := 16) dLA_init_15 rfl (by decide) rfl anLA_15 (by decide) (by decide) (by decide) (by decide) (by decide) ?_
  refine G_putR (r := some (la + 2)) rfl wLA_17 (Or.inr rfl) dLA_init_18 (gNa_tag (gNa_tag ht (by omega)) (by omega)) (nr_a _) (ft_a _) ?_
  refine G_aload_n dLA_init_21 rfl ?_
  refine G_newA (a := la + 3) nwLA_21 dLA_init_22 rfl (by decide) (by decide) ?_
  refine G_dup dLA_init_25 rfl ?_
  refine G_callIN (As := []) (rest := [.ref (la + 3), .ref la]) gLA_init_BD_init lLA_23.1 lLA_23.2 rfl rfl dLA_init_26 rfl (Nat.le_of_ble_eq_true rfl) ⟨by decide, by decide⟩ (cBD_init (bd := la + 3) gNa_new rfl gup_same) ?_
  rintro T1 g1 r1 _ ⟨rfl, hB, hs1, hS, hF⟩
  refine G_st (st' := [.ref (la + 3), .ref la]) rfl ?_
  have htl : T1.1 la = 3 := (hF la (by omega)).1.trans (gNa_tag (gNa_tag (gNa_tag ht (by omega)) (by omega)) (by omega))
  have hp0 : r1 la 0 = some (la + 1) := by rw [(hF la (by omega)).2.2.2]; simp [gu, gup]
  have hc2 : r1 la 2 = some (la + 2) := by rw [(hF la (by omega)).2.2.2]; simp [gu, gup]
  have t1 : T1.1 (la + 1) = 100 ∧ T1.2.1 (la + 1) = 24 := ⟨(hF (la + 1) (by omega)).1.trans (by simp [gNa, gup]), (hF (la + 1) (by omega)).2.1.trans (by simp [gNa, gup])⟩
  have t2 : T1.1 (la + 2) = 103 ∧ T1.2.1 (la + 2) = 16 := ⟨(hF (la + 2) (by omega)).1.trans (by simp [gNa, gup]), (hF (la + 2) (by omega)).2.1.trans (by simp [gNa, gup])⟩
  have e0 : g1 la = gi la := by rw [(hF la (by omega)).2.2.1]; simp [gup]
  have e1 : g1 (la + 1) = fun _ => 0 := by rw [(hF (la + 1) (by omega)).2.2.1]; simp [gup]
  have e2 : r1 (la + 2) = fun _ => none := by funext j; rw [(hF (la + 2) (by omega)).2.2.2]; simp [gu, gup]
  have eF : ∀ a, a < la → T1.1 a = T.1 a ∧ T1.2.1 a = T.2.1 a ∧ g1 a = gi a ∧ r1 a = gr a := by
    intro a ha
    obtain ⟨f1, f2, f3, f4⟩ := hF a (by omega)
    have h0 : a ≠ la := by omega
    have h1 : a ≠ la + 1 := by omega
    have h2 : a ≠ la + 2 := by omega
    have h3 : a ≠ la + 3 := by omega
    exact ⟨f1.trans (by simp [gNa, gup, h1, h2, h3]), f2.trans (by simp [gNa, gup, h1, h2, h3]), f3.trans (by simp [gup, h1, h2, h3]), f4.trans (by rw [gup_ne h3, gu_off h0, gup_ne h2, gu_off h0, gup_ne h1])⟩
  refine G_putR (r := some (la + 3)) rfl wLA_24 (Or.inr rfl) dLA_init_29 htl (nr_o _) (ft_o _) ?_
  refine G_aload_n dLA_init_32 rfl ?_
  refine G_iload_n dLA_init_33 rfl ?_
  refine G_putI wLA_28 (Or.inr rfl) dLA_init_34 htl rfl rfl ?_
  refine G_aload_n dLA_init_37 rfl ?_
  refine G_iload_n dLA_init_38 rfl ?_
  refine G_putI wLA_32 (Or.inr rfl) dLA_init_39 htl rfl rfl ?_
  refine G_aload_n dLA_init_42 rfl ?_
  refine G_getRs fLA_9 dLA_init_43 htl (by rw [gu_ne (Or.inr (by decide))]; exact hp0) ?_
  refine G_iconst (v := nI 1) dLA_init_46 (by decide +kernel) ?_
  refine G_iload_n dLA_init_47 rfl ?_
  refine G_iastN dLA_init_48 t1.1 t1.2 (by decide) (by decide) ?_
  refine G_aload_n dLA_init_49 rfl ?_
  refine G_getRs fLA_9 dLA_init_50 htl (by rw [gu_ne (Or.inr (by decide))]; exact hp0) ?_
  refine G_iconst (v := nI 3) dLA_init_53 (by decide +kernel) ?_
  refine G_iload_n dLA_init_54 rfl ?_
  refine G_iastN dLA_init_55 t1.1 t1.2 (by decide) (by decide) ?_
  have hr : ∀ a, a ≠ la → gu r1 la 3 (some (la + 3)) a = r1 a := fun a ha => gu_off ha
  generalize hg : (gu (gu (gu (gu g1 (la) 4 (w)) (la) 5 (h)) (la + 1) 1 (w)) (la + 1) 3 (h)) = g5
  have eo : ∀ a, a ≠ la → a ≠ la + 1 → g5 a = g1 a := fun a h1 h2 => by rw [← hg, gu_off h2, gu_off h2, gu_off h1, gu_off h1]
  obtain ⟨b1, b2, b3, b4, b5⟩ := hB
  refine G_return dLA_init_56 rfl (by decide) (by decide) ⟨rfl, ⟨htl, by rw [gu_ne (Or.inr (by decide))]; exact hp0, by rw [gu_ne (Or.inr (by decide))]; exact hc2, gu_same, t1.1, t1.2, t2.1, t2.2, b1, b2, b3, by rw [hr _ (by omega)]; exact b4, fun i hi => by rw [hr _ (by omega)]; exact b5 i hi⟩, hs1, ⟨?_, ?_, ?_⟩, fun j hj => ?_, fun i hi => ⟨fun _ => by rw [hr _ (by omega), e2], fun κ hκ => by cases hκ⟩, ⟨(fun _ _ => 0, g1 (la + 3) 2), 0, ?_, ?_, fun i j hi hj => ?_⟩, fun a ha => ?_⟩
  · rw [← hg, gu_off (by omega), gu_off (by omega), gu_ne (Or.inr (by decide)), gu_ne (Or.inr (by decide)), e0, hz]; decide +kernel
  · rw [← hg, gu_off (by omega), gu_off (by omega), gu_ne (Or.inr (by decide)), gu_same]
  · rw [← hg, gu_off (by omega), gu_off (by omega), gu_same]
  · show g5 (la + 1) j = if j = 1 then w else if j = 3 then h else 0
    rw [← hg, gu_row]
    by_cases c3 : j = 3
    · rw [if_pos c3, if_neg (by omega), if_pos c3]
    · rw [if_neg c3, gu_row]
      by_cases c1 : j = 1
      · rw [if_pos c1, if_pos c1]
      · rw [if_neg c1, if_neg c1, if_neg c3, gu_off (by omega), gu_off (by omega), e1]
  · rw [eo _ (by omega) (by omega)]; exact hS.1
  · rw [eo _ (by omega) (by omega)]
  · rw [eo _ (by omega) (by omega)]; exact hS.2.2 i j hi hj
  · obtain ⟨f1, f2, f3, f4⟩ := eF a ha
    exact ⟨f1, f2, by rw [eo a (by omega) (by omega)]; exact f3, by rw [hr a (by omega)]; exact f4⟩
