def pl0 (x y : Int32) : Nat → Int32 := fun j => if j = 1 then nearI x 1 24 else if j = 3 then nearI y 1 16 else 0
theorem LaOk.up {T : gT} {gr gr' : gR} {la : Nat} (hL : LaOk T gr la) (h1 : ∀ a, la ≤ a → gr' a = gr a) : LaOk T gr' la := by
  obtain ⟨l1, l2, l3, l4, l5, l6, l7, l8, b1, b2, b3, b4, b5⟩ := hL
  exact ⟨l1, by rw [h1 _ (by omega)]; exact l2, by rw [h1 _ (by omega)]; exact l3, by rw [h1 _ (by omega)]; exact l4, l5, l6, l7, l8, b1, b2, b3, by rw [h1 _ (by omega)]; exact b4, fun i hi => by rw [h1 _ (by omega)]; exact b5 i hi⟩
theorem C_init {E : gE} {T : gT} {gi : gI} {gr : gR} {dv : Nat} {x y : Int32} (bx0 od0 cx : Nat → Nat) (par0 : Nat → Option Nat) (B0 : Nat → BS) (ht : T.1 dv = 1) (hsz : T.2.2 = dv + 1) (hg0 : gi dv = fun _ => 0) (hr0 : gr dv = fun _ => none) : Ct E mDV_init [.ref dv, .int x, .int y] T gi gr (fun T' gi' gr' v => v = none ∧ T'.2.2 = dv + 38 ∧ CInv T' gi' gr' dv 1 (gup bx0 0 (dv + 35)) cx (gup od0 0 0) (gup par0 0 none) (scS (gup par0 0 none) (pl0 x y) (gup B0 0 (nwB 0 0)) 1 none none (fun _ => false)).1 (attP (scB (gup par0 0 none) (pl0 x y) (gup B0 0 (nwB 0 0)) 1) none) (attP (scB (gup par0 0 none) (pl0 x y) (gup B0 0 (nwB 0 0)) 1) none) (nearI x 1 24) (nearI y 1 16) (pl0 x y) (fun _ => none) (scS (gup par0 0 none) (pl0 x y) (gup B0 0 (nwB 0 0)) 1 none none (fun _ => false)).2 (fun _ => 0)) := by
  refine Ct_of (ls := [.ref dv, .int x, .int y]) (by decide) (gcat_cons rfl (gcat_cons rfl (gcat_cons rfl gcat_nil))) (Nat.le_of_ble_eq_true rfl) rfl ?_
  refine G_aload_n dDV_init_0 rfl ?_
  refine G_objInit oDV_3.1 oDV_3.2.1 oDV_3.2.2 dDV_init_1 (by decide) (Nat.le_of_ble_eq_true rfl) ?_
  refine G_aload_n dDV_init_4 rfl ?_
  refine G_newA (a := dv + 1) nwDV_9 dDV_init_5 hsz (by decide) (by decide) ?_
  refine G_dup dDV_init_8 rfl ?_
  refine G_callIN (As := []) (rest := [.ref (dv + 1), .ref dv]) gDV_init_SC_init lDV_11.1 lDV_11.2 rfl rfl dDV_init_9 rfl (Nat.le_of_ble_eq_true rfl) ⟨by decide, by decide⟩ (cSC_init (sc := dv + 1) gNa_new rfl) ?_
  rintro T1 g1 r1 _ ⟨rfl, hSc, hs1, hD1, hM1, hF1⟩
  refine G_st (st' := [.ref (dv + 1), .ref dv]) rfl ?_
  have t1 : T1.1 dv = 1 := (hF1 dv (by omega)).1.trans (gNa_tag ht (by omega))
  have q1 : g1 dv = fun _ => 0 := (hF1 dv (by omega)).2.2.1.trans ((gup_ne (by omega)).trans hg0)
  have p1 : r1 dv = fun _ => none := (hF1 dv (by omega)).2.2.2.trans ((gup_ne (by omega)).trans hr0)
  refine G_putR (r := some (dv + 1)) rfl wDV_12 (Or.inr rfl) dDV_init_12 t1 (nr_o _) (ft_o _) ?_
  refine G_aload_n dDV_init_15 rfl ?_
  refine G_bipush (v := 6) dDV_init_16 (by decide) ?_
  refine G_anewA 2 (a := dv + 4) (len := 6) dDV_init_18 hs1 (by decide) rfl anDV_16 (by decide) (by decide) (by decide) (by decide) (by decide) ?_
  refine G_putR (r := some (dv + 4)) rfl wDV_18 (Or.inr rfl) dDV_init_21 (gNa_tag t1 (by omega)) (nr_a _) (ft_a _) ?_
  refine G_aload_n dDV_init_24 rfl ?_
  refine G_bipush (v := 6) dDV_init_25 (by decide) ?_
  refine G_anewA 2 (a := dv + 5) (len := 6) dDV_init_27 rfl (by decide) rfl anDV_16 (by decide) (by decide) (by decide) (by decide) (by decide) ?_
  refine G_putR (r := some (dv + 5)) rfl wDV_22 (Or.inr rfl) dDV_init_30 (gNa_tag (gNa_tag t1 (by omega)) (by omega)) (nr_a _) (ft_a _) ?_
  refine G_aload_n dDV_init_33 rfl ?_
  refine G_newA (a := dv + 6) nwDV_25 dDV_init_34 rfl (by decide) (by decide) ?_
  refine G_dup dDV_init_37 rfl ?_
  refine G_iload_n dDV_init_38 rfl ?_
  refine G_iconst (v := 1) dDV_init_39 (by decide) ?_
  refine G_bipush (v := 24) dDV_init_40 (by decide) ?_
  refine G_callS (As := [.int x, .int 1, .int 24]) (rest := [.ref (dv + 6), .ref (dv + 6), .ref dv]) gDV_init_DV_nearest lDV_27.1 lDV_27.2 dDV_init_42 rfl (Nat.le_of_ble_eq_true rfl) ⟨by decide, by decide⟩ cDV_nearest ?_
  refine same4 ?_
  refine G_st (st' := [.int (nearI x 1 24), .ref (dv + 6), .ref (dv + 6), .ref dv]) rfl ?_
  refine G_iload_n dDV_init_45 rfl ?_
  refine G_iconst (v := 1) dDV_init_46 (by decide) ?_
  refine G_bipush (v := 16) dDV_init_47 (by decide) ?_
  refine G_callS (As := [.int y, .int 1, .int 16]) (rest := [.int (nearI x 1 24), .ref (dv + 6), .ref (dv + 6), .ref dv]) gDV_init_DV_nearest lDV_27.1 lDV_27.2 dDV_init_49 rfl (Nat.le_of_ble_eq_true rfl) ⟨by decide, by decide⟩ cDV_nearest ?_
  refine same4 ?_
  refine G_st (st' := [.int (nearI y 1 16), .int (nearI x 1 24), .ref (dv + 6), .ref (dv + 6), .ref dv]) rfl ?_
  refine G_callI (As := [.int (nearI x 1 24), .int (nearI y 1 16)]) (rest := [.ref (dv + 6), .ref dv]) gDV_init_LA_init lDV_31.1 lDV_31.2 rfl rfl dDV_init_52 rfl (Nat.le_of_ble_eq_true rfl) ⟨by decide, by decide⟩ (cLA_init (cx := cx) (la := dv + 6) gNa_new rfl gup_same) ?_
  rintro T5 g5 r5 _ ⟨rfl, hLa, hs5, hL5, hP5, hC5, hBd5, hF5⟩
  refine G_st (st' := [.ref (dv + 6), .ref dv]) rfl ?_
  have lowT : ∀ a, a < dv + 4 → T5.1 a = T1.1 a := fun a ha => (hF5 a (by omega)).1.trans ((gup_ne (by omega)).trans ((gup_ne (by omega)).trans (gup_ne (by omega))))
  have lowL : ∀ a, a < dv + 4 → T5.2.1 a = T1.2.1 a := fun a ha => (hF5 a (by omega)).2.1.trans ((gup_ne (by omega)).trans ((gup_ne (by omega)).trans (gup_ne (by omega))))
  have lowG : ∀ a, a < dv + 4 → g5 a = g1 a := fun a ha => (hF5 a (by omega)).2.2.1.trans ((gup_ne (by omega)).trans ((gup_ne (by omega)).trans (gup_ne (by omega))))
  have lowR : ∀ a, a < dv + 4 → a ≠ dv → r5 a = r1 a := fun a ha hne => (hF5 a (by omega)).2.2.2.trans ((gup_ne (by omega)).trans ((gu_off hne).trans ((gup_ne (by omega)).trans ((gu_off hne).trans ((gup_ne (by omega)).trans (gu_off hne))))))
  have t5 : T5.1 dv = 1 := (lowT dv (by omega)).trans t1
  have rdv : r5 dv = gu (gu (gu r1 dv 1 (some (dv + 1))) dv 2 (some (dv + 4))) dv 3 (some (dv + 5)) dv := by
    refine (hF5 dv (by omega)).2.2.2.trans ((gup_ne (by omega)).trans ?_)
    funext k
    rw [gu_row, gu_row, gup_ne (by omega : dv ≠ dv + 5), gu_row, gu_row, gup_ne (by omega : dv ≠ dv + 4)]
  have a4 : T5.1 (dv + 4) = 102 ∧ T5.2.1 (dv + 4) = 6 := ⟨(hF5 _ (by omega)).1.trans ((gup_ne (by omega)).trans ((gup_ne (by omega)).trans gup_same)), (hF5 _ (by omega)).2.1.trans ((gup_ne (by omega)).trans ((gup_ne (by omega)).trans gup_same))⟩
  have a5 : T5.1 (dv + 5) = 102 ∧ T5.2.1 (dv + 5) = 6 := ⟨(hF5 _ (by omega)).1.trans ((gup_ne (by omega)).trans gup_same), (hF5 _ (by omega)).2.1.trans ((gup_ne (by omega)).trans gup_same)⟩
  refine G_putR (r := some (dv + 6)) rfl wDV_34 (Or.inr rfl) dDV_init_55 t5 (nr_o _) (ft_o _) ?_
  generalize hr6 : gu r5 dv 0 (some (dv + 6)) = r6
  have r6o : ∀ a, a ≠ dv → r6 a = r5 a := fun a ha => by rw [← hr6, gu_off ha]
  have r6k : ∀ k, r6 dv k = if k = 0 then some (dv + 6) else if k = 3 then some (dv + 5) else if k = 2 then some (dv + 4) else if k = 1 then some (dv + 1) else none := by
    intro k
    rw [← hr6, gu_row, rdv, gu_row, gu_row, gu_row, p1]
  have hSc' : ScOk T5 r6 (dv + 1) := by
    obtain ⟨s1, s2, s3, s4, s5, s6, s7⟩ := hSc
    exact ⟨(lowT _ (by omega)).trans s1, by rw [r6o _ (by omega), lowR _ (by omega) (by omega)]; exact s2, by rw [r6o _ (by omega), lowR _ (by omega) (by omega)]; exact s3, (lowT _ (by omega)).trans s4, (lowL _ (by omega)).trans s5, (lowT _ (by omega)).trans s6, (lowL _ (by omega)).trans s7⟩
  have hS : DvS T5 r6 dv 0 bx0 par0 od0 := ⟨⟨t5, r6k 0, r6k 1, r6k 2, r6k 3, a4.1, a4.2, a5.1, a5.2, hSc', hLa.up (fun a ha => r6o a (by omega))⟩, ⟨Nat.le_refl _, by omega⟩, fun i hi => absurd hi (by omega), fun i _ hi => absurd hi (by omega), fun i hi => absurd hi (by omega), fun i j _ hj => absurd hj (by omega), fun i hi => absurd hi (by omega), fun i _ hi => absurd hi (by omega)⟩
  have hB : DvB g5 dv 0 bx0 B0 := ⟨by rw [lowG dv (by omega), q1]; rfl, fun i hi => absurd hi (by omega)⟩
  refine G_aload_n dDV_init_58 rfl ?_
  refine G_iconst (v := 0) dDV_init_59 (by decide) ?_
  refine G_null dDV_init_60 ?_
  refine G_callV (As := [.int 0, .null]) (rest := []) gDV_init_DV_addBox lDV_38.1 lDV_38.2.1 lDV_38.2.2.1 lDV_38.2.2.2 dDV_init_61 rfl (Nat.le_of_ble_eq_true rfl) t5 ⟨by decide, by decide⟩ (cDV_addBox (p := none) (sz := dv + 35) hS hB hL5 (by omega) hs5 (Nat.le_refl _) (fun i hi => absurd hi (by omega)) (fun j z => by cases z) ⟨fun _ => rfl, fun _ => rfl⟩) ?_
  rintro T7 g7 r7 _ ⟨rfl, hs7, hS7, hB7, hL7, hAd⟩
  refine G_st (st' := [.int (nI 0)]) rfl ?_
  refine G_pop dDV_init_64 rfl ?_
  refine G_aload_n dDV_init_65 rfl ?_
  have eG : ∀ a, a < dv + 35 → a ≠ dv → a ≠ dv + 6 → g7 a = g5 a := fun a ha => (hAd a ha).2.2.1
  have eR : ∀ a, a < dv + 35 → a ≠ dv + 4 → a ≠ dv + 5 → r7 a = r6 a := fun a ha => (hAd a ha).2.2.2
  have hI : CInv T7 g7 r7 dv 1 (gup bx0 0 (dv + 35)) cx (gup od0 0 0) (gup par0 0 none) (gup B0 0 (nwB 0 0)) none none (nearI x 1 24) (nearI y 1 16) (pl0 x y) (fun _ => none) (fun _ => false) (fun _ => 0) := by
    refine ⟨hS7, hB7, ⟨by rw [eR _ (by omega) (by omega) (by omega), r6k]; rfl, by rw [eR _ (by omega) (by omega) (by omega), r6k]; rfl, (fun i z => by cases z), (fun i z => by cases z)⟩, hL7, fun k hk => ?_, fun i hi => ?_, ?_, fun k hk => ?_, fun k hk => ?_, ⟨Nat.le_refl _, gup_same, by omega⟩, fun i h1 h2 => by omega, fun i hi => ?_, fun i hi hn => absurd rfl hn⟩
    · rw [eG _ (by omega) (by omega) (by omega)]; exact hP5 k hk
    · refine ⟨fun _ => ?_, fun κ hκ => by cases hκ⟩
      rw [eR _ (by omega) (by omega) (by omega), r6o _ (by omega)]; exact (hC5 i hi).1 rfl
    · obtain ⟨S, ec, q1, q2, q3⟩ := hBd5
      refine ⟨S, ec, ?_, ?_, fun i j hi hj => ?_⟩
      · rw [eG _ (by omega) (by omega) (by omega)]; exact q1
      · rw [eG _ (by omega) (by omega) (by omega)]; exact q2
      · rw [eG _ (by omega) (by omega) (by omega)]; exact q3 i j hi hj
    · rw [eG _ (by omega) (by omega) (by omega), lowG _ (by omega)]; exact hD1 k hk
    · rw [eG _ (by omega) (by omega) (by omega), lowG _ (by omega)]; exact hM1 k hk
    · have : i = 0 := by omega
      subst this; rw [gup_same]; omega
  refine G_callV (As := []) (rest := []) gDV_init_DV_showChanges lDV_42.1 lDV_42.2.1 lDV_42.2.2.1 lDV_42.2.2.2 dDV_init_66 rfl (Nat.le_of_ble_eq_true rfl) hS7.1.1 ⟨by decide, by decide⟩ (C_show hI) ?_
  rintro T8 g8 r8 _ ⟨e8, rfl, hI8, -⟩
  cases e8.symm
  refine G_st (st' := []) rfl ?_
  exact G_return dDV_init_69 rfl (by decide) (by decide) ⟨rfl, hs7, hI8⟩
