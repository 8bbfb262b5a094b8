theorem law_G {E : gE} {T : gT} {gi : gI} {gr : gR} (hL : E.2.2.2.2.1 ≤ 3074) : G E mLW_law 0 [.ref E.2.2.2.1, .long 0, .long 0, .long 0] [] T gi gr 0 0 (fun _ _ _ v => v = some (.int 1)) := by
  obtain ⟨t1, t2, dv⟩ := T
  obtain ⟨a0, ha0⟩ : ∃ a, (if 0 < E.2.2.2.2.1 then E.2.2.2.2.2.1 0 else 0) = a := ⟨_, rfl⟩
  obtain ⟨a1, ha1⟩ : ∃ a, (if 1 < E.2.2.2.2.1 then E.2.2.2.2.2.1 1 else 0) = a := ⟨_, rfl⟩
  refine G_new nwLW_7 dLW_law_0 (by decide) (by decide) ?_
  refine G_st (st' := [.ref dv]) rfl ?_
  refine G_dup dLW_law_3 rfl ?_
  refine G_aload_n dLW_law_4 rfl ?_
  refine G_iconst (v := nI 0) dLW_law_5 (by decide) ?_
  refine G_callS (As := [.ref E.2.2.2.1, .int (nI 0)]) (rest := [.ref dv, .ref dv]) gLW_law_LW_cell lLW_9.1 lLW_9.2 dLW_law_6 rfl (Nat.le_of_ble_eq_true rfl) ⟨by decide, by decide⟩ (cLW_cell (by omega) hL) (same4 ?_)
  rw [ha0]
  refine G_st (st' := [.int a0, .ref dv, .ref dv]) rfl ?_
  refine G_aload_n dLW_law_9 rfl ?_
  refine G_iconst (v := nI 1) dLW_law_10 (by decide) ?_
  refine G_callS (As := [.ref E.2.2.2.1, .int (nI 1)]) (rest := [.int a0, .ref dv, .ref dv]) gLW_law_LW_cell lLW_9.1 lLW_9.2 dLW_law_11 rfl (Nat.le_of_ble_eq_true rfl) ⟨by decide, by decide⟩ (cLW_cell (by omega) hL) (same4 ?_)
  rw [ha1]
  refine G_st (st' := [.int a1, .int a0, .ref dv, .ref dv]) rfl ?_
  refine G_callI (As := [.int a0, .int a1]) (rest := [.ref dv]) gLW_law_DV_init lLW_15.1 lLW_15.2 rfl rfl dLW_law_14 rfl (Nat.le_of_ble_eq_true rfl) ⟨by decide, by decide⟩ (C_init (fun _ => 0) (fun _ => 0) (fun _ => 0) (fun _ => none) (fun _ => nwB 0 0) gup_same rfl gup_same gup_same) ?_
  rintro T1 g1 r1 _ ⟨rfl, hs1, hI1⟩
  refine G_st (st' := [.ref dv]) rfl ?_
  refine G_astore_n (ls' := [.ref E.2.2.2.1, .ref dv, .long 0, .long 0]) dLW_law_17 (by decide) rfl ?_
  refine G_new nwLW_18 dLW_law_18 (by decide) (by decide) ?_
  refine G_st (st' := [.ref (dv + 38)]) (by rw [hs1]) ?_
  refine G_dup dLW_law_21 rfl ?_
  refine G_aload_n dLW_law_22 rfl ?_
  refine G_iconst (v := nI 0) dLW_law_23 (by decide) ?_
  refine G_callS (As := [.ref E.2.2.2.1, .int (nI 0)]) (rest := [.ref (dv + 38), .ref (dv + 38)]) gLW_law_LW_cell lLW_9.1 lLW_9.2 dLW_law_24 rfl (Nat.le_of_ble_eq_true rfl) ⟨by decide, by decide⟩ (cLW_cell (by omega) hL) (same4 ?_)
  rw [ha0]
  refine G_st (st' := [.int a0, .ref (dv + 38), .ref (dv + 38)]) rfl ?_
  refine G_aload_n dLW_law_27 rfl ?_
  refine G_iconst (v := nI 1) dLW_law_28 (by decide) ?_
  refine G_callS (As := [.ref E.2.2.2.1, .int (nI 1)]) (rest := [.int a0, .ref (dv + 38), .ref (dv + 38)]) gLW_law_LW_cell lLW_9.1 lLW_9.2 dLW_law_29 rfl (Nat.le_of_ble_eq_true rfl) ⟨by decide, by decide⟩ (cLW_cell (by omega) hL) (same4 ?_)
  rw [ha1]
  refine G_st (st' := [.int a1, .int a0, .ref (dv + 38), .ref (dv + 38)]) rfl ?_
  refine G_callI (As := [.int a0, .int a1]) (rest := [.ref (dv + 38)]) gLW_law_MO_init lLW_20.1 lLW_20.2 rfl rfl dLW_law_32 rfl (Nat.le_of_ble_eq_true rfl) ⟨by decide, by decide⟩ (M_init (by show gup T1.1 T1.2.2 8 (dv + 38) = 8; rw [hs1]; exact gup_same) (by show T1.2.2 + 1 = _; rw [hs1]) (by rw [hs1]; exact gup_same)) ?_
  rintro T3 g3 r3 _ ⟨rfl, hs3, hfb, hM3⟩
  refine G_st (st' := [.ref (dv + 38)]) rfl ?_
  refine G_astore_n (ls' := [.ref E.2.2.2.1, .ref dv, .ref (dv + 38), .long 0]) dLW_law_35 (by decide) rfl ?_
  refine G_iconst (v := nI 2) dLW_law_36 (by decide) ?_
  refine G_istore_n (ls' := lwL E dv 0) dLW_law_37 (by decide) rfl ?_
  have hI3 := hI1.grow (T' := T3) (gi' := g3) (gr' := r3) (fun a ha => by
    have hb := hfb a (by omega)
    have ne : a ≠ T1.2.2 := by omega
    refine ⟨hb.1.trans (gup_ne ne), hb.2.1.trans (gup_ne ne), hb.2.2.1.trans (gup_ne ne), hb.2.2.2.trans (gup_ne ne)⟩) (by omega)
  obtain ⟨c1, c2, c3⟩ := CV_init a0 a1 (B0 := fun _ => nwB 0 0) (od0 := fun _ => 0)
  rw [gup_none, c3] at hI3
  exact law_loop hL 512 0 rfl T3 g3 r3 _ _ (CI_mk hI3 hM3 c1 (fun j hj => ⟨c2 j hj, rfl⟩) (by omega)) (by decide) (by decide)
theorem gK_start {s : State} {b : Nat} (hts : ∀ w ∈ lw_tbl, w.before #[Value.ref b] s = true) : ∃ (D : va_G) (dA : Nat → ClassId), ∀ E : gE, E.2.1 = D → E.2.2.1 = dA → gK E s := by
  have ht : ∀ w ∈ gTbl, w.before #[Value.ref b] s = true := fun w hw => hts w (List.mem_filter.mp hw).1
  obtain ⟨c0, i0, k0⟩ := u_known (C := "DamageView") (n := 7) ht kcDV_w (hts _ (List.mem_of_getElem? (i := 48) (by decide +kernel)))
  obtain ⟨c1, i1, k1⟩ := u_known (C := "DamageView$Screen") (n := 2) ht kcSC_w (hts _ (List.mem_of_getElem? (i := 56) (by decide +kernel)))
  obtain ⟨c2, i2, k2⟩ := u_known (C := "DamageView$Layout") (n := 6) ht kcLA_w (hts _ (List.mem_of_getElem? (i := 73) (by decide +kernel)))
  obtain ⟨c3, i3, k3⟩ := u_known (C := "DamageView$Bounds") (n := 3) ht kcBD_w (hts _ (List.mem_of_getElem? (i := 84) (by decide +kernel)))
  obtain ⟨c4, i4, k4⟩ := u_known (C := "DamageView$Box") (n := 9) ht kcBX_w (hts _ (List.mem_of_getElem? (i := 127) (by decide +kernel)))
  obtain ⟨c5, i5, k5⟩ := u_known (C := "DamageView$Area") (n := 4) ht kcAR_w (hts _ (List.mem_of_getElem? (i := 133) (by decide +kernel)))
  obtain ⟨c6, i6, k6⟩ := u_known (C := "DamageView$Constraint") (n := 5) ht kcCN_w (hts _ (List.mem_of_getElem? (i := 302) (by decide +kernel)))
  obtain ⟨c7, i7, k7⟩ := u_known (C := "DamageViewModel") (n := 29) ht kcMO_w (hts _ (List.mem_of_getElem? (i := 534) (by decide +kernel)))
  obtain ⟨a0, ka0, cm0, f0, g0, h0⟩ := Cond.arrayClass_spec (ht _ aI)
  obtain ⟨a1, ka1, cm1, f1, g1, h1⟩ := Cond.arrayClass_spec (ht _ aZ)
  have o2 : va_AO "DamageView$Box" s := va_AO.of (hts _ (List.mem_of_getElem? (i := 71) (by decide +kernel)))
  have o3 : va_AO "DamageView$Constraint" s := va_AO.of (hts _ (List.mem_of_getElem? (i := 82) (by decide +kernel)))
  have o4 : (Cond.arrayOver (.array .int)).before #[] s = true := hts (.arrayOver (.array .int)) (List.mem_of_getElem? (i := 90) (by decide +kernel))
  obtain ⟨cm2, a2, ka2, d2, e2, f2, g2, h2⟩ := Cond.arrayOver_spec o2
  obtain ⟨cm3, a3, ka3, d3, e3, f3, g3, h3⟩ := Cond.arrayOver_spec o3
  obtain ⟨cm4, a4, ka4, d4, e4, f4, g4, h4⟩ := Jvm.Stand.arrayOver_specB o4
  refine ⟨(fun c => match c with | 0 => c0 | 1 => c1 | 2 => c2 | 3 => c3 | 4 => c4 | 5 => c5 | 6 => c6 | _ => c7, fun c => match c with | 0 => i0 | 1 => i1 | 2 => i2 | 3 => i3 | 4 => i4 | 5 => i5 | 6 => i6 | _ => i7), (fun q => match q with | 0 => a0 | 1 => a1 | 2 => a2 | 3 => a3 | _ => a4), fun E hD hA => ⟨⟨fun c q hq => ?_, fun k q hq => ?_⟩, fun w hw => ?_, o2, o3, o4⟩⟩
  · rw [hD]
    match c, hq with
    | 0, hq => cases hq; exact k0
    | 1, hq => cases hq; exact k1
    | 2, hq => cases hq; exact k2
    | 3, hq => cases hq; exact k3
    | 4, hq => cases hq; exact k4
    | 5, hq => cases hq; exact k5
    | 6, hq => cases hq; exact k6
    | 7, hq => cases hq; exact k7
    | n + 8, hq => exact absurd (List.getElem?_eq_some_iff.mp hq).1 (by show ¬ n + 8 < 8; omega)
  · unfold gTys at hq
    rw [hA] at hq
    match k, hq with
    | 0, hq => cases hq; exact ⟨fun n z => ⟨(fun k h => by cases h), ka0, g0, cm0, h0⟩, f0⟩
    | 1, hq => cases hq; exact ⟨fun n z => ⟨(fun k h => by cases h), ka1, g1, cm1, h1⟩, f1⟩
    | 2, hq => cases hq; exact ⟨fun n z => ⟨(fun k h => by cases h), ka2, f2, cm2, g2⟩, ka2, cm2, f2, g2, d2, h2⟩
    | 3, hq => cases hq; exact ⟨fun n z => ⟨(fun k h => by cases h), ka3, f3, cm3, g3⟩, ka3, cm3, f3, g3, d3, h3⟩
    | 4, hq => cases hq; exact ⟨fun n z => ⟨(fun k h => by cases h), ka4, f4, cm4, g4⟩, h4⟩
    | n + 5, hq => exact absurd (List.getElem?_eq_some_iff.mp hq).1 (by show ¬ n + 5 < 5; omega)
  · simp only [gNest, List.mem_cons, List.not_mem_nil, or_false] at hw
    rcases hw with rfl | rfl | rfl | rfl
    · exact va_Nw.of rfl (hts _ (List.mem_of_getElem? (i := 57) (by decide +kernel)))
    · exact va_Nw.of rfl (hts _ (List.mem_of_getElem? (i := 85) (by decide +kernel)))
    · exact va_Nw.of rfl (hts _ (List.mem_of_getElem? (i := 134) (by decide +kernel)))
    · exact va_Nw.of rfl (hts _ (List.mem_of_getElem? (i := 383) (by decide +kernel)))
