def nwB (kd : Int32) (n : Nat) : BS := (kd, 1 + nI n, 0, false, false, A0, A0)
def AdF (T T' : gT) (gi gi' : gI) (gr gr' : gR) (dv sz : Nat) : Prop := ∀ a, a < sz → T'.1 a = T.1 a ∧ T'.2.1 a = T.2.1 a ∧ (a ≠ dv → a ≠ dv + 6 → gi' a = gi a) ∧ (a ≠ dv + 4 → a ≠ dv + 5 → gr' a = gr a)
theorem cDV_addBox {E : gE} {T : gT} {gi : gI} {gr : gR} {dv nb nb0 : Nat} {bx od : Nat → Nat} {par : Nat → Option Nat} {B : Nat → BS} {w h kd : Int32} {p : Option Nat} {sz : Nat} (hS : DvS T gr dv nb bx par od) (hB : DvB gi dv nb bx B) (hL : LaIs gi (dv + 6) nb0 w h) (hn : nb < 6) (hsz : T.2.2 = sz) (hd : dv + 35 ≤ sz) (hbs : ∀ i, i < nb → bx i + 3 ≤ sz) (hp : ∀ j, p = some j → j < nb) (hp0 : p = none ↔ nb = 0) : Ct E mDV_addBox [.ref dv, .int kd, va_rf (p.map bx)] T gi gr (fun T' gi' gr' v => v = some (.int (nI nb)) ∧ T'.2.2 = sz + 3 ∧ DvS T' gr' dv (nb + 1) (gup bx nb sz) (gup par nb p) (gup od nb nb) ∧ DvB gi' dv (nb + 1) (gup bx nb sz) (gup B nb (nwB kd nb)) ∧ LaIs gi' (dv + 6) (nb + 1) w h ∧ AdF T T' gi gi' gr gr' dv sz) := by
  have hn6 := hS.2.1.2
  refine Ct_of (ls := [.ref dv, .int kd, va_rf (p.map bx), .long 0, .long 0]) (by decide) (gcat_cons rfl (gcat_cons rfl (gcat_cons (va_rf_cat _) gcat_nil))) (Nat.le_of_ble_eq_true rfl) rfl ?_
  refine G_aload_n dDV_addBox_0 rfl ?_
  refine G_getI fDV_45 dDV_addBox_1 hS.1.1 ?_
  rw [hB.1]
  refine G_istore_n (ls' := [.ref dv, .int kd, va_rf (p.map bx), .int (nI nb), .long 0]) dDV_addBox_4 (by decide) rfl ?_
  refine G_newA (a := sz) nwDV_16 dDV_addBox_5 hsz (by decide) (by decide) ?_
  refine G_dup dDV_addBox_8 rfl ?_
  refine G_iload_n dDV_addBox_9 rfl ?_
  refine G_iload_n dDV_addBox_10 rfl ?_
  refine G_aload_nq dDV_addBox_11 rfl ?_
  refine G_callI (As := [.int (nI nb), .int kd, va_rf (p.map bx)]) (rest := [.ref sz]) gDV_addBox_BX_init lDV_171.1 lDV_171.2 rfl rfl dDV_addBox_12 rfl (Nat.le_of_ble_eq_true rfl) ⟨by decide, by decide⟩ (cBX_init (b := sz) gNa_new rfl gup_same) ?_
  rintro T1 g1 r1 _ ⟨rfl, hb, hs1, hb2, hb0, hbi, hF⟩
  refine G_st (st' := [.ref sz]) rfl ?_
  have eT : ∀ a, a < sz → T1.1 a = T.1 a := fun a ha => (hF a ha).1.trans (gup_ne (by omega))
  have eL : ∀ a, a < sz → T1.2.1 a = T.2.1 a := fun a ha => (hF a ha).2.1.trans (gup_ne (by omega))
  have eG : ∀ a, a < sz → g1 a = gi a := fun a ha => (hF a ha).2.2.1.trans (gup_ne (by omega))
  have eR : ∀ a, a < sz → r1 a = gr a := fun a ha => (hF a ha).2.2.2.trans (gup_ne (by omega))
  obtain ⟨⟨a1, a2, a3, a4, a5, a6, a7, a8, a9, ⟨s1, s2, s3, s4, s5, s6, s7⟩, ⟨l1, l2, l3, l4, l5, l6, l7, l8, b1, b2, b3, b4, b5⟩⟩, c1, c2, c3, c4, c5, c6, c7⟩ := hS
  have t0 : T1.1 dv = 1 := (eT dv (by omega)).trans a1
  have t4 : T1.1 (dv + 4) = 102 := (eT _ (by omega)).trans a6
  have t4l : T1.2.1 (dv + 4) = 6 := (eL _ (by omega)).trans a7
  have t5 : T1.1 (dv + 5) = 102 := (eT _ (by omega)).trans a8
  have t5l : T1.2.1 (dv + 5) = 6 := (eL _ (by omega)).trans a9
  have t6 : T1.1 (dv + 6) = 3 := (eT _ (by omega)).trans l1
  refine G_astore (ls' := [.ref dv, .int kd, va_rf (p.map bx), .int (nI nb), .ref sz]) dDV_addBox_15 (by decide) rfl ?_
  refine G_aload_n dDV_addBox_17 rfl ?_
  refine G_getRs fDV_18 dDV_addBox_18 t0 (by rw [eR dv (by omega)]; exact a4) ?_
  refine G_iload_n dDV_addBox_21 rfl ?_
  refine G_aload dDV_addBox_22 rfl ?_
  refine G_aastsN 2 (C := "DamageView$Box") (Tb := TbBX) (N := 9) (ci := 4) dDV_addBox_24 (by decide) t4 t4l (by decide) hn hb.1 rfl rfl ?_
  refine G_aload_n dDV_addBox_25 rfl ?_
  refine G_getRs fDV_22 dDV_addBox_26 t0 (by rw [gu_off (by omega), eR dv (by omega)]; exact a5) ?_
  refine G_iload_n dDV_addBox_29 rfl ?_
  refine G_aload dDV_addBox_30 rfl ?_
  refine G_aastsN 2 (C := "DamageView$Box") (Tb := TbBX) (N := 9) (ci := 4) dDV_addBox_32 (by decide) t5 t5l (by decide) hn hb.1 rfl rfl ?_
  refine G_aload_n dDV_addBox_33 rfl ?_
  refine G_dup dDV_addBox_34 rfl ?_
  refine G_getI fDV_45 dDV_addBox_35 t0 ?_
  rw [eG dv (by omega), hB.1]
  refine G_iconst (v := 1) dDV_addBox_38 (by decide) ?_
  refine G_iadd dDV_addBox_39 ?_
  rw [nI_1]
  refine G_putI wDV_45 (Or.inl rfl) dDV_addBox_40 t0 rfl rfl ?_
  refine G_aload_n dDV_addBox_43 rfl ?_
  refine G_getRs fDV_34 dDV_addBox_44 t0 (by rw [gu_off (by omega), gu_off (by omega), eR dv (by omega)]; exact a2) ?_
  refine G_aload_n dDV_addBox_47 rfl ?_
  refine G_getI fDV_45 dDV_addBox_48 t0 ?_
  rw [gu_same]
  refine G_iconst (v := 4) dDV_addBox_51 (by decide) ?_
  refine G_imul dDV_addBox_52 ?_
  rw [nI_x4]
  refine G_putI wDV_174 (Or.inl rfl) dDV_addBox_53 t6 rfl rfl ?_
  refine G_iload_n dDV_addBox_56 rfl ?_
  generalize hr2 : gu (gu r1 (dv + 4) nb (some sz)) (dv + 5) nb (some sz) = r2
  generalize hg2 : gu (gu g1 dv 4 (nI (nb + 1))) (dv + 6) 1 (nI ((nb + 1) * 4)) = g2
  have f1 : ∀ a, a ≠ dv + 4 → a ≠ dv + 5 → r2 a = r1 a := fun a h1 h2 => by rw [← hr2, gu_off h2, gu_off h1]
  have f1' : ∀ a, a < sz → a ≠ dv + 4 → a ≠ dv + 5 → r2 a = gr a := fun a h0 h1 h2 => (f1 a h1 h2).trans (eR a h0)
  have f2 : ∀ a, a ≠ dv → a ≠ dv + 6 → g2 a = g1 a := fun a h1 h2 => by rw [← hg2, gu_off h2, gu_off h1]
  have f4 : ∀ k, r2 (dv + 4) k = if k = nb then some sz else gr (dv + 4) k := fun k => by rw [← hr2, gu_off (by omega), gu_row, eR _ (by omega)]
  have f5 : ∀ k, r2 (dv + 5) k = if k = nb then some sz else gr (dv + 5) k := fun k => by rw [← hr2, gu_row, gu_off (by omega), eR _ (by omega)]
  refine G_ireturn dDV_addBox_57 rfl rfl (by decide) (by decide) ⟨rfl, hs1, ⟨⟨t0, ?_, ?_, ?_, ?_, t4, t4l, t5, t5l, ⟨?_, ?_, ?_, ?_, ?_, ?_, ?_⟩, ?_⟩, ⟨Nat.zero_le _, by omega⟩, fun i hi => ?_, fun i q hi hq => ?_, fun i hi => ?_, fun i j hij hj => ?_, fun k hk => ?_, fun k l hk hl e => ?_⟩, ⟨?_, fun i hi => ?_⟩, ⟨?_, ?_, ?_⟩, fun a ha => ⟨eT a ha, eL a ha, fun h1 h2 => (f2 a h1 h2).trans (eG a ha), fun h1 h2 => f1' a ha h1 h2⟩⟩
  · rw [f1' dv (by omega) (by omega) (by omega)]; exact a2
  · rw [f1' dv (by omega) (by omega) (by omega)]; exact a3
  · rw [f1' dv (by omega) (by omega) (by omega)]; exact a4
  · rw [f1' dv (by omega) (by omega) (by omega)]; exact a5
  · exact (eT _ (by omega)).trans s1
  · rw [f1' _ (by omega) (by omega) (by omega)]; exact s2
  · rw [f1' _ (by omega) (by omega) (by omega)]; exact s3
  · exact (eT _ (by omega)).trans s4
  · exact (eL _ (by omega)).trans s5
  · exact (eT _ (by omega)).trans s6
  · exact (eL _ (by omega)).trans s7
  · refine ⟨t6, ?_, ?_, ?_, (eT _ (by omega)).trans l5, (eL _ (by omega)).trans l6, (eT _ (by omega)).trans l7, (eL _ (by omega)).trans l8, (eT _ (by omega)).trans b1, (eT _ (by omega)).trans b2, (eL _ (by omega)).trans b3, ?_, fun i hi => ⟨?_, (eT _ (by omega)).trans (b5 i hi).2.1, (eL _ (by omega)).trans (b5 i hi).2.2⟩⟩
    · rw [f1' _ (by omega) (by omega) (by omega)]; exact l2
    · rw [f1' _ (by omega) (by omega) (by omega)]; exact l3
    · rw [f1' _ (by omega) (by omega) (by omega)]; exact l4
    · rw [f1' _ (by omega) (by omega) (by omega)]; exact b4
    · rw [f1' _ (by omega) (by omega) (by omega)]; exact (b5 i hi).1
  · by_cases e : i = nb
    · subst e
      rw [gup_same, gup_same, f4, if_pos rfl]
      refine ⟨rfl, ⟨hb.1, ?_, ?_, hb.2.2.2⟩, ?_, hd⟩
      · rw [f1 sz (by omega) (by omega)]; exact hb.2.1
      · rw [f1 sz (by omega) (by omega)]; exact hb.2.2.1
      · rw [f1 sz (by omega) (by omega), hb2]
        cases p with
        | none => rfl
        | some j => simp only [Option.map_some]; rw [gup_ne (by have := hp j rfl; omega)]
    · have hi' : i < nb := by omega
      have hbi' := hbs i hi'
      obtain ⟨d1, ⟨e1, e2, e3, e4, e5⟩, d3, d4⟩ := c2 i hi'
      rw [gup_ne e, gup_ne e, f4, if_neg e]
      refine ⟨d1, ⟨(eT _ (by omega)).trans e1, ?_, ?_, (eT _ (by omega)).trans e4, (eT _ (by omega)).trans e5⟩, ?_, d4⟩
      · rw [f1' _ (by omega) (by omega) (by omega)]; exact e2
      · rw [f1' _ (by omega) (by omega) (by omega)]; exact e3
      · rw [f1' _ (by omega) (by omega) (by omega), d3]
        cases hq : par i with
        | none => rfl
        | some j => simp only [Option.map_some]; rw [gup_ne (by have := c3 i j hi' hq; omega)]
  · by_cases e : i = nb
    · subst e; rw [gup_same] at hq; exact hp q hq
    · rw [gup_ne e] at hq; exact c3 i q (by omega) hq
  · by_cases e : i = nb
    · subst e; rw [gup_same]; exact hp0
    · rw [gup_ne e]; exact c4 i (by omega)
  · by_cases e : j = nb
    · subst e; rw [gup_same, gup_ne (by omega)]; exact hbs i hij
    · rw [gup_ne e, gup_ne (by omega)]; exact c5 i j hij (by omega)
  · by_cases e : k = nb
    · subst e; rw [gup_same, gup_same, f5, if_pos rfl]; exact ⟨by omega, rfl⟩
    · rw [gup_ne e, f5, if_neg e]
      have := c6 k (by omega)
      rw [gup_ne (by omega)]
      exact ⟨by omega, this.2⟩
  · by_cases e1 : k = nb
    · by_cases e2 : l = nb
      · omega
      · rw [e1, gup_same, gup_ne e2] at e
        have := (c6 l (by omega)).1
        omega
    · by_cases e2 : l = nb
      · rw [e2, gup_same, gup_ne e1] at e
        have := (c6 k (by omega)).1
        omega
      · rw [gup_ne e1, gup_ne e2] at e
        exact c7 k l (by omega) (by omega) e
  · rw [← hg2, gu_off (by omega), gu_same]
  · by_cases e : i = nb
    · subst e
      rw [gup_same, gup_same]
      unfold BxIs ArIs
      rw [f2 sz (by omega) (by omega), f2 (sz + 1) (by omega) (by omega), f2 (sz + 2) (by omega) (by omega)]
      exact ⟨hb0, hbi⟩
    · have hi' : i < nb := by omega
      have hbi' := hbs i hi'
      have hge := (c2 i hi').2.2.2
      rw [gup_ne e, gup_ne e]
      unfold BxIs ArIs
      rw [f2 _ (by omega) (by omega), f2 (bx i + 1) (by omega) (by omega), f2 (bx i + 2) (by omega) (by omega), eG _ (by omega), eG (bx i + 1) (by omega), eG (bx i + 2) (by omega)]
      exact hB.2 i hi'
  · rw [← hg2, gu_same, Nat.mul_comm]
  · rw [← hg2, gu_ne (Or.inr (by decide)), gu_off (by omega), eG _ (by omega)]; exact hL.2.1
  · rw [← hg2, gu_ne (Or.inr (by decide)), gu_off (by omega), eG _ (by omega)]; exact hL.2.2
