theorem bI_inj {a b : Bool} : bI a = bI b ↔ a = b := by cases a <;> cases b <;> simp [bI]
def stH (β : BS) (x : Bool) : BS := (β.1, β.2.1, β.2.2.1, x, β.2.2.2.2)
abbrev hdC (nb : Nat) (B : Nat → BS) (x : Int32) (on : Bool) : Prop := isIn nb x ∧ ¬ (B (ixI x)).2.2.2.1 = on
theorem C_hide {E : gE} {T : gT} {gi : gI} {gr : gR} {dv nb : Nat} {bx cx od : Nat → Nat} {par : Nat → Option Nat} {B : Nat → BS} {fo pr : Option Nat} {w h : Int32} {pl : Nat → Int32} {cs : Nat → Option K5} {D : Nat → Bool} {F : Nat → Int32} {x : Int32} {on : Bool} (hI : CInv T gi gr dv nb bx cx od par B fo pr w h pl cs D F) : Ct E mDV_hide [.ref dv, .int x, .int (bI on)] T gi gr (fun T' gi' gr' v => T' = T ∧ CFr T T' gi gi' gr gr' dv ∧ (hdC nb B x on ∧ v = some (.int 1) ∧ CInv T' gi' gr' dv nb bx cx od par (scS par pl (gup B (ixI x) (stH (B (ixI x)) on)) nb fo pr D).1 (attP (scB par pl (gup B (ixI x) (stH (B (ixI x)) on)) nb) fo) (attP (scB par pl (gup B (ixI x) (stH (B (ixI x)) on)) nb) pr) w h pl cs (scS par pl (gup B (ixI x) (stH (B (ixI x)) on)) nb fo pr D).2 F ∨ ¬ hdC nb B x on ∧ v = some (.int 0) ∧ CInv T' gi' gr' dv nb bx cx od par B fo pr w h pl cs D F)) := by
  obtain ⟨hS, hB, hF, hL, hP, hC, hBd, hD, hM, hA⟩ := id hI
  have hn6 := hS.2.1.2
  have no : ¬ hdC nb B x on → G E mDV_hide 21 [.ref dv, .int x, .int (bI on)] [] T gi gr 0 0 (fun T' gi' gr' v => T' = T ∧ CFr T T' gi gi' gr gr' dv ∧ (hdC nb B x on ∧ v = some (.int 1) ∧ CInv T' gi' gr' dv nb bx cx od par (scS par pl (gup B (ixI x) (stH (B (ixI x)) on)) nb fo pr D).1 (attP (scB par pl (gup B (ixI x) (stH (B (ixI x)) on)) nb) fo) (attP (scB par pl (gup B (ixI x) (stH (B (ixI x)) on)) nb) pr) w h pl cs (scS par pl (gup B (ixI x) (stH (B (ixI x)) on)) nb fo pr D).2 F ∨ ¬ hdC nb B x on ∧ v = some (.int 0) ∧ CInv T' gi' gr' dv nb bx cx od par B fo pr w h pl cs D F)) := by
    intro hn
    refine G_iconst (v := 0) dDV_hide_21 (by decide) ?_
    exact G_ireturn dDV_hide_22 rfl (nr_z (by decide)) (by decide) (by decide) ⟨rfl, CFr.rf, Or.inr ⟨hn, rfl, hI⟩⟩
  refine Ct_of (ls := [.ref dv, .int x, .int (bI on)]) (by decide) (gcat_cons rfl (gcat_cons rfl (gcat_cons rfl gcat_nil))) (Nat.le_of_ble_eq_true rfl) rfl ?_
  refine G_aload_n dDV_hide_0 rfl ?_
  refine G_iload_n dDV_hide_1 rfl ?_
  refine G_callV (As := [.int x]) (rest := []) gDV_hide_DV_isInnerBox lDV_98.1 lDV_98.2.1 lDV_98.2.2.1 lDV_98.2.2.2 dDV_hide_2 rfl (Nat.le_of_ble_eq_true rfl) hS.1.1 ⟨by decide, by decide⟩ (cDV_isInnerBox hS hB) ?_
  rintro _ _ _ _ ⟨rfl, rfl, rfl, rfl⟩
  refine G_st (st' := [.int (if isIn nb x then 1 else 0)]) rfl ?_
  refine G_if_eq dDV_hide_5 (fun h1 => no (fun z => (if01.mp h1) z.1)) (fun h1 => ?_)
  have hin : isIn nb x := by
    by_cases c : isIn nb x
    · exact c
    · exact absurd (if01.mpr c) h1
  obtain ⟨j, hj0, hj, rfl⟩ := isIn_of hn6 hin
  rw [ixI_n (by omega)] at no ⊢
  refine G_aload_n dDV_hide_8 rfl ?_
  refine G_getRs fDV_18 dDV_hide_9 hS.1.1 hS.1.2.2.2.1 ?_
  refine G_iload_n dDV_hide_12 rfl ?_
  refine G_aaldsN 2 dDV_hide_13 (by decide) hS.1.2.2.2.2.2.1 hS.1.2.2.2.2.2.2.1 (by decide) (by omega) (hS.2.2.1 j hj).1 ?_
  refine G_getI fDV_101 dDV_hide_14 (hS.2.2.1 j hj).2.1.1 ?_
  rw [(hB.2 j hj).2.2.2.2.1]
  refine G_iload_n dDV_hide_17 rfl ?_
  refine G_icmp_ne dDV_hide_18 (fun h2 => ?_) (fun h2 => no (fun z => z.2 (by rw [ixI_n (by omega)]; exact bI_inj.mp h2)))
  refine G_aload_n dDV_hide_23 rfl ?_
  refine G_getRs fDV_18 dDV_hide_24 hS.1.1 hS.1.2.2.2.1 ?_
  refine G_iload_n dDV_hide_27 rfl ?_
  refine G_aaldsN 2 dDV_hide_28 (by decide) hS.1.2.2.2.2.2.1 hS.1.2.2.2.2.2.2.1 (by decide) (by omega) (hS.2.2.1 j hj).1 ?_
  refine G_iload_n dDV_hide_29 rfl ?_
  refine G_putI wDV_101 (Or.inl rfl) dDV_hide_30 (hS.2.2.1 j hj).2.1.1 (nr_z (bI_01 _)) (ft_z (bI_01 _)) ?_
  have hge := (hS.2.2.1 j hj).2.2.2
  have hx := hI.ch (gi' := gu _ (bx j) 7 (bI on)) (B' := gup B j (stH (B j) on)) (D' := D) (F' := F) (fun a g1 _ _ => gu_off (by have := g1 j hj; omega)) (fun _ _ => rfl) (fun _ _ => rfl) (DvB_hid hS hj hB) hF (fun k hk => by rw [gu_off (by omega)]; exact hD k hk) (fun k hk => by rw [gu_off (by omega)]; exact hM k hk)
  refine G_aload_n dDV_hide_33 rfl ?_
  refine G_callV (As := []) (rest := []) gDV_hide_DV_showChanges lDV_42.1 lDV_42.2.1 lDV_42.2.2.1 lDV_42.2.2.2 dDV_hide_34 rfl (Nat.le_of_ble_eq_true rfl) hS.1.1 ⟨by decide, by decide⟩ (C_show hx.1) ?_
  rintro _ _ _ _ ⟨rfl, rfl, hI2, hf2⟩
  refine G_st (st' := []) rfl ?_
  refine G_iconst (v := 1) dDV_hide_37 (by decide) ?_
  exact G_ireturn dDV_hide_38 rfl (nr_z (by decide)) (by decide) (by decide) ⟨rfl, hx.2.tr hf2, Or.inl ⟨⟨hin, by rw [ixI_n (by omega)]; exact fun z => h2 (by rw [z])⟩, rfl, hI2⟩⟩
theorem mvP_lt {od : Nat → Nat} {pos nb i : Nat} (h : ∀ k, k < nb → od k < nb) (hi : i < nb) : ∀ k, k < nb → mvP od pos nb i k < nb := by
  intro k hk
  unfold mvP
  split
  · exact h k hk
  · split
    · exact h _ (by assumption)
    · exact hi
theorem mvP_inj {od : Nat → Nat} {pos nb i : Nat} (hj : ∀ k l, k < nb → l < nb → od k = od l → k = l) (hpos : pos < nb) (hi : od pos = i) : ∀ k l, k < nb → l < nb → mvP od pos nb i k = mvP od pos nb i l → k = l := by
  intro k l hk hl e
  unfold mvP at e
  by_cases a : k < pos
  · rw [if_pos a] at e
    by_cases b : l < pos
    · rw [if_pos b] at e; exact hj k l hk hl e
    · rw [if_neg b] at e
      by_cases c : l + 1 < nb
      · rw [if_pos c] at e; have := hj k (l + 1) hk c e; omega
      · rw [if_neg c, ← hi] at e; have := hj k pos hk hpos e; omega
  · rw [if_neg a] at e
    by_cases d : k + 1 < nb
    · rw [if_pos d] at e
      by_cases b : l < pos
      · rw [if_pos b] at e; have := hj (k + 1) l d hl e; omega
      · rw [if_neg b] at e
        by_cases c : l + 1 < nb
        · rw [if_pos c] at e; have := hj (k + 1) (l + 1) d c e; omega
        · rw [if_neg c, ← hi] at e; have := hj (k + 1) pos d hpos e; omega
    · rw [if_neg d] at e
      by_cases b : l < pos
      · rw [if_pos b, ← hi] at e; have := hj pos l hpos hl e; omega
      · rw [if_neg b] at e
        by_cases c : l + 1 < nb
        · rw [if_pos c, ← hi] at e; have := hj pos (l + 1) hpos c e; omega
        · omega
theorem CInv.od {T : gT} {gi gi' : gI} {gr gr' : gR} {dv nb : Nat} {bx cx od : Nat → Nat} {par : Nat → Option Nat} {B : Nat → BS} {fo pr : Option Nat} {w h : Int32} {pl : Nat → Int32} {cs : Nat → Option K5} {D : Nat → Bool} {F : Nat → Int32} {od' : Nat → Nat} {D' : Nat → Bool} (hI : CInv T gi gr dv nb bx cx od par B fo pr w h pl cs D F) (h1 : ∀ a, a ≠ dv + 5 → gr' a = gr a) (h2 : ∀ k, k < nb → od' k < nb ∧ gr' (dv + 5) k = some (bx (od' k))) (h3 : ∀ k l, k < nb → l < nb → od' k = od' l → k = l) (h4 : ∀ a, a ≠ dv + 3 → gi' a = gi a) (hD : DmIs gi' (dv + 1) D') : CInv T gi' gr' dv nb bx cx od' par B fo pr w h pl cs D' F ∧ CFr T T gi gi' gr gr' dv := by
  obtain ⟨hS, hB, hF, hL, hP, hC, ⟨S, ec, q1, q2, q3⟩, -, hM, hA⟩ := hI
  obtain ⟨c0, c1, c2, c3, c4, c5, c6, c7⟩ := hS
  have hge := fun j (hj : j < nb) => (c2 j hj).2.2.2
  refine ⟨⟨⟨DvOk.gr c0 h1, c1, fun i hi => ?_, c3, c4, c5, h2, h3⟩, hB.row (h4 _ (by omega)) (fun i hi => ?_), ⟨by rw [h1 _ (by omega)]; exact hF.1, by rw [h1 _ (by omega)]; exact hF.2.1, hF.2.2⟩, ?_, fun j hj => ?_, fun i hi => ?_, ⟨S, ec, ?_, ?_, fun i j hi hj => ?_⟩, hD, fun j hj => ?_, hA⟩, Nat.le_refl _, fun a g1 g2 => ⟨rfl, rfl, h4 a (by omega), h1 a (by omega)⟩⟩
  · obtain ⟨d1, ⟨e1, e2, e3, e4⟩, d3, d4⟩ := c2 i hi
    exact ⟨by rw [h1 _ (by omega)]; exact d1, ⟨e1, by rw [h1 _ (by omega)]; exact e2, by rw [h1 _ (by omega)]; exact e3, e4⟩, by rw [h1 _ (by omega)]; exact d3, d4⟩
  · have := hge i hi
    exact ⟨h4 _ (by omega), h4 _ (by omega), h4 _ (by omega)⟩
  · unfold LaIs; rw [h4 _ (by omega)]; exact hL
  · rw [h4 _ (by omega)]; exact hP j hj
  · refine ⟨fun e => by rw [h1 _ (by omega)]; exact (hC i hi).1 e, fun κ hκ => ?_⟩
    obtain ⟨k1, k2, k3, k4, k5⟩ := (hC i hi).2 κ hκ
    have ha := hA.2.2.2 i hi (by rw [hκ]; exact fun z => by cases z)
    exact ⟨by rw [h1 _ (by omega)]; exact k1, k2, k3.row (h4 _ (by omega)), k4, k5⟩
  · rw [h4 _ (by omega)]; exact q1
  · rw [h4 _ (by omega)]; exact q2
  · rw [h4 _ (by omega)]; exact q3 i j hi hj
  · rw [h4 _ (by omega)]; exact hM j hj
abbrev rsC (nb : Nat) (od : Nat → Nat) (par : Nat → Option Nat) (x : Int32) : Prop := isIn nb x ∧ ¬ lsP od par (ixI x) nb = ixI x
theorem C_raise {E : gE} {T : gT} {gi : gI} {gr : gR} {dv nb : Nat} {bx cx od : Nat → Nat} {par : Nat → Option Nat} {B : Nat → BS} {fo pr : Option Nat} {w h : Int32} {pl : Nat → Int32} {cs : Nat → Option K5} {D : Nat → Bool} {F : Nat → Int32} {x : Int32} (hI : CInv T gi gr dv nb bx cx od par B fo pr w h pl cs D F) (hsur : ∀ j, j < nb → ∃ pos, pos < nb ∧ od pos = j) : Ct E mDV_raise [.ref dv, .int x] T gi gr (fun T' gi' gr' v => T' = T ∧ CFr T T' gi gi' gr gr' dv ∧ (rsC nb od par x ∧ v = some (.int 1) ∧ (∃ pos, pos < nb ∧ od pos = ixI x ∧ CInv T' gi' gr' dv nb bx cx (mvP od pos nb (ixI x)) par B fo pr w h pl cs (dmA D (B (ixI x)).2.2.2.2.2.1 384) F) ∨ ¬ rsC nb od par x ∧ v = some (.int 0) ∧ CInv T' gi' gr' dv nb bx cx od par B fo pr w h pl cs D F)) := by
  obtain ⟨hS, hB, hF, hL, hP, hC, hBd, hD, hM, hA⟩ := id hI
  have hn6 := hS.2.1.2
  have no : ¬ rsC nb od par x → G E mDV_raise 21 [.ref dv, .int x] [] T gi gr 0 0 (fun T' gi' gr' v => T' = T ∧ CFr T T' gi gi' gr gr' dv ∧ (rsC nb od par x ∧ v = some (.int 1) ∧ (∃ pos, pos < nb ∧ od pos = ixI x ∧ CInv T' gi' gr' dv nb bx cx (mvP od pos nb (ixI x)) par B fo pr w h pl cs (dmA D (B (ixI x)).2.2.2.2.2.1 384) F) ∨ ¬ rsC nb od par x ∧ v = some (.int 0) ∧ CInv T' gi' gr' dv nb bx cx od par B fo pr w h pl cs D F)) := by
    intro hn
    refine G_iconst (v := 0) dDV_raise_21 (by decide) ?_
    exact G_ireturn dDV_raise_22 rfl (nr_z (by decide)) (by decide) (by decide) ⟨rfl, CFr.rf, Or.inr ⟨hn, rfl, hI⟩⟩
  refine Ct_of (ls := [.ref dv, .int x]) (by decide) (gcat_cons rfl (gcat_cons rfl gcat_nil)) (Nat.le_of_ble_eq_true rfl) rfl ?_
  refine G_aload_n dDV_raise_0 rfl ?_
  refine G_iload_n dDV_raise_1 rfl ?_
  refine G_callV (As := [.int x]) (rest := []) gDV_raise_DV_isInnerBox lDV_98.1 lDV_98.2.1 lDV_98.2.2.1 lDV_98.2.2.2 dDV_raise_2 rfl (Nat.le_of_ble_eq_true rfl) hS.1.1 ⟨by decide, by decide⟩ (cDV_isInnerBox hS hB) ?_
  rintro _ _ _ _ ⟨rfl, rfl, rfl, rfl⟩
  refine G_st (st' := [.int (if isIn nb x then 1 else 0)]) rfl ?_
  refine G_if_eq dDV_raise_5 (fun h1 => no (fun z => (if01.mp h1) z.1)) (fun h1 => ?_)
  have hin : isIn nb x := by
    by_cases c : isIn nb x
    · exact c
    · exact absurd (if01.mpr c) h1
  obtain ⟨j, hj0, hj, rfl⟩ := isIn_of hn6 hin
  rw [ixI_n (by omega)] at no ⊢
  refine G_aload_n dDV_raise_8 rfl ?_
  refine G_aload_n dDV_raise_9 rfl ?_
  refine G_getRs fDV_18 dDV_raise_10 hS.1.1 hS.1.2.2.2.1 ?_
  refine G_iload_n dDV_raise_13 rfl ?_
  refine G_aaldsN 2 dDV_raise_14 (by decide) hS.1.2.2.2.2.2.1 hS.1.2.2.2.2.2.2.1 (by decide) (by omega) (hS.2.2.1 j hj).1 ?_
  refine G_callV (As := [.ref (bx j)]) (rest := []) gDV_raise_DV_isLastOfItsParent lDV_105.1 lDV_105.2.1 lDV_105.2.2.1 lDV_105.2.2.2 dDV_raise_15 rfl (Nat.le_of_ble_eq_true rfl) hS.1.1 ⟨by decide, by decide⟩ (cDV_isLastOfItsParent hS hB hj) ?_
  rintro _ _ _ _ ⟨rfl, rfl, rfl, rfl⟩
  refine G_st (st' := [.int (if lsP od par j nb = j then 1 else 0)]) rfl ?_
  refine G_if_eq dDV_raise_18 (fun h2 => ?_) (fun h2 => no (fun z => z.2 (by rw [ixI_n (by omega)]; by_cases c : lsP od par j nb = j; exact c; exact absurd (if01.mpr c) h2)))
  obtain ⟨pos, hpos, hodp⟩ := hsur j hj
  refine G_aload_n dDV_raise_23 rfl ?_
  refine G_aload_n dDV_raise_24 rfl ?_
  refine G_getRs fDV_18 dDV_raise_25 hS.1.1 hS.1.2.2.2.1 ?_
  refine G_iload_n dDV_raise_28 rfl ?_
  refine G_aaldsN 2 dDV_raise_29 (by decide) hS.1.2.2.2.2.2.1 hS.1.2.2.2.2.2.2.1 (by decide) (by omega) (hS.2.2.1 j hj).1 ?_
  refine G_callV (As := [.ref (bx j)]) (rest := []) gDV_raise_DV_bringToFront lDV_109.1 lDV_109.2.1 lDV_109.2.2.1 lDV_109.2.2.2 dDV_raise_30 rfl (Nat.le_of_ble_eq_true rfl) hS.1.1 ⟨by decide, by decide⟩ (cDV_bringToFront hS hB hpos hodp) ?_
  rintro _ _ r1 _ ⟨rfl, rfl, rfl, e1, e2⟩
  refine G_st (st' := []) rfl ?_
  have hx := hI.od (gr' := r1) (od' := mvP od pos nb j) (D' := D) e1 (fun k hk => ⟨mvP_lt (fun k hk => (hS.2.2.2.2.2.2.1 k hk).1) hj k hk, e2 k hk⟩) (mvP_inj hS.2.2.2.2.2.2.2 hpos hodp) (fun _ _ => rfl) hD
  obtain ⟨hS1, hB1, -⟩ := id hx.1
  refine G_aload_n dDV_raise_33 rfl ?_
  refine G_getRs fDV_12 dDV_raise_34 hS1.1.1 hS1.1.2.2.1 ?_
  refine G_aload_n dDV_raise_37 rfl ?_
  refine G_getRs fDV_18 dDV_raise_38 hS1.1.1 hS1.1.2.2.2.1 ?_
  refine G_iload_n dDV_raise_41 rfl ?_
  refine G_aaldsN 2 dDV_raise_42 (by decide) hS1.1.2.2.2.2.2.1 hS1.1.2.2.2.2.2.2.1 (by decide) (by omega) (hS1.2.2.1 j hj).1 ?_
  refine G_getRs fDV_113 dDV_raise_43 (hS1.2.2.1 j hj).2.1.1 (hS1.2.2.1 j hj).2.1.2.1 ?_
  refine G_callV (As := [.ref (bx j + 1)]) (rest := []) gDV_raise_SC_damageArea lDV_117.1 lDV_117.2.1 lDV_117.2.2.1 lDV_117.2.2.2 dDV_raise_46 rfl (Nat.le_of_ble_eq_true rfl) hS1.1.2.2.2.2.2.2.2.2.2.1.1 ⟨by decide, by decide⟩ (cSC_damageArea hS1.1.2.2.2.2.2.2.2.2.2.1 (hS1.2.2.1 j hj).2.1.2.2.2.1 (by have := (hS1.2.2.1 j hj).2.2.2; omega) (hB1.2 j hj).2.2.2.2.2.2.1 hD) ?_
  rintro _ g2 _ _ ⟨rfl, rfl, rfl, hD2, hO2⟩
  refine G_st (st' := []) rfl ?_
  refine G_iconst (v := 1) dDV_raise_49 (by decide) ?_
  have hy := hx.1.od (gi' := g2) (od' := mvP od pos nb j) (fun _ _ => rfl) (fun k hk => hS1.2.2.2.2.2.2.1 k hk) hS1.2.2.2.2.2.2.2 (fun a ha => hO2 a (by omega)) hD2
  exact G_ireturn dDV_raise_50 rfl (nr_z (by decide)) (by decide) (by decide) ⟨rfl, hx.2.tr hy.2, Or.inl ⟨⟨hin, by rw [ixI_n (by omega)]; exact if01.mp h2⟩, rfl, pos, hpos, hodp, hy.1⟩⟩
