abbrev rmC (cs : Nat → Option K5) (x : Int32) : Prop := isCn x ∧ cs (ixI x) ≠ none
theorem C_remove {E : gE} {T : gT} {gi : gI} {gr : gR} {dv nb : Nat} {bx cx od : Nat → Nat} {par : Nat → Option Nat} {B : Nat → BS} {fo pr : Option Nat} {w h : Int32} {pl : Nat → Int32} {cs : Nat → Option K5} {D : Nat → Bool} {F : Nat → Int32} {x : Int32} (hI : CInv T gi gr dv nb bx cx od par B fo pr w h pl cs D F) (hK : rmC cs x → slK w h nb (gup cs (ixI x) none) pl) : Ct E mDV_remove [.ref dv, .int x] T gi gr (fun T' gi' gr' v => T' = T ∧ CFr T T' gi gi' gr gr' dv ∧ (¬ rmC cs x ∧ v = some (.int 0) ∧ CInv T' gi' gr' dv nb bx cx od par B fo pr w h pl cs D F ∨ rmC cs x ∧ v = some (.int 1) ∧ ∃ R, ((daP R w h nb (gup cs (ixI x) none)).2 = 0 ∧ CInv T' gi' gr' dv nb bx cx od par (scS par (slL R w h nb (gup cs (ixI x) none) pl) B nb fo pr D).1 (attP (scB par (slL R w h nb (gup cs (ixI x) none) pl) B nb) fo) (attP (scB par (slL R w h nb (gup cs (ixI x) none) pl) B nb) pr) w h (slL R w h nb (gup cs (ixI x) none) pl) (gup cs (ixI x) none) (scS par (slL R w h nb (gup cs (ixI x) none) pl) B nb fo pr D).2 F ∨ ¬ (daP R w h nb (gup cs (ixI x) none)).2 = 0 ∧ CInv T' gi' gr' dv nb bx cx od par (scS par pl B nb fo pr D).1 (attP (scB par pl B nb) fo) (attP (scB par pl B nb) pr) w h pl (gup cs (ixI x) none) (scS par pl B nb fo pr D).2 F))) := by
  obtain ⟨hS, hB, hF, hL, hP, hC, hBd, hD, hM, hA⟩ := id hI
  have hn6 := hS.2.1.2
  have hLa := hS.1.2.2.2.2.2.2.2.2.2.2
  generalize hQ : (fun (T' : gT) (gi' : gI) (gr' : gR) (v : Option Value) => T' = T ∧ CFr T T' gi gi' gr gr' dv ∧ (¬ rmC cs x ∧ v = some (.int 0) ∧ CInv T' gi' gr' dv nb bx cx od par B fo pr w h pl cs D F ∨ rmC cs x ∧ v = some (.int 1) ∧ ∃ R, ((daP R w h nb (gup cs (ixI x) none)).2 = 0 ∧ CInv T' gi' gr' dv nb bx cx od par (scS par (slL R w h nb (gup cs (ixI x) none) pl) B nb fo pr D).1 (attP (scB par (slL R w h nb (gup cs (ixI x) none) pl) B nb) fo) (attP (scB par (slL R w h nb (gup cs (ixI x) none) pl) B nb) pr) w h (slL R w h nb (gup cs (ixI x) none) pl) (gup cs (ixI x) none) (scS par (slL R w h nb (gup cs (ixI x) none) pl) B nb fo pr D).2 F ∨ ¬ (daP R w h nb (gup cs (ixI x) none)).2 = 0 ∧ CInv T' gi' gr' dv nb bx cx od par (scS par pl B nb fo pr D).1 (attP (scB par pl B nb) fo) (attP (scB par pl B nb) pr) w h pl (gup cs (ixI x) none) (scS par pl B nb fo pr D).2 F))) = QQ
  have no : ¬ rmC cs x → G E mDV_remove 11 [.ref dv, .int x] [] T gi gr 0 0 QQ := by
    intro hn
    subst hQ
    refine G_iconst (v := 0) dDV_remove_11 (by decide) ?_
    exact G_ireturn dDV_remove_12 rfl (nr_z (by decide)) (by decide) (by decide) ⟨rfl, CFr.rf, Or.inl ⟨hn, rfl, hI⟩⟩
  refine Ct_of (ls := [.ref dv, .int x]) (by decide) (gcat_cons rfl (gcat_cons rfl gcat_nil)) (Nat.le_of_ble_eq_true rfl) rfl ?_
  refine G_aload_n dDV_remove_0 rfl ?_
  refine G_getRs fDV_34 dDV_remove_1 hS.1.1 hS.1.2.1 ?_
  refine G_iload_n dDV_remove_4 rfl ?_
  refine G_callV (As := [.int x]) (rest := []) gDV_remove_LA_constraintAt lDV_73.1 lDV_73.2.1 lDV_73.2.2.1 lDV_73.2.2.2 dDV_remove_5 rfl (Nat.le_of_ble_eq_true rfl) hLa.1 ⟨by decide, by decide⟩ (cLA_constraintAt hLa) ?_
  rintro T1 g1 r1 _ ⟨e1, e2, e3, r, rfl, hr⟩
  cases e1.symm
  cases e2.symm
  cases e3.symm
  refine G_st (st' := [va_rf r]) rfl ?_
  refine G_ifnonnullq dDV_remove_8 (fun hn => no ?_) (fun a ha => ?_)
  · rcases hr with ⟨j, hj, rfl, hr⟩ | ⟨hx, hr⟩
    · rintro ⟨z1, z2⟩
      rw [ixI_n (by omega)] at z2
      cases hc : cs j with
      | none => exact z2 hc
      | some κ => rw [hr, ((hC j hj).2 κ hc).1] at hn; cases hn
    · exact fun z => hx.elim z.1.1 z.1.2
  · rcases hr with ⟨j, hj, rfl, hr⟩ | ⟨hx, hr⟩
    · have hc : cs j ≠ none := fun z => by rw [hr, (hC j hj).1 z] at ha; cases ha
      have hrm : rmC cs (nI j) := ⟨⟨nI_pos (by omega), nI_ge (b := 16) hj (by decide)⟩, by rw [ixI_n (by omega)]; exact hc⟩
      have hKK := hK hrm
      rw [ixI_n (by omega)] at hKK
      refine G_aload_n dDV_remove_13 rfl ?_
      refine G_getRs fDV_34 dDV_remove_14 hS.1.1 hS.1.2.1 ?_
      refine G_iload_n dDV_remove_17 rfl ?_
      refine G_callV (As := [.int (nI j)]) (rest := []) gDV_remove_LA_takeAway lDV_77.1 lDV_77.2.1 lDV_77.2.2.1 lDV_77.2.2.2 dDV_remove_18 rfl (Nat.le_of_ble_eq_true rfl) hLa.1 ⟨by decide, by decide⟩ (cLA_takeAway hLa hL hP hC hBd hn6 hj hKK) ?_
      rintro T2 g2 r2 _ ⟨e1, e2, rfl, hBd2, hO2, R, hh⟩
      cases e1.symm
      refine G_st (st' := []) rfl ?_
      refine G_aload_n dDV_remove_21 rfl ?_
      have ad : CAd T dv nb bx cx (gup cs j none) := ⟨hA.1, hA.2.1, hA.2.2.1, fun i hi hn => by
        by_cases e : i = j
        · subst e; rw [gup_same] at hn; exact absurd rfl hn
        · rw [gup_ne e] at hn; exact hA.2.2.2 i hi hn⟩
      have hC2 : CsIs T g2 r2 (dv + 6) (gup cs j none) cx := by rw [e2]; exact (hC.lo hO2).clr
      rcases hh with ⟨hz0, hP2⟩ | ⟨hz0, hP2⟩
      · have hI2 := hI.la (gi' := g2) (gr' := r2) (fun a ha => by rw [e2, gu_off ha]) (fun a h1 h2 h3 => hO2 a h2 h3) (hL.lo hO2) hP2 hC2 hBd2 ad
        refine G_callV (As := []) (rest := []) gDV_remove_DV_showChanges lDV_42.1 lDV_42.2.1 lDV_42.2.2.1 lDV_42.2.2.2 dDV_remove_22 rfl (Nat.le_of_ble_eq_true rfl) hS.1.1 ⟨by decide, by decide⟩ (C_show hI2.1) ?_
        rintro T4 g4 r4 _ ⟨e7, rfl, hI4, hf4⟩
        cases e7.symm
        refine G_st (st' := []) rfl ?_
        refine G_iconst (v := 1) dDV_remove_25 (by decide) ?_
        subst hQ
        exact G_ireturn dDV_remove_26 rfl (nr_z (by decide)) (by decide) (by decide) ⟨rfl, hI2.2.tr hf4, Or.inr ⟨hrm, rfl, R, Or.inl (by rw [ixI_n (by omega)]; exact ⟨hz0, hI4⟩)⟩⟩
      · have hI2 := hI.la (gi' := g2) (gr' := r2) (fun a ha => by rw [e2, gu_off ha]) (fun a h1 h2 h3 => hO2 a h2 h3) (hL.lo hO2) hP2 hC2 hBd2 ad
        refine G_callV (As := []) (rest := []) gDV_remove_DV_showChanges lDV_42.1 lDV_42.2.1 lDV_42.2.2.1 lDV_42.2.2.2 dDV_remove_22 rfl (Nat.le_of_ble_eq_true rfl) hS.1.1 ⟨by decide, by decide⟩ (C_show hI2.1) ?_
        rintro T4 g4 r4 _ ⟨e7, rfl, hI4, hf4⟩
        cases e7.symm
        refine G_st (st' := []) rfl ?_
        refine G_iconst (v := 1) dDV_remove_25 (by decide) ?_
        subst hQ
        exact G_ireturn dDV_remove_26 rfl (nr_z (by decide)) (by decide) (by decide) ⟨rfl, hI2.2.tr hf4, Or.inr ⟨hrm, rfl, R, Or.inr (by rw [ixI_n (by omega)]; exact ⟨hz0, hI4⟩)⟩⟩
    · rw [hr] at ha; cases ha
abbrev sgC (nb : Nat) (e x : Int32) : Prop := isEd nb e ∧ isNr x
theorem C_suggest {E : gE} {T : gT} {gi : gI} {gr : gR} {dv nb : Nat} {bx cx od : Nat → Nat} {par : Nat → Option Nat} {B : Nat → BS} {fo pr : Option Nat} {w h : Int32} {pl : Nat → Int32} {cs : Nat → Option K5} {D : Nat → Bool} {F : Nat → Int32} {e x : Int32} (hI : CInv T gi gr dv nb bx cx od par B fo pr w h pl cs D F) (hK : sgC nb e x → nrK w h nb cs pl (ixI e) x) : Ct E mDV_suggest [.ref dv, .int e, .int x] T gi gr (fun T' gi' gr' v => T' = T ∧ CFr T T' gi gi' gr gr' dv ∧ (¬ sgC nb e x ∧ v = some (.int 0) ∧ CInv T' gi' gr' dv nb bx cx od par B fo pr w h pl cs D F ∨ sgC nb e x ∧ v = some (.int 1) ∧ ∃ R, CInv T' gi' gr' dv nb bx cx od par (scS par (nrL R w h nb cs pl (ixI e) x) B nb fo pr D).1 (attP (scB par (nrL R w h nb cs pl (ixI e) x) B nb) fo) (attP (scB par (nrL R w h nb cs pl (ixI e) x) B nb) pr) w h (nrL R w h nb cs pl (ixI e) x) cs (scS par (nrL R w h nb cs pl (ixI e) x) B nb fo pr D).2 F)) := by
  obtain ⟨hS, hB, hF, hL, hP, hC, hBd, hD, hM, hA⟩ := id hI
  have hn6 := hS.2.1.2
  have hLa := hS.1.2.2.2.2.2.2.2.2.2.2
  generalize hQ : (fun (T' : gT) (gi' : gI) (gr' : gR) (v : Option Value) => T' = T ∧ CFr T T' gi gi' gr gr' dv ∧ (¬ sgC nb e x ∧ v = some (.int 0) ∧ CInv T' gi' gr' dv nb bx cx od par B fo pr w h pl cs D F ∨ sgC nb e x ∧ v = some (.int 1) ∧ ∃ R, CInv T' gi' gr' dv nb bx cx od par (scS par (nrL R w h nb cs pl (ixI e) x) B nb fo pr D).1 (attP (scB par (nrL R w h nb cs pl (ixI e) x) B nb) fo) (attP (scB par (nrL R w h nb cs pl (ixI e) x) B nb) pr) w h (nrL R w h nb cs pl (ixI e) x) cs (scS par (nrL R w h nb cs pl (ixI e) x) B nb fo pr D).2 F)) = QQ
  have no : ¬ sgC nb e x → G E mDV_suggest 18 [.ref dv, .int e, .int x] [] T gi gr 0 0 QQ := by
    intro hn
    subst hQ
    refine G_iconst (v := 0) dDV_suggest_18 (by decide) ?_
    exact G_ireturn dDV_suggest_19 rfl (nr_z (by decide)) (by decide) (by decide) ⟨rfl, CFr.rf, Or.inl ⟨hn, rfl, hI⟩⟩
  refine Ct_of (ls := [.ref dv, .int e, .int x]) (by decide) (gcat_cons rfl (gcat_cons rfl (gcat_cons rfl gcat_nil))) (Nat.le_of_ble_eq_true rfl) rfl ?_
  refine G_aload_n dDV_suggest_0 rfl ?_
  refine G_getRs fDV_34 dDV_suggest_1 hS.1.1 hS.1.2.1 ?_
  refine G_iload_n dDV_suggest_4 rfl ?_
  refine G_callV (As := [.int e]) (rest := []) gDV_suggest_LA_isEdge lDV_81.1 lDV_81.2.1 lDV_81.2.2.1 lDV_81.2.2.2 dDV_suggest_5 rfl (Nat.le_of_ble_eq_true rfl) hLa.1 ⟨by decide, by decide⟩ (cLA_isEdge hLa hL) ?_
  refine same4 ?_
  refine G_st (st' := [.int (if isEd nb e then 1 else 0)]) rfl ?_
  refine G_if_eq dDV_suggest_8 (fun h1 => no (fun z => (if01.mp h1) z.1)) (fun h1 => ?_)
  have k1 : isEd nb e := by by_cases c : isEd nb e; exact c; exact absurd (if01.mpr c) h1
  refine G_iload_n dDV_suggest_11 rfl ?_
  refine G_callS (As := [.int x]) (rest := []) gDV_suggest_DV_isNear lDV_57.1 lDV_57.2 dDV_suggest_12 rfl (Nat.le_of_ble_eq_true rfl) ⟨by decide, by decide⟩ cDV_isNear ?_
  refine same4 ?_
  refine G_st (st' := [.int (if isNr x then 1 else 0)]) rfl ?_
  refine G_if_ne dDV_suggest_15 (fun h2 => ?_) (fun h2 => no (fun z => (if01.mp h2) z.2))
  have k2 : isNr x := by by_cases c' : isNr x; exact c'; exact absurd (if01.mpr c') h2
  have hKK := hK ⟨k1, k2⟩
  obtain ⟨j, hj, rfl⟩ := isEd_of hn6 k1
  rw [ixI_n (by omega)] at hKK
  refine G_aload_n dDV_suggest_20 rfl ?_
  refine G_getRs fDV_34 dDV_suggest_21 hS.1.1 hS.1.2.1 ?_
  refine G_iload_n dDV_suggest_24 rfl ?_
  refine G_iload_n dDV_suggest_25 rfl ?_
  refine G_callV (As := [.int (nI j), .int x]) (rest := []) gDV_suggest_LA_solveNear lDV_84.1 lDV_84.2.1 lDV_84.2.2.1 lDV_84.2.2.2 dDV_suggest_26 rfl (Nat.le_of_ble_eq_true rfl) hLa.1 ⟨by decide, by decide⟩ (cLA_solveNear hLa hL hP hC hBd hn6 (by omega) hKK) ?_
  rintro T2 g2 r2 _ ⟨e1, e2, rfl, hBd2, hO2, R, hP2⟩
  cases e1.symm
  cases e2.symm
  refine G_st (st' := []) rfl ?_
  have hI2 := hI.la (gi' := g2) (gr' := gr) (fun _ _ => rfl) (fun a h1 h2 h3 => hO2 a h2 h3) (hL.lo hO2) hP2 (hC.lo hO2) hBd2 hA
  refine G_aload_n dDV_suggest_29 rfl ?_
  refine G_callV (As := []) (rest := []) gDV_suggest_DV_showChanges lDV_42.1 lDV_42.2.1 lDV_42.2.2.1 lDV_42.2.2.2 dDV_suggest_30 rfl (Nat.le_of_ble_eq_true rfl) hS.1.1 ⟨by decide, by decide⟩ (C_show hI2.1) ?_
  rintro T4 g4 r4 _ ⟨e7, rfl, hI4, hf4⟩
  cases e7.symm
  refine G_st (st' := []) rfl ?_
  refine G_iconst (v := 1) dDV_suggest_33 (by decide) ?_
  subst hQ
  exact G_ireturn dDV_suggest_34 rfl (nr_z (by decide)) (by decide) (by decide) ⟨rfl, hI2.2.tr hf4, Or.inr ⟨⟨k1, k2⟩, rfl, R, by rw [ixI_n (by omega)]; exact hI4⟩⟩
abbrev rzC (x y : Int32) : Prop := ¬ x < 1 ∧ ¬ 24 < x ∧ ¬ y < 1 ∧ ¬ 16 < y
theorem C_resize {E : gE} {T : gT} {gi : gI} {gr : gR} {dv nb : Nat} {bx cx od : Nat → Nat} {par : Nat → Option Nat} {B : Nat → BS} {fo pr : Option Nat} {w h : Int32} {pl : Nat → Int32} {cs : Nat → Option K5} {D : Nat → Bool} {F : Nat → Int32} {x y : Int32} (hI : CInv T gi gr dv nb bx cx od par B fo pr w h pl cs D F) (hK : rzC x y → slK x y nb cs pl) : Ct E mDV_resize [.ref dv, .int x, .int y] T gi gr (fun T' gi' gr' v => T' = T ∧ CFr T T' gi gi' gr gr' dv ∧ (¬ rzC x y ∧ v = some (.int 0) ∧ CInv T' gi' gr' dv nb bx cx od par B fo pr w h pl cs D F ∨ rzC x y ∧ ∃ R, ((daP R x y nb cs).2 = 0 ∧ v = some (.int 1) ∧ CInv T' gi' gr' dv nb bx cx od par (scS par (slL R x y nb cs pl) B nb fo pr D).1 (attP (scB par (slL R x y nb cs pl) B nb) fo) (attP (scB par (slL R x y nb cs pl) B nb) pr) x y (slL R x y nb cs pl) cs (scS par (slL R x y nb cs pl) B nb fo pr D).2 F ∨ ¬ (daP R x y nb cs).2 = 0 ∧ v = some (.int 0) ∧ CInv T' gi' gr' dv nb bx cx od par B fo pr w h pl cs D F))) := by
  obtain ⟨hS, hB, hF, hL, hP, hC, hBd, hD, hM, hA⟩ := id hI
  have hn6 := hS.2.1.2
  have hLa := hS.1.2.2.2.2.2.2.2.2.2.2
  generalize hQ : (fun (T' : gT) (gi' : gI) (gr' : gR) (v : Option Value) => T' = T ∧ CFr T T' gi gi' gr gr' dv ∧ (¬ rzC x y ∧ v = some (.int 0) ∧ CInv T' gi' gr' dv nb bx cx od par B fo pr w h pl cs D F ∨ rzC x y ∧ ∃ R, ((daP R x y nb cs).2 = 0 ∧ v = some (.int 1) ∧ CInv T' gi' gr' dv nb bx cx od par (scS par (slL R x y nb cs pl) B nb fo pr D).1 (attP (scB par (slL R x y nb cs pl) B nb) fo) (attP (scB par (slL R x y nb cs pl) B nb) pr) x y (slL R x y nb cs pl) cs (scS par (slL R x y nb cs pl) B nb fo pr D).2 F ∨ ¬ (daP R x y nb cs).2 = 0 ∧ v = some (.int 0) ∧ CInv T' gi' gr' dv nb bx cx od par B fo pr w h pl cs D F))) = QQ
  have no : ¬ rzC x y → G E mDV_resize 34 [.ref dv, .int x, .int y] [] T gi gr 0 0 QQ := by
    intro hn
    subst hQ
    refine G_iconst (v := 0) dDV_resize_34 (by decide) ?_
    exact G_ireturn dDV_resize_35 rfl (nr_z (by decide)) (by decide) (by decide) ⟨rfl, CFr.rf, Or.inl ⟨hn, rfl, hI⟩⟩
  refine Ct_of (ls := [.ref dv, .int x, .int y]) (by decide) (gcat_cons rfl (gcat_cons rfl (gcat_cons rfl gcat_nil))) (Nat.le_of_ble_eq_true rfl) rfl ?_
  refine G_iload_n dDV_resize_0 rfl ?_
  refine G_iconst (v := 1) dDV_resize_1 (by decide) ?_
  refine G_icmp_lt dDV_resize_2 (fun h1 => no (fun z => z.1 h1)) (fun h1 => ?_)
  refine G_iload_n dDV_resize_5 rfl ?_
  refine G_bipush (v := 24) dDV_resize_6 (by decide) ?_
  refine G_icmp_gt dDV_resize_8 (fun h2 => no (fun z => z.2.1 h2)) (fun h2 => ?_)
  refine G_iload_n dDV_resize_11 rfl ?_
  refine G_iconst (v := 1) dDV_resize_12 (by decide) ?_
  refine G_icmp_lt dDV_resize_13 (fun h3 => no (fun z => z.2.2.1 h3)) (fun h3 => ?_)
  refine G_iload_n dDV_resize_16 rfl ?_
  refine G_bipush (v := 16) dDV_resize_17 (by decide) ?_
  refine G_icmp_gt dDV_resize_19 (fun h4 => no (fun z => z.2.2.2 h4)) (fun h4 => ?_)
  have hrz : rzC x y := ⟨h1, h2, h3, h4⟩
  refine G_aload_n dDV_resize_22 rfl ?_
  refine G_getRs fDV_34 dDV_resize_23 hS.1.1 hS.1.2.1 ?_
  refine G_iload_n dDV_resize_26 rfl ?_
  refine G_iload_n dDV_resize_27 rfl ?_
  refine G_callV (As := [.int x, .int y]) (rest := []) gDV_resize_LA_setSize lDV_87.1 lDV_87.2.1 lDV_87.2.2.1 lDV_87.2.2.2 dDV_resize_28 rfl (Nat.le_of_ble_eq_true rfl) hLa.1 ⟨by decide, by decide⟩ (cLA_setSize hLa hL hP hC hBd hn6 (hK hrz)) ?_
  rintro T2 g2 r2 v2 ⟨e1, e2, hBd2, hO2, R, hh⟩
  cases e1.symm
  cases e2.symm
  have hC2 : CsIs T g2 gr (dv + 6) cs cx := hC.off (fun a ha => hO2 a (by omega) (by omega) (by omega))
  rcases hh with ⟨hz0, rfl, hL2, hP2⟩ | ⟨hz0, rfl, hL2, hP2⟩
  · refine G_st (st' := [.int 1]) rfl ?_
    refine G_if_ne dDV_resize_31 (fun _ => ?_) (fun z => absurd z (by decide))
    have hI2 := hI.la (gi' := g2) (gr' := gr) (fun _ _ => rfl) hO2 hL2 hP2 hC2 hBd2 hA
    refine G_aload_n dDV_resize_36 rfl ?_
    refine G_callV (As := []) (rest := []) gDV_resize_DV_showChanges lDV_42.1 lDV_42.2.1 lDV_42.2.2.1 lDV_42.2.2.2 dDV_resize_37 rfl (Nat.le_of_ble_eq_true rfl) hS.1.1 ⟨by decide, by decide⟩ (C_show hI2.1) ?_
    rintro T4 g4 r4 _ ⟨e7, rfl, hI4, hf4⟩
    cases e7.symm
    refine G_st (st' := []) rfl ?_
    refine G_iconst (v := 1) dDV_resize_40 (by decide) ?_
    subst hQ
    exact G_ireturn dDV_resize_41 rfl (nr_z (by decide)) (by decide) (by decide) ⟨rfl, hI2.2.tr hf4, Or.inr ⟨hrz, R, Or.inl ⟨hz0, rfl, hI4⟩⟩⟩
  · refine G_st (st' := [.int 0]) rfl ?_
    refine G_if_ne dDV_resize_31 (fun z => absurd rfl z) (fun _ => ?_)
    have hI2 := hI.la (gi' := g2) (gr' := gr) (fun _ _ => rfl) hO2 hL2 hP2 hC2 hBd2 hA
    refine G_iconst (v := 0) dDV_resize_34 (by decide) ?_
    subst hQ
    exact G_ireturn dDV_resize_35 rfl (nr_z (by decide)) (by decide) (by decide) ⟨rfl, hI2.2, Or.inr ⟨hrz, R, Or.inr ⟨hz0, rfl, hI2.1⟩⟩⟩
