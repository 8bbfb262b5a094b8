theorem same4 {T : gT} {gi : gI} {gr : gR} {x : Option Value} {P : gT → gI → gR → Option Value → Prop} (h : P T gi gr x) : ∀ T' gi' gr' v, (T' = T ∧ gi' = gi ∧ gr' = gr ∧ v = x) → P T' gi' gr' v := by
  rintro _ _ _ _ ⟨rfl, rfl, rfl, rfl⟩
  exact h
theorem C_fop {T : gT} {gi : gI} {gr gr' : gR} {dv nb : Nat} {bx cx od : Nat → Nat} {par : Nat → Option Nat} {B : Nat → BS} {fo pr : Option Nat} {w h : Int32} {pl : Nat → Int32} {cs : Nat → Option K5} {D : Nat → Bool} {F : Nat → Int32} {fo' pr' : Option Nat} (hI : CInv T gi gr dv nb bx cx od par B fo pr w h pl cs D F) (h2 : ∀ a, a ≠ dv → gr' a = gr a) (h3 : ∀ k, k < 5 → gr' dv k = gr dv k) (hF : DvF gr' dv nb bx fo' pr') : CInv T gi gr' dv nb bx cx od par B fo' pr' w h pl cs D F ∧ CFr T T gi gi gr gr' dv := hI.ch (fun _ _ _ _ => rfl) h2 h3 hI.2.1 hF hI.2.2.2.2.2.2.2.1 hI.2.2.2.2.2.2.2.2.1
abbrev prC (pr : Option Nat) : Prop := pr = none
theorem C_press {E : gE} {T : gT} {gi : gI} {gr : gR} {dv nb : Nat} {bx cx od : Nat → Nat} {par : Nat → Option Nat} {B : Nat → BS} {fo pr : Option Nat} {w h : Int32} {pl : Nat → Int32} {cs : Nat → Option K5} {D : Nat → Bool} {F : Nat → Int32} {x y : Int32} (hI : CInv T gi gr dv nb bx cx od par B fo pr w h pl cs D F) : Ct E mDV_press [.ref dv, .int x, .int y] T gi gr (fun T' gi' gr' v => T' = T ∧ CFr T T' gi gi' gr gr' dv ∧ (pr = none ∧ v = some (.int (noI (hitP od par B nb x y))) ∧ CInv T' gi' gr' dv nb bx cx od par (scS par pl B nb (attP B (hitP od par B nb x y)) (attP B (hitP od par B nb x y)) D).1 (attP (scB par pl B nb) (attP B (hitP od par B nb x y))) (attP (scB par pl B nb) (attP B (hitP od par B nb x y))) w h pl cs (scS par pl B nb (attP B (hitP od par B nb x y)) (attP B (hitP od par B nb x y)) D).2 F ∨ ¬ pr = none ∧ v = some (.int (-2)) ∧ CInv T' gi' gr' dv nb bx cx od par B fo pr w h pl cs D F)) := by
  obtain ⟨hS, hB, hF, hL, hP, hC, hBd, hD, hM, hA⟩ := id hI
  have hlt := hitP_lt (B := B) (x := x) (y := y) hS
  refine Ct_of (ls := [.ref dv, .int x, .int y, .long 0]) (by decide) (gcat_cons rfl (gcat_cons rfl (gcat_cons rfl gcat_nil))) (Nat.le_of_ble_eq_true rfl) rfl ?_
  refine G_aload_n dDV_press_0 rfl ?_
  refine G_getR fDV_129 dDV_press_1 hS.1.1 ?_
  rw [hF.2.1]
  cases pr with
  | some i =>
    refine G_st (st' := [.ref (bx i)]) rfl ?_
    refine G_ifnull dDV_press_4 ?_
    refine G_bipush (v := (-2)) dDV_press_7 (by decide) ?_
    exact G_ireturn dDV_press_9 rfl rfl (by decide) (by decide) ⟨rfl, CFr.rf, Or.inr ⟨(fun z => by cases z), rfl, hI⟩⟩
  | none =>
    refine G_st (st' := [.null]) rfl ?_
    refine G_ifnullN dDV_press_4 ?_
    refine G_aload_n dDV_press_10 rfl ?_
    refine G_iload_n dDV_press_11 rfl ?_
    refine G_iload_n dDV_press_12 rfl ?_
    refine G_callV (As := [.int x, .int y]) (rest := []) gDV_press_DV_frontBox lDV_121.1 lDV_121.2.1 lDV_121.2.2.1 lDV_121.2.2.2 dDV_press_13 rfl (Nat.le_of_ble_eq_true rfl) hS.1.1 ⟨by decide, by decide⟩ (cDV_frontBox hS hB) ?_
    refine same4 ?_
    generalize hitP od par B nb x y = u at hlt ⊢
    refine G_st (st' := [va_rf (u.map bx)]) rfl ?_
    refine G_astore_nq (ls' := [.ref dv, .int x, .int y, va_rf (u.map bx)]) dDV_press_16 (by decide) rfl ?_
    have fin : ∀ r, r = (attP B u).map bx → G E mDV_press 34 [.ref dv, .int x, .int y, va_rf (u.map bx)] [va_rf r, .ref dv] T gi gr 0 0 (fun T' gi' gr' v => T' = T ∧ CFr T T' gi gi' gr gr' dv ∧ ((none : Option Nat) = none ∧ v = some (.int (noI u)) ∧ CInv T' gi' gr' dv nb bx cx od par (scS par pl B nb (attP B u) (attP B u) D).1 (attP (scB par pl B nb) (attP B u)) (attP (scB par pl B nb) (attP B u)) w h pl cs (scS par pl B nb (attP B u) (attP B u) D).2 F ∨ ¬ (none : Option Nat) = none ∧ v = some (.int (-2)) ∧ CInv T' gi' gr' dv nb bx cx od par B fo none w h pl cs D F)) := by
      rintro r rfl
      refine G_putR (r := (attP B u).map bx) rfl wDV_137 (Or.inl rfl) dDV_press_34 hS.1.1 (nr_o _) (ft_o _) ?_
      refine G_aload_n dDV_press_37 rfl ?_
      refine G_aload_n dDV_press_38 rfl ?_
      refine G_getR fDV_137 dDV_press_39 hS.1.1 ?_
      rw [gu_same]
      refine G_putR (r := (attP B u).map bx) rfl wDV_129 (Or.inl rfl) dDV_press_42 hS.1.1 (nr_o _) (ft_o _) ?_
      refine G_aload_n dDV_press_45 rfl ?_
      have hx := C_fop hI (gr' := gu (gu gr dv 5 ((attP B u).map bx)) dv 6 ((attP B u).map bx)) (fo' := attP B u) (pr' := attP B u) (fun a ha => by rw [gu_off ha, gu_off ha]) (fun k hk => by rw [gu_ne (by omega), gu_ne (by omega)]) ⟨by rw [gu_ne (by omega), gu_same], gu_same, attP_lt hlt, attP_lt hlt⟩
      refine G_callV (As := []) (rest := []) gDV_press_DV_showChanges lDV_42.1 lDV_42.2.1 lDV_42.2.2.1 lDV_42.2.2.2 dDV_press_46 rfl (Nat.le_of_ble_eq_true rfl) hS.1.1 ⟨by decide, by decide⟩ (C_show hx.1) ?_
      rintro _ _ _ _ ⟨rfl, rfl, hI2, hf2⟩
      refine G_st (st' := []) rfl ?_
      refine G_aload_nq dDV_press_49 rfl ?_
      refine G_callS (As := [va_rf (u.map bx)]) (rest := []) gDV_press_DV_numberOf lDV_125.1 lDV_125.2 dDV_press_50 rfl (Nat.le_of_ble_eq_true rfl) ⟨by decide, by decide⟩ (cDV_numberOf hI2.1 hI2.2.1 hlt) ?_
      refine same4 ?_
      refine G_st (st' := [.int (noI u)]) rfl ?_
      exact G_ireturn dDV_press_53 rfl rfl (by decide) (by decide) ⟨rfl, hx.2.tr hf2, Or.inl ⟨rfl, rfl, hI2⟩⟩
    refine G_aload_n dDV_press_17 rfl ?_
    refine G_aload_nq dDV_press_18 rfl ?_
    cases u with
    | none =>
      refine G_st (st' := [.null, .ref dv]) rfl ?_
      refine G_ifnullN dDV_press_19 ?_
      refine G_null dDV_press_33 ?_
      exact fin none rfl
    | some i =>
      have hi := hlt i rfl
      refine G_st (st' := [.ref (bx i), .ref dv]) rfl ?_
      refine G_ifnull dDV_press_19 ?_
      refine G_aload_n (a := bx i) dDV_press_22 rfl ?_
      refine G_callV (As := []) (rest := [.ref dv]) gDV_press_BX_canHaveAttention lDV_133.1 lDV_133.2.1 lDV_133.2.2.1 lDV_133.2.2.2 dDV_press_23 rfl (Nat.le_of_ble_eq_true rfl) (hS.2.2.1 i hi).2.1.1 ⟨by decide, by decide⟩ (cBX_canHaveAttention (hS.2.2.1 i hi).2.1 (hB.2 i hi).2.1 (hB.2 i hi).2.2.2.2.2.2.1) ?_
      refine same4 ?_
      refine G_st (st' := [.int (if chA (B i).1 (B i).2.2.2.2.2.1 then 1 else 0), .ref dv]) rfl ?_
      refine G_if_eq dDV_press_26 (fun h1 => ?_) (fun h1 => ?_)
      · refine G_null dDV_press_33 ?_
        exact fin none (by unfold attP; dsimp only; rw [if_neg (if01.mp h1)]; rfl)
      · refine G_aload_n (a := bx i) dDV_press_29 rfl ?_
        refine G_goto dDV_press_30 ?_
        exact fin (some (bx i)) (by unfold attP; dsimp only; rw [if_pos (by by_cases c : chA (B i).1 (B i).2.2.2.2.2.1; exact c; exact absurd (if01.mpr c) h1)]; rfl)
def rlB (par : Nat → Option Nat) (B : Nat → BS) (pr u : Option Nat) : Nat → BS := match pr with
  | some i => if u = some i then atB par i B else B
  | none => B
def rlO (pr u : Option Nat) : Option Nat := if u = pr then pr else none
theorem C_release {E : gE} {T : gT} {gi : gI} {gr : gR} {dv nb : Nat} {bx cx od : Nat → Nat} {par : Nat → Option Nat} {B : Nat → BS} {fo pr : Option Nat} {w h : Int32} {pl : Nat → Int32} {cs : Nat → Option K5} {D : Nat → Bool} {F : Nat → Int32} {x y : Int32} (hI : CInv T gi gr dv nb bx cx od par B fo pr w h pl cs D F) : Ct E mDV_release [.ref dv, .int x, .int y] T gi gr (fun T' gi' gr' v => T' = T ∧ CFr T T' gi gi' gr gr' dv ∧ (¬ pr = none ∧ v = some (.int (noI (rlO pr (hitP od par B nb x y)))) ∧ CInv T' gi' gr' dv nb bx cx od par (scS par pl (rlB par B pr (hitP od par B nb x y)) nb fo none D).1 (attP (scB par pl (rlB par B pr (hitP od par B nb x y)) nb) fo) (attP (scB par pl (rlB par B pr (hitP od par B nb x y)) nb) none) w h pl cs (scS par pl (rlB par B pr (hitP od par B nb x y)) nb fo none D).2 F ∨ pr = none ∧ v = some (.int (-2)) ∧ CInv T' gi' gr' dv nb bx cx od par B fo pr w h pl cs D F)) := by
  obtain ⟨hS, hB, hF, hL, hP, hC, hBd, hD, hM, hA⟩ := id hI
  have hlt := hitP_lt (B := B) (x := x) (y := y) hS
  refine Ct_of (ls := [.ref dv, .int x, .int y, .long 0]) (by decide) (gcat_cons rfl (gcat_cons rfl (gcat_cons rfl gcat_nil))) (Nat.le_of_ble_eq_true rfl) rfl ?_
  refine G_aload_n dDV_release_0 rfl ?_
  refine G_getR fDV_129 dDV_release_1 hS.1.1 ?_
  rw [hF.2.1]
  cases pr with
  | none =>
    refine G_st (st' := [.null]) rfl ?_
    refine G_ifnonnullN dDV_release_4 ?_
    refine G_bipush (v := (-2)) dDV_release_7 (by decide) ?_
    exact G_ireturn dDV_release_9 rfl rfl (by decide) (by decide) ⟨rfl, CFr.rf, Or.inr ⟨rfl, rfl, hI⟩⟩
  | some i =>
    have hi := hF.2.2.2 i rfl
    refine G_st (st' := [.ref (bx i)]) rfl ?_
    refine G_ifnonnull dDV_release_4 ?_
    refine G_aload_n dDV_release_10 rfl ?_
    refine G_iload_n dDV_release_11 rfl ?_
    refine G_iload_n dDV_release_12 rfl ?_
    refine G_callV (As := [.int x, .int y]) (rest := []) gDV_release_DV_frontBox lDV_121.1 lDV_121.2.1 lDV_121.2.2.1 lDV_121.2.2.2 dDV_release_13 rfl (Nat.le_of_ble_eq_true rfl) hS.1.1 ⟨by decide, by decide⟩ (cDV_frontBox hS hB) ?_
    refine same4 ?_
    generalize hitP od par B nb x y = u at hlt ⊢
    refine G_st (st' := [va_rf (u.map bx)]) rfl ?_
    refine G_aload_n dDV_release_16 rfl ?_
    refine G_getRs fDV_129 dDV_release_17 hS.1.1 hF.2.1 ?_
    have hx := C_fop hI (gr' := gu gr dv 6 none) (fo' := fo) (pr' := none) (fun a ha => by rw [gu_off ha]) (fun k hk => by rw [gu_ne (by omega)]) ⟨by rw [gu_ne (by omega)]; exact hF.1, gu_same, hF.2.2.1, fun i h => by cases h⟩
    obtain ⟨hS1, hB1, hF1, hL1, hP1, hC1, hBd1, hD1, hM1, hA1⟩ := id hx.1
    refine G_acmp_ne (rx := u.map bx) (ry := some (bx i)) rfl rfl dDV_release_20 (fun h1 => ?_) (fun h1 => ?_)
    · have hu : ¬ u = some i := fun z => h1 (by rw [z]; rfl)
      refine G_null dDV_release_30 ?_
      refine G_astore_nN (ls' := [.ref dv, .int x, .int y, .null]) dDV_release_31 (by decide) rfl ?_
      refine G_aload_n dDV_release_32 rfl ?_
      refine G_null dDV_release_33 ?_
      refine G_putR (r := none) rfl wDV_129 (Or.inl rfl) dDV_release_34 hS.1.1 (nr_o _) (ft_o _) ?_
      refine G_aload_nN dDV_release_37 rfl ?_
      refine G_ifnullN dDV_release_38 ?_
      refine G_aload_n dDV_release_45 rfl ?_
      refine G_callV (As := []) (rest := []) gDV_release_DV_showChanges lDV_42.1 lDV_42.2.1 lDV_42.2.2.1 lDV_42.2.2.2 dDV_release_46 rfl (Nat.le_of_ble_eq_true rfl) hS.1.1 ⟨by decide, by decide⟩ (C_show hx.1) ?_
      rintro _ _ _ _ ⟨rfl, rfl, hI2, hf2⟩
      refine G_st (st' := []) rfl ?_
      refine G_aload_nN dDV_release_49 rfl ?_
      refine G_callS (As := [va_rf ((none : Option Nat).map bx)]) (rest := []) gDV_release_DV_numberOf lDV_125.1 lDV_125.2 dDV_release_50 rfl (Nat.le_of_ble_eq_true rfl) ⟨by decide, by decide⟩ (cDV_numberOf (o := none) hI2.1 hI2.2.1 (fun _ z => by cases z)) ?_
      refine same4 ?_
      refine G_st (st' := [.int (noI none)]) rfl ?_
      exact G_ireturn dDV_release_53 rfl rfl (by decide) (by decide) ⟨rfl, hx.2.tr hf2, Or.inl ⟨(fun z => by cases z), by unfold rlO; rw [if_neg hu], by unfold rlB; dsimp only; rw [if_neg hu]; exact hI2⟩⟩
    · have hu : u = some i := (hS.injO hlt (b := some i) (fun j z => by cases z; exact hi)).mp h1
      refine G_aload_n dDV_release_23 rfl ?_
      refine G_getRs fDV_129 dDV_release_24 hS.1.1 hF.2.1 ?_
      refine G_goto dDV_release_27 ?_
      refine G_astore_n (ls' := [.ref dv, .int x, .int y, .ref (bx i)]) dDV_release_31 (by decide) rfl ?_
      refine G_aload_n dDV_release_32 rfl ?_
      refine G_null dDV_release_33 ?_
      refine G_putR (r := none) rfl wDV_129 (Or.inl rfl) dDV_release_34 hS.1.1 (nr_o _) (ft_o _) ?_
      refine G_aload_n dDV_release_37 rfl ?_
      refine G_ifnull dDV_release_38 ?_
      refine G_aload_n dDV_release_41 rfl ?_
      refine G_callS (As := [.ref (bx i)]) (rest := []) gDV_release_DV_activate lDV_140.1 lDV_140.2 dDV_release_42 rfl (Nat.le_of_ble_eq_true rfl) ⟨by decide, by decide⟩ (cDV_activate hS1 hB1 hi) ?_
      rintro _ g2 _ _ ⟨rfl, rfl, rfl, hB2, hO2⟩
      refine G_st (st' := []) rfl ?_
      have hge := fun j (hj : j < nb) => (hS.2.2.1 j hj).2.2.2
      have hy := hx.1.ch (gi' := g2) (D' := D) (F' := F) (fun a g1 _ _ => hO2 a (fun j hj => by have := g1 j hj; omega)) (fun _ _ => rfl) (fun _ _ => rfl) hB2 hF1 (fun k hk => by rw [hO2 _ (fun j hj => by have := hge j hj; omega)]; exact hD1 k hk) (fun k hk => by rw [hO2 _ (fun j hj => by have := hge j hj; omega)]; exact hM1 k hk)
      refine G_aload_n dDV_release_45 rfl ?_
      refine G_callV (As := []) (rest := []) gDV_release_DV_showChanges lDV_42.1 lDV_42.2.1 lDV_42.2.2.1 lDV_42.2.2.2 dDV_release_46 rfl (Nat.le_of_ble_eq_true rfl) hS.1.1 ⟨by decide, by decide⟩ (C_show hy.1) ?_
      rintro _ _ _ _ ⟨rfl, rfl, hI2, hf2⟩
      refine G_st (st' := []) rfl ?_
      refine G_aload_n dDV_release_49 rfl ?_
      refine G_callS (As := [va_rf ((some i).map bx)]) (rest := []) gDV_release_DV_numberOf lDV_125.1 lDV_125.2 dDV_release_50 rfl (Nat.le_of_ble_eq_true rfl) ⟨by decide, by decide⟩ (cDV_numberOf (o := some i) hI2.1 hI2.2.1 (fun j z => by cases z; exact hi)) ?_
      refine same4 ?_
      refine G_st (st' := [.int (noI (some i))]) rfl ?_
      exact G_ireturn dDV_release_53 rfl rfl (by decide) (by decide) ⟨rfl, hx.2.tr (hy.2.tr hf2), Or.inl ⟨(fun z => by cases z), by unfold rlO; rw [if_pos hu], by unfold rlB; dsimp only; rw [if_pos hu]; exact hI2⟩⟩
def kyB (par : Nat → Option Nat) (B : Nat → BS) (fo : Option Nat) : Nat → BS := match fo with
  | some i => atB par i B
  | none => B
theorem C_key {E : gE} {T : gT} {gi : gI} {gr : gR} {dv nb : Nat} {bx cx od : Nat → Nat} {par : Nat → Option Nat} {B : Nat → BS} {fo pr : Option Nat} {w h : Int32} {pl : Nat → Int32} {cs : Nat → Option K5} {D : Nat → Bool} {F : Nat → Int32} (hI : CInv T gi gr dv nb bx cx od par B fo pr w h pl cs D F) : Ct E mDV_key [.ref dv] T gi gr (fun T' gi' gr' v => T' = T ∧ CFr T T' gi gi' gr gr' dv ∧ (¬ fo = none ∧ v = some (.int (noI (attP (scB par pl (kyB par B fo) nb) fo))) ∧ CInv T' gi' gr' dv nb bx cx od par (scS par pl (kyB par B fo) nb fo pr D).1 (attP (scB par pl (kyB par B fo) nb) fo) (attP (scB par pl (kyB par B fo) nb) pr) w h pl cs (scS par pl (kyB par B fo) nb fo pr D).2 F ∨ fo = none ∧ v = some (.int (-1)) ∧ CInv T' gi' gr' dv nb bx cx od par B fo pr w h pl cs D F)) := by
  obtain ⟨hS, hB, hF, hL, hP, hC, hBd, hD, hM, hA⟩ := id hI
  refine Ct_of (ls := [.ref dv]) (by decide) (gcat_cons rfl gcat_nil) (Nat.le_of_ble_eq_true rfl) rfl ?_
  refine G_aload_n dDV_key_0 rfl ?_
  refine G_getR fDV_137 dDV_key_1 hS.1.1 ?_
  rw [hF.1]
  cases fo with
  | none =>
    refine G_st (st' := [.null]) rfl ?_
    refine G_ifnullN dDV_key_4 ?_
    refine G_aload_n dDV_key_18 rfl ?_
    refine G_getR fDV_137 dDV_key_19 hS.1.1 ?_
    rw [hF.1]
    refine G_callS (As := [va_rf ((none : Option Nat).map bx)]) (rest := []) gDV_key_DV_numberOf lDV_125.1 lDV_125.2 dDV_key_22 rfl (Nat.le_of_ble_eq_true rfl) ⟨by decide, by decide⟩ (cDV_numberOf (o := none) hS hB (fun _ z => by cases z)) ?_
    refine same4 ?_
    refine G_st (st' := [.int (noI none)]) rfl ?_
    exact G_ireturn dDV_key_25 rfl rfl (by decide) (by decide) ⟨rfl, CFr.rf, Or.inr ⟨rfl, rfl, hI⟩⟩
  | some i =>
    have hi := hF.2.2.1 i rfl
    refine G_st (st' := [.ref (bx i)]) rfl ?_
    refine G_ifnull dDV_key_4 ?_
    refine G_aload_n dDV_key_7 rfl ?_
    refine G_getRs fDV_137 dDV_key_8 hS.1.1 hF.1 ?_
    refine G_callS (As := [.ref (bx i)]) (rest := []) gDV_key_DV_activate lDV_140.1 lDV_140.2 dDV_key_11 rfl (Nat.le_of_ble_eq_true rfl) ⟨by decide, by decide⟩ (cDV_activate hS hB hi) ?_
    rintro _ g2 _ _ ⟨rfl, rfl, rfl, hB2, hO2⟩
    refine G_st (st' := []) rfl ?_
    have hge := fun j (hj : j < nb) => (hS.2.2.1 j hj).2.2.2
    have hy := hI.ch (gi' := g2) (D' := D) (F' := F) (fun a g1 _ _ => hO2 a (fun j hj => by have := g1 j hj; omega)) (fun _ _ => rfl) (fun _ _ => rfl) hB2 hF (fun k hk => by rw [hO2 _ (fun j hj => by have := hge j hj; omega)]; exact hD k hk) (fun k hk => by rw [hO2 _ (fun j hj => by have := hge j hj; omega)]; exact hM k hk)
    refine G_aload_n dDV_key_14 rfl ?_
    refine G_callV (As := []) (rest := []) gDV_key_DV_showChanges lDV_42.1 lDV_42.2.1 lDV_42.2.2.1 lDV_42.2.2.2 dDV_key_15 rfl (Nat.le_of_ble_eq_true rfl) hS.1.1 ⟨by decide, by decide⟩ (C_show hy.1) ?_
    rintro _ _ _ _ ⟨rfl, rfl, hI2, hf2⟩
    refine G_st (st' := []) rfl ?_
    refine G_aload_n dDV_key_18 rfl ?_
    refine G_getR fDV_137 dDV_key_19 hS.1.1 ?_
    rw [hI2.2.2.1.1]
    refine G_callS (As := [va_rf ((attP (scB par pl (atB par i B) nb) (some i)).map bx)]) (rest := []) gDV_key_DV_numberOf lDV_125.1 lDV_125.2 dDV_key_22 rfl (Nat.le_of_ble_eq_true rfl) ⟨by decide, by decide⟩ (cDV_numberOf hI2.1 hI2.2.1 hI2.2.2.1.2.2.1) ?_
    refine same4 ?_
    refine G_st (st' := [.int (noI (attP (scB par pl (atB par i B) nb) (some i)))]) rfl ?_
    exact G_ireturn dDV_key_25 rfl rfl (by decide) (by decide) ⟨rfl, hy.2.tr hf2, Or.inl ⟨(fun z => by cases z), rfl, hI2⟩⟩
