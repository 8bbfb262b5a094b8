def fbP (fc : Option Nat → Option Nat) : Nat → Option Nat × Option Nat
  | 0 => (none, fc none)
  | k + 1 => match (fbP fc k).2 with
    | some i => (some i, fc (some i))
    | none => fbP fc k
def fcN (od : Nat → Nat) (par : Nat → Option Nat) (B : Nat → BS) (nb : Nat) (x y : Int32) (p : Option Nat) : Option Nat := fcP od par (arAt B x y) p nb
def hitP (od : Nat → Nat) (par : Nat → Option Nat) (B : Nat → BS) (nb : Nat) (x y : Int32) : Option Nat := (fbP (fcN od par B nb x y) 6).1
theorem fcP_lt {od : Nat → Nat} {par : Nat → Option Nat} {H : Nat → Prop} [DecidablePred H] {p : Option Nat} {nb : Nat} (ho : ∀ k, k < nb → od k < nb) : ∀ k, k ≤ nb → ∀ i, fcP od par H p k = some i → i < nb
  | 0, _, i, h => by cases h
  | k + 1, hk, i, h => by
    unfold fcP at h
    split at h
    · cases h; exact ho k hk
    · exact fcP_lt ho k (by omega) i h
theorem fbP_lt {fc : Option Nat → Option Nat} {nb : Nat} (hfc : ∀ p i, fc p = some i → i < nb) : ∀ k, (∀ i, (fbP fc k).1 = some i → i < nb) ∧ ∀ i, (fbP fc k).2 = some i → i < nb
  | 0 => ⟨fun i h => (by cases h), fun i h => hfc _ i h⟩
  | k + 1 => by
    have ih := fbP_lt hfc k
    unfold fbP
    cases h : (fbP fc k).2 with
    | none => exact ⟨fun i hi => ih.1 i hi, fun i hi => ih.2 i hi⟩
    | some j => exact ⟨fun i hi => by cases hi; exact ih.2 j h, fun i hi => hfc _ i hi⟩
theorem fbP_stop {fc : Option Nat → Option Nat} {k : Nat} (h : (fbP fc k).2 = none) : ∀ d, fbP fc (k + d) = fbP fc k
  | 0 => rfl
  | d + 1 => by
    have ih := fbP_stop h d
    show (match (fbP fc (k + d)).2 with | some i => (some i, fc (some i)) | none => fbP fc (k + d)) = _
    rw [ih, h]
theorem DvS.fc {T : gT} {gr : gR} {dv nb : Nat} {bx od : Nat → Nat} {par : Nat → Option Nat} {B : Nat → BS} {x y : Int32} (hS : DvS T gr dv nb bx par od) : ∀ p i, fcN od par B nb x y p = some i → i < nb := fun p i h => fcP_lt (fun k hk => (hS.2.2.2.2.2.2.1 k hk).1) nb (Nat.le_refl _) i h
theorem hitP_lt {T : gT} {gr : gR} {dv nb : Nat} {bx od : Nat → Nat} {par : Nat → Option Nat} {B : Nat → BS} {x y : Int32} (hS : DvS T gr dv nb bx par od) : ∀ i, hitP od par B nb x y = some i → i < nb := (fbP_lt (DvS.fc hS) 6).1
theorem fb_loop {E : gE} {T : gT} {gi : gI} {gr : gR} {dv nb : Nat} {bx od : Nat → Nat} {par : Nat → Option Nat} {B : Nat → BS} {x y : Int32} (hS : DvS T gr dv nb bx par od) (hB : DvB gi dv nb bx B) : ∀ (n k : Nat), k + n = 6 → G E mDV_frontBox 14 [.ref dv, .int x, .int y, va_rf ((fbP (fcN od par B nb x y) k).1.map bx), va_rf ((fbP (fcN od par B nb x y) k).2.map bx), .int (nI k)] [] T gi gr 0 0 (fun T' gi' gr' v => T' = T ∧ gi' = gi ∧ gr' = gr ∧ v = some (va_rf ((hitP od par B nb x y).map bx))) := by
  intro n
  induction n with
  | zero =>
    intro k hk
    have hk : k = 6 := by omega
    subst hk
    refine G_iload dDV_frontBox_14 rfl ?_
    refine G_bipush (v := 6) dDV_frontBox_16 (by decide) ?_
    refine G_icmp_ge dDV_frontBox_18 (fun h1 => ?_) (fun h1 => absurd (nI_le (a := 6) (b := 6) (by omega) (by decide)) h1)
    refine G_aload_nq dDV_frontBox_44 rfl ?_
    exact G_areturn dDV_frontBox_45 rfl rfl (by decide) (by decide) ⟨rfl, rfl, rfl, rfl⟩
  | succ n ih =>
    intro k hk
    refine G_iload dDV_frontBox_14 rfl ?_
    refine G_bipush (v := 6) dDV_frontBox_16 (by decide) ?_
    refine G_icmp_ge dDV_frontBox_18 (fun h1 => absurd h1 (nI_ge (a := k) (b := 6) (by omega) (by decide))) (fun h1 => ?_)
    have hlt := fbP_lt (DvS.fc (B := B) (x := x) (y := y) hS) k
    cases h2 : (fbP (fcN od par B nb x y) k).2 with
    | none =>
      have he : hitP od par B nb x y = (fbP (fcN od par B nb x y) k).1 := by
        unfold hitP
        rw [show 6 = k + (6 - k) by omega, fbP_stop h2]
      refine G_aloadN dDV_frontBox_21 rfl ?_
      refine G_ifnullN dDV_frontBox_23 ?_
      refine G_aload_nq dDV_frontBox_44 rfl ?_
      exact G_areturn dDV_frontBox_45 rfl rfl (by decide) (by decide) ⟨rfl, rfl, rfl, by rw [he]⟩
    | some i =>
      have hi := hlt.2 i h2
      have e1 : (fbP (fcN od par B nb x y) (k + 1)).1 = some i := by rw [fbP]; rw [h2]
      have e2 : (fbP (fcN od par B nb x y) (k + 1)).2 = fcN od par B nb x y (some i) := by rw [fbP]; rw [h2]
      refine G_aload (a := bx i) dDV_frontBox_21 rfl ?_
      refine G_ifnull dDV_frontBox_23 ?_
      refine G_aload (a := bx i) dDV_frontBox_26 rfl ?_
      refine G_astore_n (ls' := [.ref dv, .int x, .int y, .ref (bx i), .ref (bx i), .int (nI k)]) dDV_frontBox_28 (by decide) rfl ?_
      refine G_aload_n dDV_frontBox_29 rfl ?_
      refine G_aload_n dDV_frontBox_30 rfl ?_
      refine G_iload_n dDV_frontBox_31 rfl ?_
      refine G_iload_n dDV_frontBox_32 rfl ?_
      refine G_callV (As := [va_rf ((some i).map bx), .int x, .int y]) (rest := []) gDV_frontBox_DV_frontChild lDV_180.1 lDV_180.2.1 lDV_180.2.2.1 lDV_180.2.2.2 dDV_frontBox_33 rfl (Nat.le_of_ble_eq_true rfl) hS.1.1 ⟨by decide, by decide⟩ (cDV_frontChild hS hB (fun j hj => by cases hj; exact hi)) ?_
      rintro _ _ _ _ ⟨rfl, rfl, rfl, rfl⟩
      refine G_st (st' := [va_rf ((fcN od par B nb x y (some i)).map bx)]) rfl ?_
      refine G_astoreq (ls' := [.ref dv, .int x, .int y, .ref (bx i), va_rf ((fcN od par B nb x y (some i)).map bx), .int (nI k)]) dDV_frontBox_36 (by decide) rfl ?_
      refine G_iinc (ls' := [.ref dv, .int x, .int y, .ref (bx i), va_rf ((fcN od par B nb x y (some i)).map bx), .int (nI (k + 1))]) dDV_frontBox_38 rfl (nI_inc k) (by decide) rfl ?_
      refine G_goto dDV_frontBox_41 ?_
      have := ih (k + 1) (by omega)
      rw [e1, e2] at this
      exact this
theorem cDV_frontBox {E : gE} {T : gT} {gi : gI} {gr : gR} {dv nb : Nat} {bx od : Nat → Nat} {par : Nat → Option Nat} {B : Nat → BS} {x y : Int32} (hS : DvS T gr dv nb bx par od) (hB : DvB gi dv nb bx B) : Ct E mDV_frontBox [.ref dv, .int x, .int y] T gi gr (fun T' gi' gr' v => T' = T ∧ gi' = gi ∧ gr' = gr ∧ v = some (va_rf ((hitP od par B nb x y).map bx))) := by
  refine Ct_of (ls := [.ref dv, .int x, .int y, .long 0, .long 0, .long 0]) (by decide) (gcat_cons rfl (gcat_cons rfl (gcat_cons rfl gcat_nil))) (Nat.le_of_ble_eq_true rfl) rfl ?_
  refine G_null dDV_frontBox_0 ?_
  refine G_astore_nN (ls' := [.ref dv, .int x, .int y, .null, .long 0, .long 0]) dDV_frontBox_1 (by decide) rfl ?_
  refine G_aload_n dDV_frontBox_2 rfl ?_
  refine G_null dDV_frontBox_3 ?_
  refine G_iload_n dDV_frontBox_4 rfl ?_
  refine G_iload_n dDV_frontBox_5 rfl ?_
  refine G_callV (As := [va_rf ((none : Option Nat).map bx), .int x, .int y]) (rest := []) gDV_frontBox_DV_frontChild lDV_180.1 lDV_180.2.1 lDV_180.2.2.1 lDV_180.2.2.2 dDV_frontBox_6 rfl (Nat.le_of_ble_eq_true rfl) hS.1.1 ⟨by decide, by decide⟩ (cDV_frontChild hS hB (fun j hj => by cases hj)) ?_
  rintro _ _ _ _ ⟨rfl, rfl, rfl, rfl⟩
  refine G_st (st' := [va_rf ((fcN od par B nb x y none).map bx)]) rfl ?_
  refine G_astoreq (ls' := [.ref dv, .int x, .int y, .null, va_rf ((fcN od par B nb x y none).map bx), .long 0]) dDV_frontBox_9 (by decide) rfl ?_
  refine G_iconst (v := nI 0) dDV_frontBox_11 (by decide +kernel) ?_
  refine G_istore (ls' := [.ref dv, .int x, .int y, .null, va_rf ((fcN od par B nb x y none).map bx), .int (nI 0)]) dDV_frontBox_12 (by decide) rfl ?_
  exact fb_loop hS hB 6 0 rfl
def picP (od : Nat → Nat) (par : Nat → Option Nat) (B : Nat → BS) (nb : Nat) (x y : Int32) : Int32 := match hitP od par B nb x y with
  | none => 0
  | some i => (B i).2.1
theorem cDV_pictureAt {E : gE} {T : gT} {gi : gI} {gr : gR} {dv nb : Nat} {bx od : Nat → Nat} {par : Nat → Option Nat} {B : Nat → BS} {x y : Int32} (hS : DvS T gr dv nb bx par od) (hB : DvB gi dv nb bx B) : Ct E mDV_pictureAt [.ref dv, .int x, .int y] T gi gr (fun T' gi' gr' v => T' = T ∧ gi' = gi ∧ gr' = gr ∧ v = some (.int (picP od par B nb x y))) := by
  refine Ct_of (ls := [.ref dv, .int x, .int y, .long 0]) (by decide) (gcat_cons rfl (gcat_cons rfl (gcat_cons rfl gcat_nil))) (Nat.le_of_ble_eq_true rfl) rfl ?_
  refine G_aload_n dDV_pictureAt_0 rfl ?_
  refine G_iload_n dDV_pictureAt_1 rfl ?_
  refine G_iload_n dDV_pictureAt_2 rfl ?_
  refine G_callV (As := [.int x, .int y]) (rest := []) gDV_pictureAt_DV_frontBox lDV_121.1 lDV_121.2.1 lDV_121.2.2.1 lDV_121.2.2.2 dDV_pictureAt_3 rfl (Nat.le_of_ble_eq_true rfl) hS.1.1 ⟨by decide, by decide⟩ (cDV_frontBox hS hB) ?_
  rintro _ _ _ _ ⟨rfl, rfl, rfl, rfl⟩
  have hlt := hitP_lt (B := B) (x := x) (y := y) hS
  unfold picP
  cases hh : hitP od par B nb x y with
  | none =>
    refine G_st (st' := [.null]) rfl ?_
    refine G_astore_nN (ls' := [.ref dv, .int x, .int y, .null]) dDV_pictureAt_6 (by decide) rfl ?_
    refine G_aload_nN dDV_pictureAt_7 rfl ?_
    refine G_ifnonnullN dDV_pictureAt_8 ?_
    refine G_iconst (v := 0) dDV_pictureAt_11 (by decide) ?_
    refine G_goto dDV_pictureAt_12 ?_
    exact G_ireturn dDV_pictureAt_19 rfl rfl (by decide) (by decide) ⟨rfl, rfl, rfl, rfl⟩
  | some i =>
    have hi := hlt i hh
    refine G_st (st' := [.ref (bx i)]) rfl ?_
    refine G_astore_n (ls' := [.ref dv, .int x, .int y, .ref (bx i)]) dDV_pictureAt_6 (by decide) rfl ?_
    refine G_aload_n dDV_pictureAt_7 rfl ?_
    refine G_ifnonnull dDV_pictureAt_8 ?_
    refine G_aload_n dDV_pictureAt_15 rfl ?_
    refine G_getI fDV_189 dDV_pictureAt_16 (hS.2.2.1 i hi).2.1.1 ?_
    rw [(hB.2 i hi).2.2.1]
    exact G_ireturn dDV_pictureAt_19 rfl rfl (by decide) (by decide) ⟨rfl, rfl, rfl, rfl⟩
def coI (i : Nat) (on : Bool) (fo pr : Option Nat) : Int32 := 1 + nI i + (if on = true then 8 else 0) + (if fo = some i then 16 else 0) + (if pr = some i then 32 else 0)
theorem cDV_colourOf {E : gE} {T : gT} {gi : gI} {gr : gR} {dv nb : Nat} {bx od : Nat → Nat} {par : Nat → Option Nat} {B : Nat → BS} {fo pr : Option Nat} {i : Nat} (hS : DvS T gr dv nb bx par od) (hB : DvB gi dv nb bx B) (hF : DvF gr dv nb bx fo pr) (hi : i < nb) : Ct E mDV_colourOf [.ref dv, .ref (bx i)] T gi gr (fun T' gi' gr' v => T' = T ∧ gi' = gi ∧ gr' = gr ∧ v = some (.int (coI i (B i).2.2.2.2.1 fo pr))) := by
  refine Ct_of (ls := [.ref dv, .ref (bx i)]) (by decide) (gcat_cons rfl (gcat_cons rfl gcat_nil)) (Nat.le_of_ble_eq_true rfl) rfl ?_
  refine G_iconst (v := 1) dDV_colourOf_0 (by decide) ?_
  refine G_aload_n dDV_colourOf_1 rfl ?_
  refine G_getI fDV_143 dDV_colourOf_2 (hS.2.2.1 i hi).2.1.1 ?_
  rw [(hB.2 i hi).1]
  refine G_iadd dDV_colourOf_5 ?_
  refine G_aload_n dDV_colourOf_6 rfl ?_
  refine G_getI fDV_195 dDV_colourOf_7 (hS.2.2.1 i hi).2.1.1 ?_
  rw [(hB.2 i hi).2.2.2.2.2.1]
  refine G_if_eq dDV_colourOf_10 (fun h1 => ?_) (fun h1 => ?_)
  · refine G_iconst (v := 0) dDV_colourOf_18 (by decide) ?_
    refine G_iadd dDV_colourOf_19 ?_
    refine G_aload_n dDV_colourOf_20 rfl ?_
    refine G_aload_n dDV_colourOf_21 rfl ?_
    refine G_getR fDV_137 dDV_colourOf_22 hS.1.1 ?_
    rw [hF.1]
    refine G_acmp_ne (rx := (some i).map bx) (ry := fo.map bx) rfl rfl dDV_colourOf_25 (fun h2 => ?_) (fun h2 => ?_)
    · refine G_iconst (v := 0) dDV_colourOf_33 (by decide) ?_
      refine G_iadd dDV_colourOf_34 ?_
      refine G_aload_n dDV_colourOf_35 rfl ?_
      refine G_aload_n dDV_colourOf_36 rfl ?_
      refine G_getR fDV_129 dDV_colourOf_37 hS.1.1 ?_
      rw [hF.2.1]
      refine G_acmp_ne (rx := (some i).map bx) (ry := pr.map bx) rfl rfl dDV_colourOf_40 (fun h3 => ?_) (fun h3 => ?_)
      · refine G_iconst (v := 0) dDV_colourOf_48 (by decide) ?_
        refine G_iadd dDV_colourOf_49 ?_
        exact G_ireturn dDV_colourOf_50 rfl rfl (by decide) (by decide) ⟨rfl, rfl, rfl, by unfold coI; rw [if_neg (by rw [bI_0.mp h1]; decide), if_neg (fun z => h2 ((hS.injO (fun j hj => by cases hj; exact hi) hF.2.2.1).mpr z.symm)), if_neg (fun z => h3 ((hS.injO (fun j hj => by cases hj; exact hi) hF.2.2.2).mpr z.symm))]⟩
      · refine G_bipush (v := 32) dDV_colourOf_43 (by decide) ?_
        refine G_goto dDV_colourOf_45 ?_
        refine G_iadd dDV_colourOf_49 ?_
        exact G_ireturn dDV_colourOf_50 rfl rfl (by decide) (by decide) ⟨rfl, rfl, rfl, by unfold coI; rw [if_neg (by rw [bI_0.mp h1]; decide), if_neg (fun z => h2 ((hS.injO (fun j hj => by cases hj; exact hi) hF.2.2.1).mpr z.symm)), if_pos ((hS.injO (fun j hj => by cases hj; exact hi) hF.2.2.2).mp h3).symm]⟩
    · refine G_bipush (v := 16) dDV_colourOf_28 (by decide) ?_
      refine G_goto dDV_colourOf_30 ?_
      refine G_iadd dDV_colourOf_34 ?_
      refine G_aload_n dDV_colourOf_35 rfl ?_
      refine G_aload_n dDV_colourOf_36 rfl ?_
      refine G_getR fDV_129 dDV_colourOf_37 hS.1.1 ?_
      rw [hF.2.1]
      refine G_acmp_ne (rx := (some i).map bx) (ry := pr.map bx) rfl rfl dDV_colourOf_40 (fun h4 => ?_) (fun h4 => ?_)
      · refine G_iconst (v := 0) dDV_colourOf_48 (by decide) ?_
        refine G_iadd dDV_colourOf_49 ?_
        exact G_ireturn dDV_colourOf_50 rfl rfl (by decide) (by decide) ⟨rfl, rfl, rfl, by unfold coI; rw [if_neg (by rw [bI_0.mp h1]; decide), if_pos ((hS.injO (fun j hj => by cases hj; exact hi) hF.2.2.1).mp h2).symm, if_neg (fun z => h4 ((hS.injO (fun j hj => by cases hj; exact hi) hF.2.2.2).mpr z.symm))]⟩
      · refine G_bipush (v := 32) dDV_colourOf_43 (by decide) ?_
        refine G_goto dDV_colourOf_45 ?_
        refine G_iadd dDV_colourOf_49 ?_
        exact G_ireturn dDV_colourOf_50 rfl rfl (by decide) (by decide) ⟨rfl, rfl, rfl, by unfold coI; rw [if_neg (by rw [bI_0.mp h1]; decide), if_pos ((hS.injO (fun j hj => by cases hj; exact hi) hF.2.2.1).mp h2).symm, if_pos ((hS.injO (fun j hj => by cases hj; exact hi) hF.2.2.2).mp h4).symm]⟩
  · refine G_bipush (v := 8) dDV_colourOf_13 (by decide) ?_
    refine G_goto dDV_colourOf_15 ?_
    refine G_iadd dDV_colourOf_19 ?_
    refine G_aload_n dDV_colourOf_20 rfl ?_
    refine G_aload_n dDV_colourOf_21 rfl ?_
    refine G_getR fDV_137 dDV_colourOf_22 hS.1.1 ?_
    rw [hF.1]
    refine G_acmp_ne (rx := (some i).map bx) (ry := fo.map bx) rfl rfl dDV_colourOf_25 (fun h5 => ?_) (fun h5 => ?_)
    · refine G_iconst (v := 0) dDV_colourOf_33 (by decide) ?_
      refine G_iadd dDV_colourOf_34 ?_
      refine G_aload_n dDV_colourOf_35 rfl ?_
      refine G_aload_n dDV_colourOf_36 rfl ?_
      refine G_getR fDV_129 dDV_colourOf_37 hS.1.1 ?_
      rw [hF.2.1]
      refine G_acmp_ne (rx := (some i).map bx) (ry := pr.map bx) rfl rfl dDV_colourOf_40 (fun h6 => ?_) (fun h6 => ?_)
      · refine G_iconst (v := 0) dDV_colourOf_48 (by decide) ?_
        refine G_iadd dDV_colourOf_49 ?_
        exact G_ireturn dDV_colourOf_50 rfl rfl (by decide) (by decide) ⟨rfl, rfl, rfl, by unfold coI; rw [if_pos (by cases c : (B i).2.2.2.2.1 with | true => rfl | false => exact absurd (bI_0.mpr c) h1), if_neg (fun z => h5 ((hS.injO (fun j hj => by cases hj; exact hi) hF.2.2.1).mpr z.symm)), if_neg (fun z => h6 ((hS.injO (fun j hj => by cases hj; exact hi) hF.2.2.2).mpr z.symm))]⟩
      · refine G_bipush (v := 32) dDV_colourOf_43 (by decide) ?_
        refine G_goto dDV_colourOf_45 ?_
        refine G_iadd dDV_colourOf_49 ?_
        exact G_ireturn dDV_colourOf_50 rfl rfl (by decide) (by decide) ⟨rfl, rfl, rfl, by unfold coI; rw [if_pos (by cases c : (B i).2.2.2.2.1 with | true => rfl | false => exact absurd (bI_0.mpr c) h1), if_neg (fun z => h5 ((hS.injO (fun j hj => by cases hj; exact hi) hF.2.2.1).mpr z.symm)), if_pos ((hS.injO (fun j hj => by cases hj; exact hi) hF.2.2.2).mp h6).symm]⟩
    · refine G_bipush (v := 16) dDV_colourOf_28 (by decide) ?_
      refine G_goto dDV_colourOf_30 ?_
      refine G_iadd dDV_colourOf_34 ?_
      refine G_aload_n dDV_colourOf_35 rfl ?_
      refine G_aload_n dDV_colourOf_36 rfl ?_
      refine G_getR fDV_129 dDV_colourOf_37 hS.1.1 ?_
      rw [hF.2.1]
      refine G_acmp_ne (rx := (some i).map bx) (ry := pr.map bx) rfl rfl dDV_colourOf_40 (fun h7 => ?_) (fun h7 => ?_)
      · refine G_iconst (v := 0) dDV_colourOf_48 (by decide) ?_
        refine G_iadd dDV_colourOf_49 ?_
        exact G_ireturn dDV_colourOf_50 rfl rfl (by decide) (by decide) ⟨rfl, rfl, rfl, by unfold coI; rw [if_pos (by cases c : (B i).2.2.2.2.1 with | true => rfl | false => exact absurd (bI_0.mpr c) h1), if_pos ((hS.injO (fun j hj => by cases hj; exact hi) hF.2.2.1).mp h5).symm, if_neg (fun z => h7 ((hS.injO (fun j hj => by cases hj; exact hi) hF.2.2.2).mpr z.symm))]⟩
      · refine G_bipush (v := 32) dDV_colourOf_43 (by decide) ?_
        refine G_goto dDV_colourOf_45 ?_
        refine G_iadd dDV_colourOf_49 ?_
        exact G_ireturn dDV_colourOf_50 rfl rfl (by decide) (by decide) ⟨rfl, rfl, rfl, by unfold coI; rw [if_pos (by cases c : (B i).2.2.2.2.1 with | true => rfl | false => exact absurd (bI_0.mpr c) h1), if_pos ((hS.injO (fun j hj => by cases hj; exact hi) hF.2.2.1).mp h5).symm, if_pos ((hS.injO (fun j hj => by cases hj; exact hi) hF.2.2.2).mp h7).symm]⟩
def shC (i : Nat) (β : BS) (fo pr : Option Nat) : Int32 := coI i β.2.2.2.2.1 fo pr
abbrev shD (i : Nat) (β : BS) (fo pr : Option Nat) : Prop := ¬ shC i β fo pr = β.2.1 ∨ ¬ β.2.2.2.2.2.1 = β.2.2.2.2.2.2
def shDm (i : Nat) (β : BS) (fo pr : Option Nat) (D : Nat → Bool) : Nat → Bool := if shD i β fo pr then dmA (dmA D β.2.2.2.2.2.2 384) β.2.2.2.2.2.1 384 else D
def shB (i : Nat) (β : BS) (fo pr : Option Nat) : BS := (β.1, shC i β fo pr, β.2.2)
theorem DvB.row {gi gi' : gI} {dv nb : Nat} {bx : Nat → Nat} {B : Nat → BS} (hB : DvB gi dv nb bx B) (h0 : gi' dv = gi dv) (h : ∀ i, i < nb → gi' (bx i) = gi (bx i) ∧ gi' (bx i + 1) = gi (bx i + 1) ∧ gi' (bx i + 2) = gi (bx i + 2)) : DvB gi' dv nb bx B := by
  refine ⟨by rw [h0]; exact hB.1, fun i hi => ?_⟩
  obtain ⟨h1, h2, h3⟩ := h i hi
  unfold BxIs ArIs
  rw [h1, h2, h3]
  exact hB.2 i hi
theorem DvB_col {T : gT} {gi gi' : gI} {gr : gR} {dv nb : Nat} {bx od : Nat → Nat} {par : Nat → Option Nat} {B : Nat → BS} {i : Nat} {c : Int32} (hS : DvS T gr dv nb bx par od) (hi : i < nb) (h1 : gi' (bx i) 5 = c) (h2 : ∀ a k, (a ≠ bx i ∨ k ≠ 5) → a ≠ dv + 1 + 2 → gi' a k = gi a k) (hB : DvB gi dv nb bx B) : DvB gi' dv nb bx (gup B i ((B i).1, c, (B i).2.2)) := by
  have hge := fun j (hj : j < nb) => (hS.2.2.1 j hj).2.2.2
  refine ⟨by rw [h2 dv 4 (Or.inr (by decide)) (by omega)]; exact hB.1, fun j hj => ?_⟩
  have hjd := hge j hj
  have hid := hge i hi
  have hfar : j ≠ i → bx i + 3 ≤ bx j ∨ bx j + 3 ≤ bx i := fun hne => hS.far hi hj (fun z => hne z.symm)
  have e0 : gi' (bx j) 0 = gi (bx j) 0 := h2 _ _ (Or.inr (by decide)) (by omega)
  obtain ⟨b0, b1, b2, b3, b4, b5, b6, b7⟩ := hB.2 j hj
  have r1 : ∀ k, k ≠ 5 → gi' (bx j) k = gi (bx j) k := fun k hk => h2 _ _ (Or.inr hk) (by omega)
  have r2 : ∀ k, gi' (bx j + 1) k = gi (bx j + 1) k := fun k => h2 _ _ (Or.inl (by by_cases e : j = i; subst e; omega; have := hfar e; omega)) (by omega)
  have r3 : ∀ k, gi' (bx j + 2) k = gi (bx j + 2) k := fun k => h2 _ _ (Or.inl (by by_cases e : j = i; subst e; omega; have := hfar e; omega)) (by omega)
  by_cases e : j = i
  · subst e
    rw [gup_same]
    refine ⟨by rw [e0]; exact b0, by rw [r1 1 (by decide)]; exact b1, h1, by rw [r1 6 (by decide)]; exact b3, by rw [r1 7 (by decide)]; exact b4, by rw [r1 8 (by decide)]; exact b5, ?_, ?_⟩
    · unfold ArIs; rw [r2, r2, r2, r2]; exact b6
    · unfold ArIs; rw [r3, r3, r3, r3]; exact b7
  · rw [gup_ne e]
    have := hfar e
    refine ⟨by rw [e0]; exact b0, by rw [r1 1 (by decide)]; exact b1, by rw [h2 _ _ (Or.inl (by omega)) (by omega)]; exact b2, by rw [r1 6 (by decide)]; exact b3, by rw [r1 7 (by decide)]; exact b4, by rw [r1 8 (by decide)]; exact b5, ?_, ?_⟩
    · unfold ArIs; rw [r2, r2, r2, r2]; exact b6
    · unfold ArIs; rw [r3, r3, r3, r3]; exact b7
theorem cDV_showBox {E : gE} {T : gT} {gi : gI} {gr : gR} {dv nb : Nat} {bx od : Nat → Nat} {par : Nat → Option Nat} {B : Nat → BS} {fo pr : Option Nat} {i : Nat} {D : Nat → Bool} (hS : DvS T gr dv nb bx par od) (hB : DvB gi dv nb bx B) (hF : DvF gr dv nb bx fo pr) (hD : DmIs gi (dv + 1) D) (hi : i < nb) : Ct E mDV_showBox [.ref dv, .ref (bx i)] T gi gr (fun T' gi' gr' v => T' = T ∧ gr' = gr ∧ v = none ∧ DvB gi' dv nb bx (gup B i (shB i (B i) fo pr)) ∧ DmIs gi' (dv + 1) (shDm i (B i) fo pr D) ∧ ∀ a, a ≠ bx i → a ≠ dv + 1 + 2 → gi' a = gi a) := by
  have hge := (hS.2.2.1 i hi).2.2.2
  refine Ct_of (ls := [.ref dv, .ref (bx i), .long 0]) (by decide) (gcat_cons rfl (gcat_cons rfl gcat_nil)) (Nat.le_of_ble_eq_true rfl) rfl ?_
  refine G_aload_n dDV_showBox_0 rfl ?_
  refine G_aload_n dDV_showBox_1 rfl ?_
  refine G_callV (As := [.ref (bx i)]) (rest := []) gDV_showBox_DV_colourOf lDV_205.1 lDV_205.2.1 lDV_205.2.2.1 lDV_205.2.2.2 dDV_showBox_2 rfl (Nat.le_of_ble_eq_true rfl) hS.1.1 ⟨by decide, by decide⟩ (cDV_colourOf hS hB hF hi) ?_
  rintro _ _ _ _ ⟨rfl, rfl, rfl, rfl⟩
  refine G_st (st' := [.int (shC i (B i) fo pr)]) rfl ?_
  refine G_istore_n (ls' := [.ref dv, .ref (bx i), .int (shC i (B i) fo pr)]) dDV_showBox_5 (by decide) rfl ?_
  refine G_iload_n dDV_showBox_6 rfl ?_
  refine G_aload_n dDV_showBox_7 rfl ?_
  refine G_getI fDV_189 dDV_showBox_8 (hS.2.2.1 i hi).2.1.1 ?_
  rw [(hB.2 i hi).2.2.1]
  refine G_icmp_ne dDV_showBox_11 (fun h1 => ?_) (fun h1 => ?_)
  · refine G_aload_n dDV_showBox_28 rfl ?_
    refine G_getRs fDV_12 dDV_showBox_29 hS.1.1 hS.1.2.2.1 ?_
    refine G_aload_n dDV_showBox_32 rfl ?_
    refine G_getRs fDV_208 dDV_showBox_33 (hS.2.2.1 i hi).2.1.1 (hS.2.2.1 i hi).2.1.2.2.1 ?_
    refine G_callV (As := [.ref (bx i + 2)]) (rest := []) gDV_showBox_SC_damageArea lDV_117.1 lDV_117.2.1 lDV_117.2.2.1 lDV_117.2.2.2 dDV_showBox_36 rfl (Nat.le_of_ble_eq_true rfl) hS.1.2.2.2.2.2.2.2.2.2.1.1 ⟨by decide, by decide⟩ (cSC_damageArea hS.1.2.2.2.2.2.2.2.2.2.1 (hS.2.2.1 i hi).2.1.2.2.2.2 (by omega) (hB.2 i hi).2.2.2.2.2.2.2 hD) ?_
    rintro _ g1 _ _ ⟨rfl, rfl, rfl, hD1, hO1⟩
    refine G_st (st' := []) rfl ?_
    refine G_aload_n dDV_showBox_39 rfl ?_
    refine G_getRs fDV_12 dDV_showBox_40 hS.1.1 hS.1.2.2.1 ?_
    refine G_aload_n dDV_showBox_43 rfl ?_
    refine G_getRs fDV_113 dDV_showBox_44 (hS.2.2.1 i hi).2.1.1 (hS.2.2.1 i hi).2.1.2.1 ?_
    refine G_callV (As := [.ref (bx i + 1)]) (rest := []) gDV_showBox_SC_damageArea lDV_117.1 lDV_117.2.1 lDV_117.2.2.1 lDV_117.2.2.2 dDV_showBox_47 rfl (Nat.le_of_ble_eq_true rfl) hS.1.2.2.2.2.2.2.2.2.2.1.1 ⟨by decide, by decide⟩ (cSC_damageArea hS.1.2.2.2.2.2.2.2.2.2.1 (hS.2.2.1 i hi).2.1.2.2.2.1 (by omega) ((hB.2 i hi).2.2.2.2.2.2.1.off hO1 (by omega)) hD1) ?_
    rintro _ g2 _ _ ⟨rfl, rfl, rfl, hD2, hO2⟩
    refine G_st (st' := []) rfl ?_
    refine G_aload_n dDV_showBox_50 rfl ?_
    refine G_iload_n dDV_showBox_51 rfl ?_
    refine G_putI wDV_189 (Or.inl rfl) dDV_showBox_52 (hS.2.2.1 i hi).2.1.1 rfl rfl ?_
    refine G_return dDV_showBox_55 rfl (by decide) (by decide) ⟨rfl, rfl, rfl, ?_, ?_, ?_⟩
    · refine DvB_col (c := shC i (B i) fo pr) hS hi gu_same (fun a k hak hsc => ?_) hB
      rw [gu_ne hak]
      rw [hO2 a hsc, hO1 a hsc]
    · unfold shDm
      rw [if_pos (Or.inl h1)]
      intro j hj
      rw [gu_off (by omega)]
      exact hD2 j hj
    · intro a h1 h2
      rw [gu_off h1, hO2 a h2, hO1 a h2]
  · refine G_aload_n dDV_showBox_14 rfl ?_
    refine G_getRs fDV_113 dDV_showBox_15 (hS.2.2.1 i hi).2.1.1 (hS.2.2.1 i hi).2.1.2.1 ?_
    refine G_aload_n dDV_showBox_18 rfl ?_
    refine G_getRs fDV_208 dDV_showBox_19 (hS.2.2.1 i hi).2.1.1 (hS.2.2.1 i hi).2.1.2.2.1 ?_
    refine G_callV (As := [.ref (bx i + 2)]) (rest := []) gDV_showBox_AR_isSameAs lDV_211.1 lDV_211.2.1 lDV_211.2.2.1 lDV_211.2.2.2 dDV_showBox_22 rfl (Nat.le_of_ble_eq_true rfl) (hS.2.2.1 i hi).2.1.2.2.2.1 ⟨by decide, by decide⟩ (cAR_isSameAs (hS.2.2.1 i hi).2.1.2.2.2.1 (hS.2.2.1 i hi).2.1.2.2.2.2 (hB.2 i hi).2.2.2.2.2.2.1 (hB.2 i hi).2.2.2.2.2.2.2) ?_
    rintro _ _ _ _ ⟨rfl, rfl, rfl, rfl⟩
    refine G_st (st' := [.int (if (B i).2.2.2.2.2.1 = (B i).2.2.2.2.2.2 then 1 else 0)]) rfl ?_
    refine G_if_ne dDV_showBox_25 (fun h2 => ?_) (fun h2 => ?_)
    · refine G_aload_n dDV_showBox_50 rfl ?_
      refine G_iload_n dDV_showBox_51 rfl ?_
      refine G_putI wDV_189 (Or.inl rfl) dDV_showBox_52 (hS.2.2.1 i hi).2.1.1 rfl rfl ?_
      refine G_return dDV_showBox_55 rfl (by decide) (by decide) ⟨rfl, rfl, rfl, ?_, ?_, ?_⟩
      · refine DvB_col (c := shC i (B i) fo pr) hS hi gu_same (fun a k hak hsc => ?_) hB
        rw [gu_ne hak]
      · unfold shDm
        rw [if_neg (fun z => z.elim (fun q => q h1) (fun q => h2 (if01.mpr q)))]
        intro j hj
        rw [gu_off (by omega)]
        exact hD j hj
      · intro a h1 h2
        rw [gu_off h1]
    · refine G_aload_n dDV_showBox_28 rfl ?_
      refine G_getRs fDV_12 dDV_showBox_29 hS.1.1 hS.1.2.2.1 ?_
      refine G_aload_n dDV_showBox_32 rfl ?_
      refine G_getRs fDV_208 dDV_showBox_33 (hS.2.2.1 i hi).2.1.1 (hS.2.2.1 i hi).2.1.2.2.1 ?_
      refine G_callV (As := [.ref (bx i + 2)]) (rest := []) gDV_showBox_SC_damageArea lDV_117.1 lDV_117.2.1 lDV_117.2.2.1 lDV_117.2.2.2 dDV_showBox_36 rfl (Nat.le_of_ble_eq_true rfl) hS.1.2.2.2.2.2.2.2.2.2.1.1 ⟨by decide, by decide⟩ (cSC_damageArea hS.1.2.2.2.2.2.2.2.2.2.1 (hS.2.2.1 i hi).2.1.2.2.2.2 (by omega) (hB.2 i hi).2.2.2.2.2.2.2 hD) ?_
      rintro _ g1 _ _ ⟨rfl, rfl, rfl, hD1, hO1⟩
      refine G_st (st' := []) rfl ?_
      refine G_aload_n dDV_showBox_39 rfl ?_
      refine G_getRs fDV_12 dDV_showBox_40 hS.1.1 hS.1.2.2.1 ?_
      refine G_aload_n dDV_showBox_43 rfl ?_
      refine G_getRs fDV_113 dDV_showBox_44 (hS.2.2.1 i hi).2.1.1 (hS.2.2.1 i hi).2.1.2.1 ?_
      refine G_callV (As := [.ref (bx i + 1)]) (rest := []) gDV_showBox_SC_damageArea lDV_117.1 lDV_117.2.1 lDV_117.2.2.1 lDV_117.2.2.2 dDV_showBox_47 rfl (Nat.le_of_ble_eq_true rfl) hS.1.2.2.2.2.2.2.2.2.2.1.1 ⟨by decide, by decide⟩ (cSC_damageArea hS.1.2.2.2.2.2.2.2.2.2.1 (hS.2.2.1 i hi).2.1.2.2.2.1 (by omega) ((hB.2 i hi).2.2.2.2.2.2.1.off hO1 (by omega)) hD1) ?_
      rintro _ g2 _ _ ⟨rfl, rfl, rfl, hD2, hO2⟩
      refine G_st (st' := []) rfl ?_
      refine G_aload_n dDV_showBox_50 rfl ?_
      refine G_iload_n dDV_showBox_51 rfl ?_
      refine G_putI wDV_189 (Or.inl rfl) dDV_showBox_52 (hS.2.2.1 i hi).2.1.1 rfl rfl ?_
      refine G_return dDV_showBox_55 rfl (by decide) (by decide) ⟨rfl, rfl, rfl, ?_, ?_, ?_⟩
      · refine DvB_col (c := shC i (B i) fo pr) hS hi gu_same (fun a k hak hsc => ?_) hB
        rw [gu_ne hak]
        rw [hO2 a hsc, hO1 a hsc]
      · unfold shDm
        rw [if_pos (Or.inr (if01.mp h2))]
        intro j hj
        rw [gu_off (by omega)]
        exact hD2 j hj
      · intro a h1 h2
        rw [gu_off h1, hO2 a h2, hO1 a h2]
