theorem Ct_imp {E : gE} {X : gX} {As : List Value} {T : gT} {gi : gI} {gr : gR} {Q Q' : gQ} (h : Ct E X As T gi gr Q) (hQ : ∀ T' gi' gr' v, Q T' gi' gr' v → Q' T' gi' gr' v) : Ct E X As T gi gr Q' := by
  intro p e ha hc hk s m args below hf happ hP hK
  obtain ⟨k, o, h1, h2, h3, ⟨T', gi', gr', v, q1, q2, q3⟩, q4⟩ := h p e ha hc hk s m args below hf happ hP hK
  exact ⟨k, o, h1, h2, h3, ⟨T', gi', gr', v, q1, hQ _ _ _ _ q2, q3⟩, q4⟩
def CAd (T : gT) (dv nb : Nat) (bx cx : Nat → Nat) (cs : Nat → Option K5) : Prop := (1 ≤ nb ∧ bx 0 = dv + 35 ∧ dv + 38 ≤ T.2.2) ∧ (∀ i, 1 ≤ i → i < nb → dv + 61 ≤ bx i) ∧ (∀ i, i < nb → bx i + 3 ≤ T.2.2) ∧ ∀ i, i < 16 → cs i ≠ none → dv + 61 ≤ cx i ∧ cx i < T.2.2 ∧ ∀ j, j < nb → cx i < bx j ∨ bx j + 2 < cx i
def CInv (T : gT) (gi : gI) (gr : gR) (dv nb : Nat) (bx cx od : Nat → Nat) (par : Nat → Option Nat) (B : Nat → BS) (fo pr : Option Nat) (w h : Int32) (pl : Nat → Int32) (cs : Nat → Option K5) (D : Nat → Bool) (F : Nat → Int32) : Prop := DvS T gr dv nb bx par od ∧ DvB gi dv nb bx B ∧ DvF gr dv nb bx fo pr ∧ LaIs gi (dv + 6) nb w h ∧ PlIs gi (dv + 6) pl ∧ CsIs T gi gr (dv + 6) cs cx ∧ BdAny gi (dv + 6) ∧ DmIs gi (dv + 1) D ∧ FrIs gi (dv + 1) F ∧ CAd T dv nb bx cx cs
def CFr (T T' : gT) (gi gi' : gI) (gr gr' : gR) (dv : Nat) : Prop := T.2.2 ≤ T'.2.2 ∧ ∀ a, dv + 38 ≤ a → a < dv + 61 → T'.1 a = T.1 a ∧ T'.2.1 a = T.2.1 a ∧ gi' a = gi a ∧ gr' a = gr a
theorem CFr.rf {T : gT} {gi : gI} {gr : gR} {dv : Nat} : CFr T T gi gi gr gr dv := ⟨Nat.le_refl _, fun _ _ _ => ⟨rfl, rfl, rfl, rfl⟩⟩
theorem CFr.tr {T T' T'' : gT} {gi gi' gi'' : gI} {gr gr' gr'' : gR} {dv : Nat} (h : CFr T T' gi gi' gr gr' dv) (h' : CFr T' T'' gi' gi'' gr' gr'' dv) : CFr T T'' gi gi'' gr gr'' dv := ⟨Nat.le_trans h.1 h'.1, fun a h1 h2 => ⟨(h'.2 a h1 h2).1.trans (h.2 a h1 h2).1, (h'.2 a h1 h2).2.1.trans (h.2 a h1 h2).2.1, (h'.2 a h1 h2).2.2.1.trans (h.2 a h1 h2).2.2.1, (h'.2 a h1 h2).2.2.2.trans (h.2 a h1 h2).2.2.2⟩⟩
theorem CAd.md {T : gT} {dv nb : Nat} {bx cx : Nat → Nat} {cs : Nat → Option K5} (h : CAd T dv nb bx cx cs) {a : Nat} (h1 : dv + 38 ≤ a) (h2 : a < dv + 61) : ∀ j, j < nb → a < bx j ∨ bx j + 2 < a := by
  intro j hj
  by_cases e : j = 0
  · subst e
    have := h.1.2.1
    omega
  · have := h.2.1 j (by omega) hj
    omega
theorem CInv.ch {T : gT} {gi gi' : gI} {gr gr' : gR} {dv nb : Nat} {bx cx od : Nat → Nat} {par : Nat → Option Nat} {B : Nat → BS} {fo pr : Option Nat} {w h : Int32} {pl : Nat → Int32} {cs : Nat → Option K5} {D : Nat → Bool} {F : Nat → Int32} {B' : Nat → BS} {fo' pr' : Option Nat} {D' : Nat → Bool} {F' : Nat → Int32} (hI : CInv T gi gr dv nb bx cx od par B fo pr w h pl cs D F) (h1 : ∀ a, (∀ j, j < nb → a < bx j ∨ bx j + 2 < a) → a ≠ dv + 2 → a ≠ dv + 3 → gi' a = gi a) (h2 : ∀ a, a ≠ dv → gr' a = gr a) (h3 : ∀ k, k < 5 → gr' dv k = gr dv k) (hB : DvB gi' dv nb bx B') (hF : DvF gr' dv nb bx fo' pr') (hD : DmIs gi' (dv + 1) D') (hM : FrIs gi' (dv + 1) F') : CInv T gi' gr' dv nb bx cx od par B' fo' pr' w h pl cs D' F' ∧ CFr T T gi gi' gr gr' dv := by
  obtain ⟨hS, -, -, hL, hP, hC, ⟨S, ec, q1, q2, q3⟩, -, -, hA⟩ := hI
  have low : ∀ a, a < dv + 35 → a ≠ dv + 2 → a ≠ dv + 3 → gi' a = gi a := fun a ha e1 e2 => h1 a (fun j hj => by have := (hS.2.2.1 j hj).2.2.2; omega) e1 e2
  refine ⟨⟨hS.grk h2 h3, hB, hF, ?_, fun j hj => ?_, fun i hi => ?_, ⟨S, ec, ?_, ?_, fun i j hi hj => ?_⟩, hD, hM, hA⟩, Nat.le_refl _, fun a g1 g2 => ⟨rfl, rfl, h1 a (hA.md g1 g2) (by omega) (by omega), h2 a (by omega)⟩⟩
  · unfold LaIs; rw [low _ (by omega) (by omega) (by omega)]; exact hL
  · rw [low _ (by omega) (by omega) (by omega)]; exact hP j hj
  · refine ⟨fun e => by rw [h2 _ (by omega)]; exact (hC i hi).1 e, fun κ hκ => ?_⟩
    obtain ⟨c1, c2, c3, c4, c5⟩ := (hC i hi).2 κ hκ
    have ha := hA.2.2.2 i hi (by rw [hκ]; exact fun z => by cases z)
    exact ⟨by rw [h2 _ (by omega)]; exact c1, c2, c3.row (h1 _ ha.2.2 (by omega) (by omega)), c4, c5⟩
  · rw [low _ (by omega) (by omega) (by omega)]; exact q1
  · rw [low _ (by omega) (by omega) (by omega)]; exact q2
  · rw [low _ (by omega) (by omega) (by omega)]; exact q3 i j hi hj
theorem C_show {E : gE} {T : gT} {gi : gI} {gr : gR} {dv nb : Nat} {bx cx od : Nat → Nat} {par : Nat → Option Nat} {B : Nat → BS} {fo pr : Option Nat} {w h : Int32} {pl : Nat → Int32} {cs : Nat → Option K5} {D : Nat → Bool} {F : Nat → Int32} (hI : CInv T gi gr dv nb bx cx od par B fo pr w h pl cs D F) : Ct E mDV_showChanges [.ref dv] T gi gr (fun T' gi' gr' v => T' = T ∧ v = none ∧ CInv T gi' gr' dv nb bx cx od par (scS par pl B nb fo pr D).1 (attP (scB par pl B nb) fo) (attP (scB par pl B nb) pr) w h pl cs (scS par pl B nb fo pr D).2 F ∧ CFr T T gi gi' gr gr' dv) := by
  obtain ⟨hS, hB, hF, hL, hP, hC, hBd, hD, hM, hA⟩ := id hI
  refine Ct_imp (cDV_showChanges hS hB hF hP hD) ?_
  rintro T' gi' gr' v ⟨rfl, rfl, e1, e2, hF', hB', hD', hO⟩
  have hx := hI.ch (gi' := gi') (gr' := gr') (F' := F) (fun a h1 h2 h3 => hO a h1 h3) e1 e2 hB' hF' hD' (fun j hj => by rw [hO (dv + 1 + 1) (fun k hk => by have := (hS.2.2.1 k hk).2.2.2; omega) (by omega)]; exact hM j hj)
  exact ⟨rfl, rfl, hx.1, hx.2⟩
theorem C_attention {E : gE} {T : gT} {gi : gI} {gr : gR} {dv nb : Nat} {bx cx od : Nat → Nat} {par : Nat → Option Nat} {B : Nat → BS} {fo pr : Option Nat} {w h : Int32} {pl : Nat → Int32} {cs : Nat → Option K5} {D : Nat → Bool} {F : Nat → Int32} (hI : CInv T gi gr dv nb bx cx od par B fo pr w h pl cs D F) : Ct E mDV_attention [.ref dv] T gi gr (fun T' gi' gr' v => T' = T ∧ gi' = gi ∧ gr' = gr ∧ v = some (.int (noI fo + 1 + 8 * (noI pr + 1)))) := by
  obtain ⟨hS, hB, hF, hL, hP, hC, hBd, hD, hM, hA⟩ := id hI
  refine Ct_of (ls := [.ref dv]) (by decide) (gcat_cons rfl gcat_nil) (Nat.le_of_ble_eq_true rfl) rfl ?_
  refine G_aload_n dDV_attention_0 rfl ?_
  refine G_getR fDV_137 dDV_attention_1 hS.1.1 ?_
  rw [hF.1]
  refine G_callS (As := [va_rf (fo.map bx)]) (rest := []) gDV_attention_DV_numberOf lDV_125.1 lDV_125.2 dDV_attention_4 rfl (Nat.le_of_ble_eq_true rfl) ⟨by decide, by decide⟩ (cDV_numberOf hS hB hF.2.2.1) ?_
  rintro _ _ _ _ ⟨rfl, rfl, rfl, rfl⟩
  refine G_st (st' := [.int (noI fo)]) rfl ?_
  refine G_iconst (v := 1) dDV_attention_7 (by decide) ?_
  refine G_iadd dDV_attention_8 ?_
  refine G_bipush (v := 8) dDV_attention_9 (by decide) ?_
  refine G_aload_n dDV_attention_11 rfl ?_
  refine G_getR fDV_129 dDV_attention_12 hS.1.1 ?_
  rw [hF.2.1]
  refine G_callS (As := [va_rf (pr.map bx)]) (rest := [.int 8, .int ((noI fo) + (1))]) gDV_attention_DV_numberOf lDV_125.1 lDV_125.2 dDV_attention_15 rfl (Nat.le_of_ble_eq_true rfl) ⟨by decide, by decide⟩ (cDV_numberOf hS hB hF.2.2.2) ?_
  rintro _ _ _ _ ⟨rfl, rfl, rfl, rfl⟩
  refine G_st (st' := [.int (noI pr), .int 8, .int ((noI fo) + (1))]) rfl ?_
  refine G_iconst (v := 1) dDV_attention_18 (by decide) ?_
  refine G_iadd dDV_attention_19 ?_
  refine G_imul dDV_attention_20 ?_
  refine G_iadd dDV_attention_21 ?_
  exact G_ireturn dDV_attention_22 rfl rfl (by decide) (by decide) ⟨rfl, rfl, rfl, rfl⟩
theorem C_damage {E : gE} {T : gT} {gi : gI} {gr : gR} {dv nb : Nat} {bx cx od : Nat → Nat} {par : Nat → Option Nat} {B : Nat → BS} {fo pr : Option Nat} {w h : Int32} {pl : Nat → Int32} {cs : Nat → Option K5} {D : Nat → Bool} {F : Nat → Int32} (hI : CInv T gi gr dv nb bx cx od par B fo pr w h pl cs D F) : Ct E mDV_damage [.ref dv] T gi gr (fun T' gi' gr' v => T' = T ∧ gi' = gi ∧ gr' = gr ∧ v = some (.int (nI (cntB D 384)))) := by
  obtain ⟨hS, hB, hF, hL, hP, hC, hBd, hD, hM, hA⟩ := id hI
  refine Ct_of (ls := [.ref dv]) (by decide) (gcat_cons rfl gcat_nil) (Nat.le_of_ble_eq_true rfl) rfl ?_
  refine G_aload_n dDV_damage_0 rfl ?_
  refine G_getRs fDV_12 dDV_damage_1 hS.1.1 hS.1.2.2.1 ?_
  refine G_callV (As := []) (rest := []) gDV_damage_SC_damagedPoints lDV_155.1 lDV_155.2.1 lDV_155.2.2.1 lDV_155.2.2.2 dDV_damage_4 rfl (Nat.le_of_ble_eq_true rfl) hS.1.2.2.2.2.2.2.2.2.2.1.1 ⟨by decide, by decide⟩ (cSC_damagedPoints hS.1.2.2.2.2.2.2.2.2.2.1 hD) ?_
  rintro _ _ _ _ ⟨rfl, rfl, rfl, rfl⟩
  refine G_st (st' := [.int (nI (cntB D 384))]) rfl ?_
  exact G_ireturn dDV_damage_7 rfl rfl (by decide) (by decide) ⟨rfl, rfl, rfl, rfl⟩
theorem C_hit {E : gE} {T : gT} {gi : gI} {gr : gR} {dv nb : Nat} {bx cx od : Nat → Nat} {par : Nat → Option Nat} {B : Nat → BS} {fo pr : Option Nat} {w h : Int32} {pl : Nat → Int32} {cs : Nat → Option K5} {D : Nat → Bool} {F : Nat → Int32} {x y : Int32} (hI : CInv T gi gr dv nb bx cx od par B fo pr w h pl cs D F) : Ct E mDV_hit [.ref dv, .int x, .int y] T gi gr (fun T' gi' gr' v => T' = T ∧ gi' = gi ∧ gr' = gr ∧ v = some (.int (noI (hitP od par B nb x y)))) := by
  obtain ⟨hS, hB, hF, hL, hP, hC, hBd, hD, hM, hA⟩ := id hI
  refine Ct_of (ls := [.ref dv, .int x, .int y]) (by decide) (gcat_cons rfl (gcat_cons rfl (gcat_cons rfl gcat_nil))) (Nat.le_of_ble_eq_true rfl) rfl ?_
  refine G_aload_n dDV_hit_0 rfl ?_
  refine G_iload_n dDV_hit_1 rfl ?_
  refine G_iload_n dDV_hit_2 rfl ?_
  refine G_callV (As := [.int x, .int y]) (rest := []) gDV_hit_DV_frontBox lDV_121.1 lDV_121.2.1 lDV_121.2.2.1 lDV_121.2.2.2 dDV_hit_3 rfl (Nat.le_of_ble_eq_true rfl) hS.1.1 ⟨by decide, by decide⟩ (cDV_frontBox hS hB) ?_
  rintro _ _ _ _ ⟨rfl, rfl, rfl, rfl⟩
  refine G_st (st' := [va_rf ((hitP od par B nb x y).map bx)]) rfl ?_
  refine G_callS (As := [va_rf ((hitP od par B nb x y).map bx)]) (rest := []) gDV_hit_DV_numberOf lDV_125.1 lDV_125.2 dDV_hit_6 rfl (Nat.le_of_ble_eq_true rfl) ⟨by decide, by decide⟩ (cDV_numberOf hS hB (hitP_lt hS)) ?_
  rintro _ _ _ _ ⟨rfl, rfl, rfl, rfl⟩
  refine G_st (st' := [.int (noI (hitP od par B nb x y))]) rfl ?_
  exact G_ireturn dDV_hit_9 rfl rfl (by decide) (by decide) ⟨rfl, rfl, rfl, rfl⟩
theorem isBx_of {nb : Nat} {x : Int32} (hn : nb ≤ 6) (h : isBx nb x) : ∃ j, j < nb ∧ x = nI j := by
  obtain ⟨j, h1, h2, -⟩ := pk_mu (L := nb) h.1 h.2 (by omega)
  exact ⟨j, h1, h2⟩
theorem isIn_of {nb : Nat} {x : Int32} (hn : nb ≤ 6) (h : isIn nb x) : ∃ j, 0 < j ∧ j < nb ∧ x = nI j := by
  obtain ⟨j, h1, h2, -⟩ := pk_mu (L := nb) (x := x) (fun z => h.1 (by rw [Int32.lt_iff_toInt_lt] at z; rw [Int32.le_iff_toInt_le]; omega)) h.2 (by omega)
  refine ⟨j, ?_, h1, h2⟩
  cases j with
  | zero => exact absurd (by rw [h2]; decide +kernel) h.1
  | succ j => omega
theorem isEd_of {nb : Nat} {x : Int32} (hn : nb ≤ 6) (h : isEd nb x) : ∃ j, j < 4 * nb ∧ x = nI j := by
  obtain ⟨j, h1, h2, -⟩ := pk_mu (L := 4 * nb) h.1 h.2 (by omega)
  exact ⟨j, h1, h2⟩
def ixI (x : Int32) : Nat := x.toNatClampNeg
theorem ixI_n {j : Nat} (h : j < 1000) : ixI (nI j) = j := nI_clamp (by omega)
def cntC (nb : Nat) (B : Nat → BS) (x : Int32) : Int32 := if isBx nb x then (B (ixI x)).2.2.1 else -1
theorem C_count {E : gE} {T : gT} {gi : gI} {gr : gR} {dv nb : Nat} {bx cx od : Nat → Nat} {par : Nat → Option Nat} {B : Nat → BS} {fo pr : Option Nat} {w h : Int32} {pl : Nat → Int32} {cs : Nat → Option K5} {D : Nat → Bool} {F : Nat → Int32} {x : Int32} (hI : CInv T gi gr dv nb bx cx od par B fo pr w h pl cs D F) : Ct E mDV_count [.ref dv, .int x] T gi gr (fun T' gi' gr' v => T' = T ∧ gi' = gi ∧ gr' = gr ∧ v = some (.int (cntC nb B x))) := by
  obtain ⟨hS, hB, hF, hL, hP, hC, hBd, hD, hM, hA⟩ := id hI
  have hn6 := hS.2.1.2
  refine Ct_of (ls := [.ref dv, .int x]) (by decide) (gcat_cons rfl (gcat_cons rfl gcat_nil)) (Nat.le_of_ble_eq_true rfl) rfl ?_
  refine G_aload_n dDV_count_0 rfl ?_
  refine G_iload_n dDV_count_1 rfl ?_
  refine G_callV (As := [.int x]) (rest := []) gDV_count_DV_isBox lDV_49.1 lDV_49.2.1 lDV_49.2.2.1 lDV_49.2.2.2 dDV_count_2 rfl (Nat.le_of_ble_eq_true rfl) hS.1.1 ⟨by decide, by decide⟩ (cDV_isBox hS hB) ?_
  rintro _ _ _ _ ⟨rfl, rfl, rfl, rfl⟩
  refine G_st (st' := [.int (if isBx nb x then 1 else 0)]) rfl ?_
  refine G_if_eq dDV_count_5 (fun h1 => ?_) (fun h1 => ?_)
  · refine G_iconst (v := -1) dDV_count_20 (by decide) ?_
    exact G_ireturn dDV_count_21 rfl rfl (by decide) (by decide) ⟨rfl, rfl, rfl, by unfold cntC; rw [if_neg (if01.mp h1)]⟩
  · have hb : isBx nb x := by
      by_cases c : isBx nb x
      · exact c
      · exact absurd (if01.mpr c) h1
    obtain ⟨j, hj, rfl⟩ := isBx_of hn6 hb
    refine G_aload_n dDV_count_8 rfl ?_
    refine G_getRs fDV_18 dDV_count_9 hS.1.1 hS.1.2.2.2.1 ?_
    refine G_iload_n dDV_count_12 rfl ?_
    refine G_aaldsN 2 dDV_count_13 (by decide) hS.1.2.2.2.2.2.1 hS.1.2.2.2.2.2.2.1 (by decide) (by omega) (hS.2.2.1 j hj).1 ?_
    refine G_getI fDV_152 dDV_count_14 (hS.2.2.1 j hj).2.1.1 ?_
    rw [(hB.2 j hj).2.2.2.1]
    refine G_goto dDV_count_17 ?_
    exact G_ireturn dDV_count_21 rfl rfl (by decide) (by decide) ⟨rfl, rfl, rfl, by unfold cntC; rw [if_pos hb, ixI_n (by omega)]⟩
def plcC (nb : Nat) (pl : Nat → Int32) (x : Int32) : Int32 := if isEd nb x then pl (ixI x) else 0
theorem C_place {E : gE} {T : gT} {gi : gI} {gr : gR} {dv nb : Nat} {bx cx od : Nat → Nat} {par : Nat → Option Nat} {B : Nat → BS} {fo pr : Option Nat} {w h : Int32} {pl : Nat → Int32} {cs : Nat → Option K5} {D : Nat → Bool} {F : Nat → Int32} {x : Int32} (hI : CInv T gi gr dv nb bx cx od par B fo pr w h pl cs D F) : Ct E mDV_place [.ref dv, .int x] T gi gr (fun T' gi' gr' v => T' = T ∧ gi' = gi ∧ gr' = gr ∧ v = some (.int (plcC nb pl x))) := by
  obtain ⟨hS, hB, hF, hL, hP, hC, hBd, hD, hM, hA⟩ := id hI
  have hn6 := hS.2.1.2
  have hLa := hS.1.2.2.2.2.2.2.2.2.2.2
  refine Ct_of (ls := [.ref dv, .int x]) (by decide) (gcat_cons rfl (gcat_cons rfl gcat_nil)) (Nat.le_of_ble_eq_true rfl) rfl ?_
  refine G_aload_n dDV_place_0 rfl ?_
  refine G_getRs fDV_34 dDV_place_1 hS.1.1 hS.1.2.1 ?_
  refine G_iload_n dDV_place_4 rfl ?_
  refine G_callV (As := [.int x]) (rest := []) gDV_place_LA_isEdge lDV_81.1 lDV_81.2.1 lDV_81.2.2.1 lDV_81.2.2.2 dDV_place_5 rfl (Nat.le_of_ble_eq_true rfl) hLa.1 ⟨by decide, by decide⟩ (cLA_isEdge hLa hL) ?_
  rintro _ _ _ _ ⟨rfl, rfl, rfl, rfl⟩
  refine G_st (st' := [.int (if isEd nb x then 1 else 0)]) rfl ?_
  refine G_if_eq dDV_place_8 (fun h1 => ?_) (fun h1 => ?_)
  · refine G_iconst (v := 0) dDV_place_23 (by decide) ?_
    exact G_ireturn dDV_place_24 rfl rfl (by decide) (by decide) ⟨rfl, rfl, rfl, by unfold plcC; rw [if_neg (if01.mp h1)]⟩
  · have hb : isEd nb x := by
      by_cases c : isEd nb x
      · exact c
      · exact absurd (if01.mpr c) h1
    obtain ⟨j, hj, rfl⟩ := isEd_of hn6 hb
    refine G_aload_n dDV_place_11 rfl ?_
    refine G_getRs fDV_34 dDV_place_12 hS.1.1 hS.1.2.1 ?_
    refine G_getRs fDV_90 dDV_place_15 hLa.1 hLa.2.1 ?_
    refine G_iload_n dDV_place_18 rfl ?_
    refine G_ialdN dDV_place_19 hLa.2.2.2.2.1 hLa.2.2.2.2.2.1 (by decide) (by omega) ?_
    rw [hP j (by omega)]
    refine G_goto dDV_place_20 ?_
    exact G_ireturn dDV_place_24 rfl rfl (by decide) (by decide) ⟨rfl, rfl, rfl, by unfold plcC; rw [if_pos hb, ixI_n (by omega)]⟩
abbrev isCn (x : Int32) : Prop := ¬ x < 0 ∧ ¬ 16 ≤ x
def errC (cs : Nat → Option K5) (pl : Nat → Int32) (x : Int32) : Int32 := if isCn x then (match cs (ixI x) with
  | some κ => erI κ.2.2.1 (pl κ.1) (pl κ.2.1) κ.2.2.2.1
  | none => -1) else -1
theorem C_error {E : gE} {T : gT} {gi : gI} {gr : gR} {dv nb : Nat} {bx cx od : Nat → Nat} {par : Nat → Option Nat} {B : Nat → BS} {fo pr : Option Nat} {w h : Int32} {pl : Nat → Int32} {cs : Nat → Option K5} {D : Nat → Bool} {F : Nat → Int32} {x : Int32} (hI : CInv T gi gr dv nb bx cx od par B fo pr w h pl cs D F) : Ct E mDV_error [.ref dv, .int x] T gi gr (fun T' gi' gr' v => T' = T ∧ gi' = gi ∧ gr' = gr ∧ v = some (.int (errC cs pl x))) := by
  obtain ⟨hS, hB, hF, hL, hP, hC, hBd, hD, hM, hA⟩ := id hI
  have hLa := hS.1.2.2.2.2.2.2.2.2.2.2
  refine Ct_of (ls := [.ref dv, .int x, .long 0]) (by decide) (gcat_cons rfl (gcat_cons rfl gcat_nil)) (Nat.le_of_ble_eq_true rfl) rfl ?_
  have no : ∀ r : Option Nat, r = none → errC cs pl x = -1 → G E mDV_error 8 [.ref dv, .int x, .long 0] [va_rf r] T gi gr 0 0 (fun T' gi' gr' v => T' = T ∧ gi' = gi ∧ gr' = gr ∧ v = some (.int (errC cs pl x))) := by
    intro r e0 e1
    subst e0
    refine G_astore_nN (ls' := [.ref dv, .int x, .null]) dDV_error_8 (by decide) rfl ?_
    refine G_aload_nN dDV_error_9 rfl ?_
    refine G_ifnonnullN dDV_error_10 ?_
    refine G_iconst (v := -1) dDV_error_13 (by decide) ?_
    refine G_goto dDV_error_14 ?_
    exact G_ireturn dDV_error_28 rfl rfl (by decide) (by decide) ⟨rfl, rfl, rfl, by rw [e1]⟩
  refine G_aload_n dDV_error_0 rfl ?_
  refine G_getRs fDV_34 dDV_error_1 hS.1.1 hS.1.2.1 ?_
  refine G_iload_n dDV_error_4 rfl ?_
  refine G_callV (As := [.int x]) (rest := []) gDV_error_LA_constraintAt lDV_73.1 lDV_73.2.1 lDV_73.2.2.1 lDV_73.2.2.2 dDV_error_5 rfl (Nat.le_of_ble_eq_true rfl) hLa.1 ⟨by decide, by decide⟩ (cLA_constraintAt hLa) ?_
  rintro _ _ _ _ ⟨rfl, rfl, rfl, r, rfl, hr⟩
  refine G_st (st' := [va_rf r]) rfl ?_
  rcases hr with ⟨j, hj, rfl, hr⟩ | ⟨hx, hr⟩
  · have hc : isCn (nI j) := ⟨nI_pos (by omega), nI_ge (b := 16) hj (by decide)⟩
    cases hcs : cs j with
    | none => exact no _ (hr.trans ((hC j hj).1 hcs)) (by unfold errC; rw [if_pos hc, ixI_n (by omega), hcs])
    | some κ =>
      obtain ⟨c1, c2, c3, c4, c5⟩ := (hC j hj).2 κ hcs
      have e : r = some (cx j) := hr.trans c1
      subst e
      refine G_astore_n (ls' := [.ref dv, .int (nI j), .ref (cx j)]) dDV_error_8 (by decide) rfl ?_
      refine G_aload_n dDV_error_9 rfl ?_
      refine G_ifnonnull dDV_error_10 ?_
      refine G_aload_n dDV_error_17 rfl ?_
      refine G_aload_n dDV_error_18 rfl ?_
      refine G_getRs fDV_34 dDV_error_19 hS.1.1 hS.1.2.1 ?_
      refine G_getRs fDV_90 dDV_error_22 hLa.1 hLa.2.1 ?_
      refine G_callV (As := [.ref (dv + 6 + 1)]) (rest := []) gDV_error_CN_errorIn lDV_94.1 lDV_94.2.1 lDV_94.2.2.1 lDV_94.2.2.2 dDV_error_25 rfl (Nat.le_of_ble_eq_true rfl) c2 ⟨by decide, by decide⟩ (cCN_errorIn c2 c3 c4 ⟨hLa.2.2.2.2.1, hLa.2.2.2.2.2.1⟩) ?_
      rintro _ _ _ _ ⟨rfl, rfl, rfl, rfl⟩
      refine G_st (st' := [.int (erI κ.2.2.1 (pl κ.1) (pl κ.2.1) κ.2.2.2.1)]) (by rw [hP _ c4.1, hP _ c4.2.1]; rfl) ?_
      exact G_ireturn dDV_error_28 rfl rfl (by decide) (by decide) ⟨rfl, rfl, rfl, by unfold errC; rw [if_pos hc, ixI_n (by omega), hcs]⟩
  · exact no _ hr (by unfold errC; rw [if_neg (fun z => hx.elim z.1 z.2)])
abbrev onSc (x y : Int32) : Prop := ¬ x < 0 ∧ ¬ 24 ≤ x ∧ ¬ y < 0 ∧ ¬ 16 ≤ y
def pixC (F : Nat → Int32) (x y : Int32) : Int32 := if onSc x y then F (ixI y * 24 + ixI x) else -1
theorem C_pixel {E : gE} {T : gT} {gi : gI} {gr : gR} {dv nb : Nat} {bx cx od : Nat → Nat} {par : Nat → Option Nat} {B : Nat → BS} {fo pr : Option Nat} {w h : Int32} {pl : Nat → Int32} {cs : Nat → Option K5} {D : Nat → Bool} {F : Nat → Int32} {x y : Int32} (hI : CInv T gi gr dv nb bx cx od par B fo pr w h pl cs D F) : Ct E mDV_pixel [.ref dv, .int x, .int y] T gi gr (fun T' gi' gr' v => T' = T ∧ gi' = gi ∧ gr' = gr ∧ v = some (.int (pixC F x y))) := by
  obtain ⟨hS, hB, hF, hL, hP, hC, hBd, hD, hM, hA⟩ := id hI
  refine Ct_of (ls := [.ref dv, .int x, .int y, .long 0]) (by decide) (gcat_cons rfl (gcat_cons rfl (gcat_cons rfl gcat_nil))) (Nat.le_of_ble_eq_true rfl) rfl ?_
  have no : ¬ onSc x y → G E mDV_pixel 24 [.ref dv, .int x, .int y, .long 0] [] T gi gr 0 0 (fun T' gi' gr' v => T' = T ∧ gi' = gi ∧ gr' = gr ∧ v = some (.int (pixC F x y))) := by
    intro hn
    refine G_iconst (v := 0) dDV_pixel_24 (by decide) ?_
    refine G_istore_n (ls' := [.ref dv, .int x, .int y, .int 0]) dDV_pixel_25 (by decide) rfl ?_
    refine G_iload_n dDV_pixel_26 rfl ?_
    refine G_if_eq dDV_pixel_27 (fun _ => ?_) (fun z => absurd rfl z)
    refine G_iconst (v := -1) dDV_pixel_42 (by decide) ?_
    exact G_ireturn dDV_pixel_43 rfl rfl (by decide) (by decide) ⟨rfl, rfl, rfl, by unfold pixC; rw [if_neg hn]⟩
  refine G_iload_n dDV_pixel_0 rfl ?_
  refine G_if_lt dDV_pixel_1 (fun h1 => no (fun z => z.1 h1)) (fun h1 => ?_)
  refine G_iload_n dDV_pixel_4 rfl ?_
  refine G_bipush (v := 24) dDV_pixel_5 (by decide) ?_
  refine G_icmp_ge dDV_pixel_7 (fun h2 => no (fun z => z.2.1 h2)) (fun h2 => ?_)
  refine G_iload_n dDV_pixel_10 rfl ?_
  refine G_if_lt dDV_pixel_11 (fun h3 => no (fun z => z.2.2.1 h3)) (fun h3 => ?_)
  refine G_iload_n dDV_pixel_14 rfl ?_
  refine G_bipush (v := 16) dDV_pixel_15 (by decide) ?_
  refine G_icmp_ge dDV_pixel_17 (fun h4 => no (fun z => z.2.2.2 h4)) (fun h4 => ?_)
  have hon : onSc x y := ⟨h1, h2, h3, h4⟩
  obtain ⟨i, hi, rfl, -⟩ := pk_mu (L := 24) h1 h2 (by decide)
  obtain ⟨j, hj, rfl, -⟩ := pk_mu (L := 16) h3 h4 (by decide)
  refine G_iconst (v := 1) dDV_pixel_20 (by decide) ?_
  refine G_goto dDV_pixel_21 ?_
  refine G_istore_n (ls' := [.ref dv, .int (nI i), .int (nI j), .int 1]) dDV_pixel_25 (by decide) rfl ?_
  refine G_iload_n dDV_pixel_26 rfl ?_
  refine G_if_eq dDV_pixel_27 (fun z => absurd z (by decide)) (fun _ => ?_)
  refine G_aload_n dDV_pixel_30 rfl ?_
  refine G_getRs fDV_12 dDV_pixel_31 hS.1.1 hS.1.2.2.1 ?_
  refine G_iload_n dDV_pixel_34 rfl ?_
  refine G_iload_n dDV_pixel_35 rfl ?_
  refine G_callV (As := [.int (nI i), .int (nI j)]) (rest := []) gDV_pixel_SC_frameAt lDV_168.1 lDV_168.2.1 lDV_168.2.2.1 lDV_168.2.2.2 dDV_pixel_36 rfl (Nat.le_of_ble_eq_true rfl) hS.1.2.2.2.2.2.2.2.2.2.1.1 ⟨by decide, by decide⟩ (cSC_frameAt hS.1.2.2.2.2.2.2.2.2.2.1 hM hi hj) ?_
  rintro _ _ _ _ ⟨rfl, rfl, rfl, rfl⟩
  refine G_st (st' := [.int (F (j * 24 + i))]) rfl ?_
  refine G_goto dDV_pixel_39 ?_
  exact G_ireturn dDV_pixel_43 rfl rfl (by decide) (by decide) ⟨rfl, rfl, rfl, by unfold pixC; rw [if_pos hon, ixI_n (by omega), ixI_n (by omega)]⟩
