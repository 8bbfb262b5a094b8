theorem bt {b : Bool} (h : ¬ bI b = 0) : b = true := by
  cases b with
  | true => rfl
  | false => exact absurd rfl h
theorem noI_eq {o : Option Nat} {b : Nat} (h : ∀ i, o = some i → i < 1000) (hb : b < 1000) : noI o = nI b ↔ o = some b := by
  cases o with
  | none => exact ⟨fun z => absurd (show nI b < 0 by rw [← z]; decide) (nI_pos (by omega)), fun z => by cases z⟩
  | some i =>
    have := h i rfl
    exact ⟨fun z => by rw [(nI_eq (by omega) (by omega)).mp z], fun z => by cases z; rfl⟩
theorem noI_inj {o q : Option Nat} (h : ∀ i, o = some i → i < 1000) (hq : ∀ i, q = some i → i < 1000) : noI o = noI q ↔ o = q := by
  cases q with
  | some b => exact noI_eq h (hq b rfl)
  | none =>
    cases o with
    | none => exact ⟨fun _ => rfl, fun _ => rfl⟩
    | some i => exact ⟨fun z => absurd (show nI i < 0 by rw [show nI i = noI none from z]; decide) (nI_pos (by have := h i rfl; omega)), fun z => by cases z⟩
theorem sa_loop {E : gE} {T : gT} {gi : gI} {gr : gR} {m : Nat} {nb : Nat} {par : Nat → Option Nat} {kd : Nat → Int32} {hd : Nat → Bool} {li : Nat → Bool} {ct : Nat → Int32} {rk : Nat → Nat} {rks : Nat} {w : Int32} {h : Int32} {pl : Nat → Int32} {cs : Nat → Option K5} {fo : Option Nat} {pr : Option Nat} {ar : Nat → Nat → Bool} {co : Nat → Int32} {D : Nat → Bool} {F : Nat → Int32} {b : Nat} (hI : MInv T gi gr m nb par kd hd li ct rk rks w h pl cs fo pr ar co D F) (hb : b < nb) : ∀ (n z : Nat), z + n = 384 → G E mMO_someArea 4 [.ref m, .int (nI b), .int (bI (smM par pl hd b z)), .int (nI z)] [] T gi gr 0 0 (fun T' gi' gr' v => T' = T ∧ gi' = gi ∧ gr' = gr ∧ v = some (.int (bI (smM par pl hd b 384)))) := by
  intro n
  induction n with
  | zero =>
    intro z hz
    have : z = 384 := by omega
    subst this
    refine G_iload_n dMO_someArea_4 rfl ?_
    refine G_sipush (v := 384) dMO_someArea_5 (by decide) ?_
    refine G_icmp_ge dMO_someArea_8 (fun _ => ?_) (fun z => absurd (by decide +kernel) z)
    refine G_iload_n dMO_someArea_43 rfl ?_
    exact G_ireturn dMO_someArea_44 rfl (nr_z (bI_01 _)) (by decide) (by decide) ⟨rfl, rfl, rfl, rfl⟩
  | succ n ih =>
    intro z hz
    have e1 : smM par pl hd b (z + 1) = (smM par pl hd b z || inM par pl hd b (nI (z % 24)) (nI (z / 24))) := rfl
    have nxt : ∀ v2 : Bool, v2 = smM par pl hd b (z + 1) → G E mMO_someArea 36 [.ref m, .int (nI b), .int (bI (smM par pl hd b z)), .int (nI z)] [.int (bI v2)] T gi gr 0 0 (fun T' gi' gr' v => T' = T ∧ gi' = gi ∧ gr' = gr ∧ v = some (.int (bI (smM par pl hd b 384)))) := by
      rintro v2 rfl
      refine G_istore_n (ls' := [.ref m, .int (nI b), .int (bI (smM par pl hd b (z + 1))), .int (nI z)]) dMO_someArea_36 (by decide) rfl ?_
      refine G_iinc (ls' := [.ref m, .int (nI b), .int (bI (smM par pl hd b (z + 1))), .int (nI (z + 1))]) dMO_someArea_37 rfl (nI_inc z) (by decide) rfl ?_
      refine G_goto dMO_someArea_40 ?_
      exact ih (z + 1) (by omega)
    refine G_iload_n dMO_someArea_4 rfl ?_
    refine G_sipush (v := 384) dMO_someArea_5 (by decide) ?_
    refine G_icmp_ge dMO_someArea_8 (fun h1 => ?_) (fun h1 => ?_)
    · exact absurd h1 (nI_ge (b := 384) (by omega) (by decide))
    · refine G_iload_n dMO_someArea_11 rfl ?_
      refine G_if_ne dMO_someArea_12 (fun h2 => ?_) (fun h2 => ?_)
      · refine G_iconst (v := 1) dMO_someArea_31 (by decide) ?_
        refine G_goto dMO_someArea_32 ?_
        exact nxt true (by rw [e1, bt h2]; rfl)
      · refine G_aload_n dMO_someArea_15 rfl ?_
        refine G_iload_n dMO_someArea_16 rfl ?_
        refine G_iload_n dMO_someArea_17 rfl ?_
        refine G_bipush (v := 24) dMO_someArea_18 (by decide) ?_
        refine G_irem dMO_someArea_20 (by decide) ?_
        refine G_st (st' := [.int (nI (z % 24)), .int (nI b), .ref m]) (by rw [nI_r24 (by omega)]) ?_
        refine G_iload_n dMO_someArea_21 rfl ?_
        refine G_bipush (v := 24) dMO_someArea_22 (by decide) ?_
        refine G_idiv dMO_someArea_24 (by decide) ?_
        refine G_st (st' := [.int (nI (z / 24)), .int (nI (z % 24)), .int (nI b), .ref m]) (by rw [nI_d24 (by omega)]) ?_
        refine G_callV (As := [.int (nI b), .int (nI (z % 24)), .int (nI (z / 24))]) (rest := []) gMO_someArea_MO_inArea lMO_100.1 lMO_100.2.1 lMO_100.2.2.1 lMO_100.2.2.2 dMO_someArea_25 rfl (Nat.le_of_ble_eq_true rfl) hI.1.1 ⟨by decide, by decide⟩ (cMO_inArea hI hb) ?_
        refine same4 ?_
        refine G_st (st' := [.int (bI (inM par pl hd b (nI (z % 24)) (nI (z / 24))))]) rfl ?_
        refine G_if_eq dMO_someArea_28 (fun h3 => ?_) (fun h3 => ?_)
        · refine G_iconst (v := 0) dMO_someArea_35 (by decide) ?_
          exact nxt false (by rw [e1, bI_z.mp h3, bI_z.mp h2]; rfl)
        · refine G_iconst (v := 1) dMO_someArea_31 (by decide) ?_
          refine G_goto dMO_someArea_32 ?_
          exact nxt true (by rw [e1, bt h3, Bool.or_true])
theorem cMO_someArea {E : gE} {T : gT} {gi : gI} {gr : gR} {m : Nat} {nb : Nat} {par : Nat → Option Nat} {kd : Nat → Int32} {hd : Nat → Bool} {li : Nat → Bool} {ct : Nat → Int32} {rk : Nat → Nat} {rks : Nat} {w : Int32} {h : Int32} {pl : Nat → Int32} {cs : Nat → Option K5} {fo : Option Nat} {pr : Option Nat} {ar : Nat → Nat → Bool} {co : Nat → Int32} {D : Nat → Bool} {F : Nat → Int32} {b : Nat} (hI : MInv T gi gr m nb par kd hd li ct rk rks w h pl cs fo pr ar co D F) (hb : b < nb) : Ct E mMO_someArea [.ref m, .int (nI b)] T gi gr (fun T' gi' gr' v => T' = T ∧ gi' = gi ∧ gr' = gr ∧ v = some (.int (bI (smM par pl hd b 384)))) := by
  refine Ct_of (ls := [.ref m, .int (nI b), .long 0, .long 0]) (by decide) (gcat_cons rfl (gcat_cons rfl gcat_nil)) (Nat.le_of_ble_eq_true rfl) rfl ?_
  refine G_iconst (v := bI false) dMO_someArea_0 (by decide) ?_
  refine G_istore_n (ls' := [.ref m, .int (nI b), .int (bI false), .long 0]) dMO_someArea_1 (by decide) rfl ?_
  refine G_iconst (v := nI 0) dMO_someArea_2 (by decide +kernel) ?_
  refine G_istore_n (ls' := [.ref m, .int (nI b), .int (bI false), .int (nI 0)]) dMO_someArea_3 (by decide) rfl ?_
  exact sa_loop hI hb 384 0 rfl
theorem cMO_can {E : gE} {T : gT} {gi : gI} {gr : gR} {m : Nat} {nb : Nat} {par : Nat → Option Nat} {kd : Nat → Int32} {hd : Nat → Bool} {li : Nat → Bool} {ct : Nat → Int32} {rk : Nat → Nat} {rks : Nat} {w : Int32} {h : Int32} {pl : Nat → Int32} {cs : Nat → Option K5} {fo : Option Nat} {pr : Option Nat} {ar : Nat → Nat → Bool} {co : Nat → Int32} {D : Nat → Bool} {F : Nat → Int32} {q : Option Nat} (hI : MInv T gi gr m nb par kd hd li ct rk rks w h pl cs fo pr ar co D F) (hq : ∀ i, q = some i → i < nb) : Ct E mMO_can [.ref m, .int (noI q)] T gi gr (fun T' gi' gr' v => T' = T ∧ gi' = gi ∧ gr' = gr ∧ v = some (.int (bI (canM par pl hd kd q)))) := by
  have h6 : nb ≤ 6 := hI.2.2.1.1.2
  refine Ct_of (ls := [.ref m, .int (noI q)]) (by decide) (gcat_cons rfl (gcat_cons rfl gcat_nil)) (Nat.le_of_ble_eq_true rfl) rfl ?_
  refine G_iload_n dMO_can_0 rfl ?_
  cases q with
  | none =>
    refine G_if_lt dMO_can_1 (fun _ => ?_) (fun z => absurd noI_neg z)
    refine G_iconst (v := bI false) dMO_can_25 (by decide) ?_
    exact G_ireturn dMO_can_26 rfl (nr_z (bI_01 _)) (by decide) (by decide) ⟨rfl, rfl, rfl, rfl⟩
  | some b =>
    have hb := hq b rfl
    refine G_if_lt dMO_can_1 (fun z => absurd z (nI_pos (by omega))) (fun _ => ?_)
    refine G_aload_n dMO_can_4 rfl ?_
    refine G_getRs fMO_13 dMO_can_5 hI.1.1 hI.1.r1 ?_
    refine G_iload_n (x := nI b) dMO_can_8 rfl ?_
    refine G_ialdN dMO_can_9 hI.1.t1 hI.1.l1 (by decide) (by omega) ?_
    rw [hI.2.2.2.1 b (by omega)]
    refine G_if_le dMO_can_10 (fun h1 => ?_) (fun h1 => ?_)
    · refine G_iconst (v := bI false) dMO_can_25 (by decide) ?_
      exact G_ireturn dMO_can_26 rfl (nr_z (bI_01 _)) (by decide) (by decide) ⟨rfl, rfl, rfl, by unfold canM; dsimp only; rw [decide_eq_false (fun z => z h1)]; rfl⟩
    · refine G_aload_n dMO_can_13 rfl ?_
      refine G_iload_n (x := nI b) dMO_can_14 rfl ?_
      refine G_callV (As := [.int (nI b)]) (rest := []) gMO_can_MO_someArea lMO_103.1 lMO_103.2.1 lMO_103.2.2.1 lMO_103.2.2.2 dMO_can_15 rfl (Nat.le_of_ble_eq_true rfl) hI.1.1 ⟨by decide, by decide⟩ (cMO_someArea hI hb) ?_
      refine same4 ?_
      refine G_st (st' := [.int (bI (smM par pl hd b 384))]) rfl ?_
      refine G_if_eq dMO_can_18 (fun h2 => ?_) (fun h2 => ?_)
      · refine G_iconst (v := bI false) dMO_can_25 (by decide) ?_
        exact G_ireturn dMO_can_26 rfl (nr_z (bI_01 _)) (by decide) (by decide) ⟨rfl, rfl, rfl, by unfold canM; dsimp only; rw [bI_z.mp h2, Bool.and_false]⟩
      · refine G_iconst (v := bI true) dMO_can_21 (by decide) ?_
        refine G_goto dMO_can_22 ?_
        exact G_ireturn dMO_can_26 rfl (nr_z (bI_01 _)) (by decide) (by decide) ⟨rfl, rfl, rfl, by unfold canM; dsimp only; rw [bt h2, decide_eq_true h1]; rfl⟩
def colA (kd : Nat → Int32) (li : Nat → Bool) (b : Nat) : Int32 := if kd b = 2 ∧ li b = true then 1 + nI b + 8 else 1 + nI b
def colB (kd : Nat → Int32) (li : Nat → Bool) (fo : Option Nat) (b : Nat) : Int32 := if fo = some b then colA kd li b + 16 else colA kd li b
def colM (kd : Nat → Int32) (li : Nat → Bool) (fo pr : Option Nat) (b : Nat) : Int32 := if pr = some b then colB kd li fo b + 32 else colB kd li fo b
theorem cMO_colour {E : gE} {T : gT} {gi : gI} {gr : gR} {m : Nat} {nb : Nat} {par : Nat → Option Nat} {kd : Nat → Int32} {hd : Nat → Bool} {li : Nat → Bool} {ct : Nat → Int32} {rk : Nat → Nat} {rks : Nat} {w : Int32} {h : Int32} {pl : Nat → Int32} {cs : Nat → Option K5} {fo : Option Nat} {pr : Option Nat} {ar : Nat → Nat → Bool} {co : Nat → Int32} {D : Nat → Bool} {F : Nat → Int32} {b : Nat} (hI : MInv T gi gr m nb par kd hd li ct rk rks w h pl cs fo pr ar co D F) (hb : b < nb) : Ct E mMO_colour [.ref m, .int (nI b)] T gi gr (fun T' gi' gr' v => T' = T ∧ gi' = gi ∧ gr' = gr ∧ v = some (.int (colM kd li fo pr b))) := by
  have h6 : nb ≤ 6 := hI.2.2.1.1.2
  refine Ct_of (ls := [.ref m, .int (nI b), .long 0]) (by decide) (gcat_cons rfl (gcat_cons rfl gcat_nil)) (Nat.le_of_ble_eq_true rfl) rfl ?_
  have s3 : G E mMO_colour 41 [.ref m, .int (nI b), .int (colB kd li fo b)] [] T gi gr 0 0 (fun T' gi' gr' v => T' = T ∧ gi' = gi ∧ gr' = gr ∧ v = some (.int (colM kd li fo pr b))) := by
    refine G_aload_n dMO_colour_41 rfl ?_
    refine G_getI fMO_72 dMO_colour_42 hI.1.1 ?_
    rw [hI.2.1.2.2.2.2.2]
    refine G_iload_n dMO_colour_45 rfl ?_
    refine G_icmp_ne dMO_colour_46 (fun h1 => ?_) (fun h1 => ?_)
    · refine G_iload_n dMO_colour_56 rfl ?_
      exact G_ireturn dMO_colour_57 rfl rfl (by decide) (by decide) ⟨rfl, rfl, rfl, by unfold colM; rw [if_neg (fun z => h1 ((noI_eq (fun i hi => by have := hI.2.2.1.2.2.2 i hi; omega) (by omega)).mpr z))]⟩
    · refine G_iload_n dMO_colour_49 rfl ?_
      refine G_bipush (v := 32) dMO_colour_50 (by decide) ?_
      refine G_iadd dMO_colour_52 ?_
      refine G_goto dMO_colour_53 ?_
      exact G_ireturn dMO_colour_57 rfl rfl (by decide) (by decide) ⟨rfl, rfl, rfl, by unfold colM; rw [if_pos ((noI_eq (fun i hi => by have := hI.2.2.1.2.2.2 i hi; omega) (by omega)).mp h1)]⟩
  have s2 : G E mMO_colour 28 [.ref m, .int (nI b), .int (colA kd li b)] [] T gi gr 0 0 (fun T' gi' gr' v => T' = T ∧ gi' = gi ∧ gr' = gr ∧ v = some (.int (colM kd li fo pr b))) := by
    refine G_aload_n dMO_colour_28 rfl ?_
    refine G_getI fMO_69 dMO_colour_29 hI.1.1 ?_
    rw [hI.2.1.2.2.2.2.1]
    refine G_iload_n dMO_colour_32 rfl ?_
    refine G_icmp_ne dMO_colour_33 (fun h1 => ?_) (fun h1 => ?_)
    · have e : colB kd li fo b = colA kd li b := by unfold colB; rw [if_neg (fun z => h1 ((noI_eq (fun i hi => by have := hI.2.2.1.2.2.1 i hi; omega) (by omega)).mpr z))]
      rw [← e]; exact s3
    · have e : colB kd li fo b = colA kd li b + 16 := by unfold colB; rw [if_pos ((noI_eq (fun i hi => by have := hI.2.2.1.2.2.1 i hi; omega) (by omega)).mp h1)]
      refine G_iload_n dMO_colour_36 rfl ?_
      refine G_bipush (v := 16) dMO_colour_37 (by decide) ?_
      refine G_iadd dMO_colour_39 ?_
      refine G_istore_n (ls' := [.ref m, .int (nI b), .int (colB kd li fo b)]) dMO_colour_40 (by decide) (by rw [e]; rfl) ?_
      exact s3
  refine G_iconst (v := 1) dMO_colour_0 (by decide) ?_
  refine G_iload_n dMO_colour_1 rfl ?_
  refine G_iadd dMO_colour_2 ?_
  refine G_istore_n (ls' := [.ref m, .int (nI b), .int (1 + nI b)]) dMO_colour_3 (by decide) rfl ?_
  refine G_aload_n dMO_colour_4 rfl ?_
  refine G_getRs fMO_13 dMO_colour_5 hI.1.1 hI.1.r1 ?_
  refine G_iload_n dMO_colour_8 rfl ?_
  refine G_ialdN dMO_colour_9 hI.1.t1 hI.1.l1 (by decide) (by omega) ?_
  rw [hI.2.2.2.1 b (by omega)]
  refine G_iconst (v := 2) dMO_colour_10 (by decide) ?_
  refine G_icmp_ne dMO_colour_11 (fun h1 => ?_) (fun h1 => ?_)
  · have e : colA kd li b = 1 + nI b := by unfold colA; rw [if_neg (fun z => h1 z.1)]
    rw [← e]; exact s2
  · refine G_aload_n dMO_colour_14 rfl ?_
    refine G_getRs fMO_24 dMO_colour_15 hI.1.1 hI.1.r4 ?_
    refine G_iload_n dMO_colour_18 rfl ?_
    refine G_zaldN dMO_colour_19 hI.1.t4 hI.1.l4 (by decide) (by omega) ?_
    rw [hI.2.2.2.2.2.2.1 b (by omega)]
    refine G_if_eq dMO_colour_20 (fun h2 => ?_) (fun h2 => ?_)
    · have e : colA kd li b = 1 + nI b := by unfold colA; rw [if_neg (fun z => by rw [bI_z.mp h2] at z; exact absurd z.2 (by decide))]
      rw [← e]; exact s2
    · have e : colA kd li b = 1 + nI b + 8 := by unfold colA; rw [if_pos ⟨h1, bt h2⟩]
      refine G_iload_n dMO_colour_23 rfl ?_
      refine G_bipush (v := 8) dMO_colour_24 (by decide) ?_
      refine G_iadd dMO_colour_26 ?_
      refine G_istore_n (ls' := [.ref m, .int (nI b), .int (colA kd li b)]) dMO_colour_27 (by decide) (by rw [e]; rfl) ?_
      exact s2
theorem cMO_isBox {E : gE} {T : gT} {gi : gI} {gr : gR} {m : Nat} {nb : Nat} {par : Nat → Option Nat} {kd : Nat → Int32} {hd : Nat → Bool} {li : Nat → Bool} {ct : Nat → Int32} {rk : Nat → Nat} {rks : Nat} {w : Int32} {h : Int32} {pl : Nat → Int32} {cs : Nat → Option K5} {fo : Option Nat} {pr : Option Nat} {ar : Nat → Nat → Bool} {co : Nat → Int32} {D : Nat → Bool} {F : Nat → Int32} {x : Int32} (hI : MInv T gi gr m nb par kd hd li ct rk rks w h pl cs fo pr ar co D F) : Ct E mMO_isBox [.ref m, .int x] T gi gr (fun T' gi' gr' v => T' = T ∧ gi' = gi ∧ gr' = gr ∧ v = some (.int (if isBx nb x then 1 else 0))) := by
  refine Ct_of (ls := [.ref m, .int x]) (by decide) (gcat_cons rfl (gcat_cons rfl gcat_nil)) (Nat.le_of_ble_eq_true rfl) rfl ?_
  refine G_iload_n dMO_isBox_0 rfl ?_
  refine G_if_lt dMO_isBox_1 (fun h1 => ?_) (fun h1 => ?_)
  · refine G_iconst (v := 0) dMO_isBox_16 (by decide) ?_
    exact G_ireturn dMO_isBox_17 rfl (nr_z (by decide)) (by decide) (by decide) ⟨rfl, rfl, rfl, by rw [if_neg (show ¬ isBx nb x from fun z => z.1 h1)]⟩
  · refine G_iload_n dMO_isBox_4 rfl ?_
    refine G_aload_n dMO_isBox_5 rfl ?_
    refine G_getI fMO_7 dMO_isBox_6 hI.1.1 ?_
    rw [hI.2.1.1]
    refine G_icmp_ge dMO_isBox_9 (fun h2 => ?_) (fun h2 => ?_)
    · refine G_iconst (v := 0) dMO_isBox_16 (by decide) ?_
      exact G_ireturn dMO_isBox_17 rfl (nr_z (by decide)) (by decide) (by decide) ⟨rfl, rfl, rfl, by rw [if_neg (show ¬ isBx nb x from fun z => z.2 h2)]⟩
    · refine G_iconst (v := 1) dMO_isBox_12 (by decide) ?_
      refine G_goto dMO_isBox_13 ?_
      exact G_ireturn dMO_isBox_17 rfl (nr_z (by decide)) (by decide) (by decide) ⟨rfl, rfl, rfl, by rw [if_pos (show isBx nb x from ⟨h1, h2⟩)]⟩
theorem cMO_isEdge {E : gE} {T : gT} {gi : gI} {gr : gR} {m : Nat} {nb : Nat} {par : Nat → Option Nat} {kd : Nat → Int32} {hd : Nat → Bool} {li : Nat → Bool} {ct : Nat → Int32} {rk : Nat → Nat} {rks : Nat} {w : Int32} {h : Int32} {pl : Nat → Int32} {cs : Nat → Option K5} {fo : Option Nat} {pr : Option Nat} {ar : Nat → Nat → Bool} {co : Nat → Int32} {D : Nat → Bool} {F : Nat → Int32} {x : Int32} (hI : MInv T gi gr m nb par kd hd li ct rk rks w h pl cs fo pr ar co D F) : Ct E mMO_isEdge [.ref m, .int x] T gi gr (fun T' gi' gr' v => T' = T ∧ gi' = gi ∧ gr' = gr ∧ v = some (.int (if isEd nb x then 1 else 0))) := by
  refine Ct_of (ls := [.ref m, .int x]) (by decide) (gcat_cons rfl (gcat_cons rfl gcat_nil)) (Nat.le_of_ble_eq_true rfl) rfl ?_
  refine G_iload_n dMO_isEdge_0 rfl ?_
  refine G_if_lt dMO_isEdge_1 (fun h1 => ?_) (fun h1 => ?_)
  · refine G_iconst (v := 0) dMO_isEdge_18 (by decide) ?_
    exact G_ireturn dMO_isEdge_19 rfl (nr_z (by decide)) (by decide) (by decide) ⟨rfl, rfl, rfl, by rw [if_neg (show ¬ isEd nb x from fun z => z.1 h1)]⟩
  · refine G_iload_n dMO_isEdge_4 rfl ?_
    refine G_iconst (v := 4) dMO_isEdge_5 (by decide) ?_
    refine G_aload_n dMO_isEdge_6 rfl ?_
    refine G_getI fMO_7 dMO_isEdge_7 hI.1.1 ?_
    rw [hI.2.1.1]
    refine G_imul dMO_isEdge_10 ?_
    refine G_st (st' := [.int (nI (4 * nb)), .int x]) (by rw [nI_4x]) ?_
    refine G_icmp_ge dMO_isEdge_11 (fun h2 => ?_) (fun h2 => ?_)
    · refine G_iconst (v := 0) dMO_isEdge_18 (by decide) ?_
      exact G_ireturn dMO_isEdge_19 rfl (nr_z (by decide)) (by decide) (by decide) ⟨rfl, rfl, rfl, by rw [if_neg (show ¬ isEd nb x from fun z => z.2 h2)]⟩
    · refine G_iconst (v := 1) dMO_isEdge_14 (by decide) ?_
      refine G_goto dMO_isEdge_15 ?_
      exact G_ireturn dMO_isEdge_19 rfl (nr_z (by decide)) (by decide) (by decide) ⟨rfl, rfl, rfl, by rw [if_pos (show isEd nb x from ⟨h1, h2⟩)]⟩
def ogM (x : Int32) : Int32 := if tbE x then 2 else 0
theorem cMO_origin {E : gE} {T : gT} {gi : gI} {gr : gR} {x : Int32} : Ct E mMO_origin [.int x] T gi gr (fun T' gi' gr' v => T' = T ∧ gi' = gi ∧ gr' = gr ∧ v = some (.int (ogM x))) := by
  refine Ct_of (ls := [.int x]) (by decide) (gcat_cons rfl gcat_nil) (Nat.le_of_ble_eq_true rfl) rfl ?_
  refine G_iload_n dMO_origin_0 rfl ?_
  refine G_iconst (v := 4) dMO_origin_1 (by decide) ?_
  refine G_irem dMO_origin_2 (by decide) ?_
  refine G_iconst (v := 2) dMO_origin_3 (by decide) ?_
  refine G_icmp_ge dMO_origin_4 (fun h1 => ?_) (fun h1 => ?_)
  · refine G_iconst (v := 2) dMO_origin_11 (by decide) ?_
    exact G_ireturn dMO_origin_12 rfl rfl (by decide) (by decide) ⟨rfl, rfl, rfl, by unfold ogM; rw [if_pos (show tbE x from fun z => by rw [Int32.lt_iff_toInt_lt] at z; rw [Int32.le_iff_toInt_le] at h1; omega)]⟩
  · refine G_iconst (v := 0) dMO_origin_7 (by decide) ?_
    refine G_goto dMO_origin_8 ?_
    exact G_ireturn dMO_origin_12 rfl rfl (by decide) (by decide) ⟨rfl, rfl, rfl, by unfold ogM; rw [if_neg (show ¬ tbE x from fun z => z (by rw [Int32.lt_iff_toInt_lt]; rw [Int32.le_iff_toInt_le] at h1; omega))]⟩
abbrev icM (cs : Nat → Option K5) (x : Int32) : Prop := isCn x ∧ cs (ixI x) ≠ none
theorem mc_used {gi : gI} {m : Nat} {cs : Nat → Option K5} (h : McIs gi m cs) {i : Nat} (hi : i < 16) : gi (m + 9) i = 0 ↔ cs i = none := by
  cases hc : cs i with
  | none => exact ⟨fun _ => rfl, fun _ => (h i hi).1 hc⟩
  | some κ => exact ⟨fun z => by rw [((h i hi).2 κ hc).1] at z; exact absurd z (by decide), fun z => by cases z⟩
theorem mc_used1 {gi : gI} {m : Nat} {cs : Nat → Option K5} (h : McIs gi m cs) {i : Nat} (hi : i < 16) : gi (m + 9) i = bI (cs i).isSome := by
  cases hc : cs i with
  | none => exact (h i hi).1 hc
  | some κ => exact ((h i hi).2 κ hc).1
theorem cMO_isConstraint {E : gE} {T : gT} {gi : gI} {gr : gR} {m : Nat} {nb : Nat} {par : Nat → Option Nat} {kd : Nat → Int32} {hd : Nat → Bool} {li : Nat → Bool} {ct : Nat → Int32} {rk : Nat → Nat} {rks : Nat} {w : Int32} {h : Int32} {pl : Nat → Int32} {cs : Nat → Option K5} {fo : Option Nat} {pr : Option Nat} {ar : Nat → Nat → Bool} {co : Nat → Int32} {D : Nat → Bool} {F : Nat → Int32} {x : Int32} (hI : MInv T gi gr m nb par kd hd li ct rk rks w h pl cs fo pr ar co D F) : Ct E mMO_isConstraint [.ref m, .int x] T gi gr (fun T' gi' gr' v => T' = T ∧ gi' = gi ∧ gr' = gr ∧ v = some (.int (if icM cs x then 1 else 0))) := by
  refine Ct_of (ls := [.ref m, .int x]) (by decide) (gcat_cons rfl (gcat_cons rfl gcat_nil)) (Nat.le_of_ble_eq_true rfl) rfl ?_
  have no : ¬ icM cs x → G E mMO_isConstraint 23 [.ref m, .int x] [] T gi gr 0 0 (fun T' gi' gr' v => T' = T ∧ gi' = gi ∧ gr' = gr ∧ v = some (.int (if icM cs x then 1 else 0))) := by
    intro hn
    refine G_iconst (v := 0) dMO_isConstraint_23 (by decide) ?_
    exact G_ireturn dMO_isConstraint_24 rfl (nr_z (by decide)) (by decide) (by decide) ⟨rfl, rfl, rfl, by rw [if_neg hn]⟩
  refine G_iload_n dMO_isConstraint_0 rfl ?_
  refine G_if_lt dMO_isConstraint_1 (fun h1 => no (fun z => z.1.1 h1)) (fun h1 => ?_)
  refine G_iload_n dMO_isConstraint_4 rfl ?_
  refine G_bipush (v := 16) dMO_isConstraint_5 (by decide) ?_
  refine G_icmp_ge dMO_isConstraint_7 (fun h2 => no (fun z => z.1.2 h2)) (fun h2 => ?_)
  obtain ⟨j, hj, rfl, -⟩ := pk_mu (L := 16) h1 h2 (by decide)
  refine G_aload_n dMO_isConstraint_10 rfl ?_
  refine G_getRs fMO_39 dMO_isConstraint_11 hI.1.1 hI.1.r9 ?_
  refine G_iload_n dMO_isConstraint_14 rfl ?_
  refine G_zaldN dMO_isConstraint_15 hI.1.t9 hI.1.l9 (by decide) (by omega) ?_
  refine G_if_eq dMO_isConstraint_16 (fun h3 => no (fun z => z.2 (by rw [ixI_n (by omega)]; exact (mc_used hI.2.2.2.2.2.2.2.2.2.2.1 hj).mp h3))) (fun h3 => ?_)
  refine G_iconst (v := 1) dMO_isConstraint_19 (by decide) ?_
  refine G_goto dMO_isConstraint_20 ?_
  exact G_ireturn dMO_isConstraint_24 rfl (nr_z (by decide)) (by decide) (by decide) ⟨rfl, rfl, rfl, by rw [if_pos (show icM cs (nI j) from ⟨⟨h1, h2⟩, fun z => h3 ((mc_used hI.2.2.2.2.2.2.2.2.2.2.1 hj).mpr (by rw [ixI_n (by omega)] at z; exact z))⟩)]⟩
