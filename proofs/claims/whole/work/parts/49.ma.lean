abbrev rsM (nb : Nat) (par : Nat → Option Nat) (rk : Nat → Nat) (x : Int32) : Prop := isIn nb x ∧ lsM par rk (ixI x) (nb - 1) = false
theorem ra_loop {E : gE} {T : gT} {g0 : gI} {gr : gR} {m : Nat} {nb : Nat} {par : Nat → Option Nat} {kd : Nat → Int32} {hd : Nat → Bool} {li : Nat → Bool} {ct : Nat → Int32} {rk : Nat → Nat} {rks : Nat} {w : Int32} {h : Int32} {pl : Nat → Int32} {cs : Nat → Option K5} {fo : Option Nat} {pr : Option Nat} {ar : Nat → Nat → Bool} {co : Nat → Int32} {D : Nat → Bool} {F : Nat → Int32} {j : Nat} {Q : gQ} (hj : j < nb) (kx : ∀ gi : gI, MInv T gi gr m nb par kd hd li ct rk rks w h pl cs fo pr ar co (fun k => if k < 384 then D k || nwM par pl hd j k else D k) F → MOff g0 gi m → Q T gi gr (some (.int 1))) : ∀ (n z : Nat), z + n = 384 → ∀ gi : gI, MInv T gi gr m nb par kd hd li ct rk rks w h pl cs fo pr ar co (fun k => if k < z then D k || nwM par pl hd j k else D k) F → MOff g0 gi m → G E mMO_raise 46 [.ref m, .int (nI j), .int (nI z)] [] T gi gr 0 0 Q := by
  intro n
  induction n with
  | zero =>
    intro z hz gi hI hO
    have : z = 384 := by omega
    subst this
    refine G_iload_n dMO_raise_46 rfl ?_
    refine G_sipush (v := 384) dMO_raise_47 (by decide) ?_
    refine G_icmp_ge dMO_raise_50 (fun _ => ?_) (fun z => absurd (by decide +kernel) z)
    refine G_iconst (v := 1) dMO_raise_95 (by decide) ?_
    exact G_ireturn dMO_raise_96 rfl (nr_z (by decide)) (by decide) (by decide) (kx gi hI hO)
  | succ n ih =>
    intro z hz gi hI hO
    have nxt : ∀ q : Bool, q = (D z || nwM par pl hd j z) → G E mMO_raise 88 [.ref m, .int (nI j), .int (nI z)] [.int (bI q), .int (nI z), .ref (m + 21)] T gi gr 0 0 Q := by
      rintro q rfl
      refine G_zastN dMO_raise_88 hI.1.t21 hI.1.l21 (by decide) (by omega) (bI_01 _) ?_
      refine G_iinc (ls' := [.ref m, .int (nI j), .int (nI (z + 1))]) dMO_raise_89 rfl (nI_inc z) (by decide) rfl ?_
      refine G_goto dMO_raise_92 ?_
      refine ih (z + 1) (by omega) _ (hI.s21 (fun a ha => gu_off ha) (fun k hk => ?_)) (hO.gu (by omega))
      rw [gu_row]
      by_cases c : k = z
      · subst c; rw [if_pos rfl, if_pos (by omega)]
      · rw [if_neg c, hI.2.2.2.2.2.2.2.2.2.2.2.2.2.1 k hk]
        (try dsimp only)
        by_cases d : k < z
        · rw [if_pos d, if_pos (by omega)]
        · rw [if_neg d, if_neg (by omega)]
    have ed : gi (m + 21) z = bI (D z) := by
      rw [hI.2.2.2.2.2.2.2.2.2.2.2.2.2.1 z (by omega)]
      (try dsimp only)
      rw [if_neg (Nat.lt_irrefl z)]
    refine G_iload_n dMO_raise_46 rfl ?_
    refine G_sipush (v := 384) dMO_raise_47 (by decide) ?_
    refine G_icmp_ge dMO_raise_50 (fun q => absurd q (nI_ge (b := 384) (by omega) (by decide))) (fun _ => ?_)
    refine G_aload_n dMO_raise_53 rfl ?_
    refine G_getRs fMO_81 dMO_raise_54 hI.1.1 hI.1.r21 ?_
    refine G_iload_n dMO_raise_57 rfl ?_
    refine G_aload_n dMO_raise_58 rfl ?_
    refine G_getRs fMO_81 dMO_raise_59 hI.1.1 hI.1.r21 ?_
    refine G_iload_n dMO_raise_62 rfl ?_
    refine G_zaldN dMO_raise_63 hI.1.t21 hI.1.l21 (by decide) (by omega) ?_
    rw [ed]
    refine G_if_ne dMO_raise_64 (fun h1 => ?_) (fun h1 => ?_)
    · refine G_iconst (v := bI true) dMO_raise_83 (by decide) ?_
      refine G_goto dMO_raise_84 ?_
      exact nxt true (by rw [bt h1]; rfl)
    · refine G_aload_n dMO_raise_67 rfl ?_
      refine G_iload_n dMO_raise_68 rfl ?_
      refine G_iload_n dMO_raise_69 rfl ?_
      refine G_bipush (v := 24) dMO_raise_70 (by decide) ?_
      refine G_irem dMO_raise_72 (by decide) ?_
      refine G_iload_n dMO_raise_73 rfl ?_
      refine G_bipush (v := 24) dMO_raise_74 (by decide) ?_
      refine G_idiv dMO_raise_76 (by decide) ?_
      refine G_st (st' := [.int (nI (z / 24)), .int (nI (z % 24)), .int (nI j), .ref m, .int (nI z), .ref (m + 21)]) (by rw [nI_r24 (by omega), nI_d24 (by omega)]) ?_
      refine G_callV (As := [.int (nI j), .int (nI (z % 24)), .int (nI (z / 24))]) (rest := [.int (nI z), .ref (m + 21)]) gMO_raise_MO_inArea lMO_100.1 lMO_100.2.1 lMO_100.2.2.1 lMO_100.2.2.2 dMO_raise_77 rfl (Nat.le_of_ble_eq_true rfl) hI.1.1 ⟨by decide, by decide⟩ (cMO_inArea hI hj) ?_
      refine same4 ?_
      refine G_st (st' := [.int (bI (nwM par pl hd j z)), .int (nI z), .ref (m + 21)]) rfl ?_
      refine G_if_eq dMO_raise_80 (fun h2 => ?_) (fun h2 => ?_)
      · refine G_iconst (v := bI false) dMO_raise_87 (by decide) ?_
        exact nxt false (by rw [bI_z.mp h1, bI_z.mp h2]; rfl)
      · refine G_iconst (v := bI true) dMO_raise_83 (by decide) ?_
        refine G_goto dMO_raise_84 ?_
        exact nxt true (by rw [bt h2, Bool.or_true])
theorem M_raise {E : gE} {T : gT} {gi : gI} {gr : gR} {m : Nat} {nb : Nat} {par : Nat → Option Nat} {kd : Nat → Int32} {hd : Nat → Bool} {li : Nat → Bool} {ct : Nat → Int32} {rk : Nat → Nat} {rks : Nat} {w : Int32} {h : Int32} {pl : Nat → Int32} {cs : Nat → Option K5} {fo : Option Nat} {pr : Option Nat} {ar : Nat → Nat → Bool} {co : Nat → Int32} {D : Nat → Bool} {F : Nat → Int32} {x : Int32} (hI : MInv T gi gr m nb par kd hd li ct rk rks w h pl cs fo pr ar co D F) (hrk : ∀ j, j < nb → rk j < 1000000) : Ct E mMO_raise [.ref m, .int x] T gi gr (fun T' gi' gr' v => T' = T ∧ gr' = gr ∧ MOff gi gi' m ∧ (rsM nb par rk x ∧ v = some (.int 1) ∧ MInv T gi' gr m nb par kd hd li ct (gup rk (ixI x) (rks + 1)) (rks + 1) w h pl cs fo pr ar co (fun k => D k || nwM par pl hd (ixI x) k) F ∨ ¬ rsM nb par rk x ∧ v = some (.int 0) ∧ MInv T gi' gr m nb par kd hd li ct rk rks w h pl cs fo pr ar co D F)) := by
  have h6 : nb ≤ 6 := hI.2.2.1.1.2
  have v0 := hI.2.1
  generalize hQ : (fun (T' : gT) (gi' : gI) (gr' : gR) (v : Option Value) => T' = T ∧ gr' = gr ∧ MOff gi gi' m ∧ (rsM nb par rk x ∧ v = some (.int 1) ∧ MInv T gi' gr m nb par kd hd li ct (gup rk (ixI x) (rks + 1)) (rks + 1) w h pl cs fo pr ar co (fun k => D k || nwM par pl hd (ixI x) k) F ∨ ¬ rsM nb par rk x ∧ v = some (.int 0) ∧ MInv T gi' gr m nb par kd hd li ct rk rks w h pl cs fo pr ar co D F)) = QQ
  have no : ¬ isIn nb x → G E mMO_raise 12 [.ref m, .int x, .long 0] [] T gi gr 0 0 QQ := by
    intro hn
    subst hQ
    refine G_iconst (v := 0) dMO_raise_12 (by decide) ?_
    exact G_ireturn dMO_raise_13 rfl (nr_z (by decide)) (by decide) (by decide) ⟨rfl, rfl, MOff.rf, Or.inr ⟨fun z => hn z.1, rfl, hI⟩⟩
  refine Ct_of (ls := [.ref m, .int x, .long 0]) (by decide) (gcat_cons rfl (gcat_cons rfl gcat_nil)) (Nat.le_of_ble_eq_true rfl) rfl ?_
  refine G_aload_n dMO_raise_0 rfl ?_
  refine G_iload_n dMO_raise_1 rfl ?_
  refine G_callV (As := [.int x]) (rest := []) gMO_raise_MO_isBox lMO_153.1 lMO_153.2.1 lMO_153.2.2.1 lMO_153.2.2.2 dMO_raise_2 rfl (Nat.le_of_ble_eq_true rfl) hI.1.1 ⟨by decide, by decide⟩ (cMO_isBox hI) ?_
  refine same4 ?_
  refine G_st (st' := [.int (if isBx nb x then 1 else 0)]) rfl ?_
  refine G_if_eq dMO_raise_5 (fun h1 => no (fun z => (if01.mp h1) (isIn_iff.mp z).1)) (fun h1 => ?_)
  refine G_iload_n dMO_raise_8 rfl ?_
  refine G_if_ne dMO_raise_9 (fun h2 => ?_) (fun h2 => no (fun z => (isIn_iff.mp z).2 h2))
  have hin : isIn nb x := isIn_iff.mpr ⟨by by_cases c : isBx nb x; exact c; exact absurd (if01.mpr c) h1, h2⟩
  obtain ⟨j, hj0, hj, rfl⟩ := isIn_of h6 hin
  refine G_aload_n dMO_raise_14 rfl ?_
  refine G_iload_n dMO_raise_15 rfl ?_
  refine G_callV (As := [.int (nI j)]) (rest := []) gMO_raise_MO_isLast lMO_169.1 lMO_169.2.1 lMO_169.2.2.1 lMO_169.2.2.2 dMO_raise_16 rfl (Nat.le_of_ble_eq_true rfl) hI.1.1 ⟨by decide, by decide⟩ (cMO_isLast hI hrk hj) ?_
  refine same4 ?_
  refine G_st (st' := [.int (bI (lsM par rk j (nb - 1)))]) rfl ?_
  refine G_if_eq dMO_raise_19 (fun h3 => ?_) (fun h3 => ?_)
  · refine G_aload_n dMO_raise_24 rfl ?_
    refine G_dup dMO_raise_25 rfl ?_
    refine G_getI fMO_156 dMO_raise_26 hI.1.1 ?_
    rw [v0.2.1]
    refine G_iconst (v := 1) dMO_raise_29 (by decide) ?_
    refine G_iadd dMO_raise_30 ?_
    rw [nI_1]
    refine G_putI wMO_156 (Or.inl rfl) dMO_raise_31 hI.1.1 rfl rfl ?_
    have hI2 := hI.s0 (gi' := gu gi m 7 (nI (rks + 1))) (rks' := rks + 1) (w' := w) (h' := h) (fo' := fo) (pr' := pr) (fun a ha => gu_off ha) ⟨by rw [gu_ne (by omega)]; exact v0.1, gu_same, by rw [gu_ne (by omega)]; exact v0.2.2.1, by rw [gu_ne (by omega)]; exact v0.2.2.2.1, by rw [gu_ne (by omega)]; exact v0.2.2.2.2.1, by rw [gu_ne (by omega)]; exact v0.2.2.2.2.2⟩ hI.2.2.1.2.2.1 hI.2.2.1.2.2.2
    have hO2 : MOff gi (gu gi m 7 (nI (rks + 1))) m := MOff.rf.gu (by omega)
    generalize gu gi m 7 (nI (rks + 1)) = g2 at hI2 hO2 ⊢
    refine G_aload_n dMO_raise_34 rfl ?_
    refine G_getRs fMO_30 dMO_raise_35 hI.1.1 hI.1.r6 ?_
    refine G_iload_n dMO_raise_38 rfl ?_
    refine G_aload_n dMO_raise_39 rfl ?_
    refine G_getI fMO_156 dMO_raise_40 hI.1.1 ?_
    rw [hI2.2.1.2.1]
    refine G_iastN dMO_raise_43 hI.1.t6 hI.1.l6 (by decide) (by omega) ?_
    have hI3 := hI2.s6 (gi' := gu g2 (m + 6) j (nI (rks + 1))) (rk' := gup rk j (rks + 1)) (fun a ha => gu_off ha) (fun k hk => gu_bN (hI2.2.2.2.2.2.2.2.2.1 k hk))
    have hO3 : MOff gi (gu g2 (m + 6) j (nI (rks + 1))) m := hO2.gu (by omega)
    generalize gu g2 (m + 6) j (nI (rks + 1)) = g3 at hI3 hO3 ⊢
    refine G_iconst (v := nI 0) dMO_raise_44 (by decide +kernel) ?_
    refine G_istore_n (ls' := [.ref m, .int (nI j), .int (nI 0)]) dMO_raise_45 (by decide) rfl ?_
    refine ra_loop (par := par) (kd := kd) (hd := hd) (li := li) (ct := ct) (rk := gup rk j (rks + 1)) (rks := rks + 1) (w := w) (h := h) (pl := pl) (cs := cs) (fo := fo) (pr := pr) (ar := ar) (co := co) (D := D) (F := F) (g0 := gi) hj (fun g4 hI4 hO4 => ?_) 384 0 rfl g3 ?_ hO3
    · subst hQ
      refine ⟨rfl, rfl, hO4, Or.inl ⟨⟨hin, by rw [ixI_n (by omega)]; exact bI_z.mp h3⟩, rfl, ?_⟩⟩
      rw [ixI_n (by omega)]
      exact hI4.eq (fun _ _ _ _ => rfl) (fun z hz => by (try dsimp only); rw [if_pos hz])
    · exact hI3.eq (fun _ _ _ _ => rfl) (fun z hz => by (try dsimp only); rw [if_neg (by omega)])
  · refine G_iconst (v := 0) dMO_raise_22 (by decide) ?_
    subst hQ
    exact G_ireturn dMO_raise_23 rfl (nr_z (by decide)) (by decide) (by decide) ⟨rfl, rfl, MOff.rf, Or.inr ⟨(fun z => by have := z.2; rw [ixI_n (by omega), bt h3] at this; cases this), rfl, hI⟩⟩
theorem M_box {E : gE} {T : gT} {gi : gI} {gr : gR} {m : Nat} {nb : Nat} {par : Nat → Option Nat} {kd : Nat → Int32} {hd : Nat → Bool} {li : Nat → Bool} {ct : Nat → Int32} {rk : Nat → Nat} {rks : Nat} {w : Int32} {h : Int32} {pl : Nat → Int32} {cs : Nat → Option K5} {fo : Option Nat} {pr : Option Nat} {ar : Nat → Nat → Bool} {co : Nat → Int32} {D : Nat → Bool} {F : Nat → Int32} {kd0 p : Int32} (hI : MInv T gi gr m nb par kd hd li ct rk rks w h pl cs fo pr ar co D F) : Ct E mMO_box [.ref m, .int kd0, .int p] T gi gr (fun T' gi' gr' v => T' = T ∧ gr' = gr ∧ MOff gi gi' m ∧ (bxC nb kd0 p ∧ v = some (.int (nI nb)) ∧ MInv T gi' gr m (nb + 1) (gup par nb (some (ixI p))) (gup kd nb kd0) hd li ct (gup rk nb (rks + 1)) (rks + 1) w h pl cs (atM (gup par nb (some (ixI p))) pl hd (gup kd nb kd0) fo) (atM (gup par nb (some (ixI p))) pl hd (gup kd nb kd0) pr) (lookS (nb + 1) (gup par nb (some (ixI p))) (gup kd nb kd0) hd li pl fo pr ar (gup co nb (nI (nb + 1))) D).1 (lookS (nb + 1) (gup par nb (some (ixI p))) (gup kd nb kd0) hd li pl fo pr ar (gup co nb (nI (nb + 1))) D).2.1 (lookS (nb + 1) (gup par nb (some (ixI p))) (gup kd nb kd0) hd li pl fo pr ar (gup co nb (nI (nb + 1))) D).2.2 F ∨ ¬ bxC nb kd0 p ∧ v = some (.int (-1)) ∧ MInv T gi' gr m nb par kd hd li ct rk rks w h pl cs fo pr ar co D F)) := by
  have h6 : nb ≤ 6 := hI.2.2.1.1.2
  have v0 := hI.2.1
  generalize hQ : (fun (T' : gT) (gi' : gI) (gr' : gR) (v : Option Value) => T' = T ∧ gr' = gr ∧ MOff gi gi' m ∧ (bxC nb kd0 p ∧ v = some (.int (nI nb)) ∧ MInv T gi' gr m (nb + 1) (gup par nb (some (ixI p))) (gup kd nb kd0) hd li ct (gup rk nb (rks + 1)) (rks + 1) w h pl cs (atM (gup par nb (some (ixI p))) pl hd (gup kd nb kd0) fo) (atM (gup par nb (some (ixI p))) pl hd (gup kd nb kd0) pr) (lookS (nb + 1) (gup par nb (some (ixI p))) (gup kd nb kd0) hd li pl fo pr ar (gup co nb (nI (nb + 1))) D).1 (lookS (nb + 1) (gup par nb (some (ixI p))) (gup kd nb kd0) hd li pl fo pr ar (gup co nb (nI (nb + 1))) D).2.1 (lookS (nb + 1) (gup par nb (some (ixI p))) (gup kd nb kd0) hd li pl fo pr ar (gup co nb (nI (nb + 1))) D).2.2 F ∨ ¬ bxC nb kd0 p ∧ v = some (.int (-1)) ∧ MInv T gi' gr m nb par kd hd li ct rk rks w h pl cs fo pr ar co D F)) = QQ
  have no : ¬ bxC nb kd0 p → G E mMO_box 26 [.ref m, .int kd0, .int p] [] T gi gr 0 0 QQ := by
    intro hn
    subst hQ
    refine G_iconst (v := -1) dMO_box_26 (by decide) ?_
    exact G_ireturn dMO_box_27 rfl rfl (by decide) (by decide) ⟨rfl, rfl, MOff.rf, Or.inr ⟨hn, rfl, hI⟩⟩
  refine Ct_of (ls := [.ref m, .int kd0, .int p]) (by decide) (gcat_cons rfl (gcat_cons rfl (gcat_cons rfl gcat_nil))) (Nat.le_of_ble_eq_true rfl) rfl ?_
  refine G_aload_n dMO_box_0 rfl ?_
  refine G_getI fMO_7 dMO_box_1 hI.1.1 ?_
  rw [v0.1]
  refine G_bipush (v := nI 6) dMO_box_4 (by decide +kernel) ?_
  refine G_icmp_eq dMO_box_6 (fun h1 => no (fun z => by have := (nI_eq (by omega) (by decide)).mp h1; have := z.1; omega)) (fun h1 => ?_)
  have hnb : nb < 6 := by
    rcases Nat.lt_or_ge nb 6 with c | c
    · exact c
    · exact absurd (show nI nb = nI 6 by rw [show nb = 6 by omega]) h1
  refine G_iload_n dMO_box_9 rfl ?_
  refine G_if_lt dMO_box_10 (fun h2 => no (fun z => z.2.1 h2)) (fun h2 => ?_)
  refine G_iload_n dMO_box_13 rfl ?_
  refine G_iconst (v := 2) dMO_box_14 (by decide) ?_
  refine G_icmp_gt dMO_box_15 (fun h3 => no (fun z => z.2.2.1 h3)) (fun h3 => ?_)
  refine G_aload_n dMO_box_18 rfl ?_
  refine G_iload_n dMO_box_19 rfl ?_
  refine G_callV (As := [.int p]) (rest := []) gMO_box_MO_isBox lMO_153.1 lMO_153.2.1 lMO_153.2.2.1 lMO_153.2.2.2 dMO_box_20 rfl (Nat.le_of_ble_eq_true rfl) hI.1.1 ⟨by decide, by decide⟩ (cMO_isBox hI) ?_
  refine same4 ?_
  refine G_st (st' := [.int (if isBx nb p then 1 else 0)]) rfl ?_
  refine G_if_ne dMO_box_23 (fun h4 => ?_) (fun h4 => no (fun z => (if01.mp h4) z.2.2.2))
  have hb : isBx nb p := by by_cases c : isBx nb p; exact c; exact absurd (if01.mpr c) h4
  have hcc : bxC nb kd0 p := ⟨hnb, h2, h3, hb⟩
  obtain ⟨j, hj, rfl⟩ := isBx_of h6 hb
  refine G_aload_n dMO_box_28 rfl ?_
  refine G_getRs fMO_13 dMO_box_29 hI.1.1 hI.1.r1 ?_
  refine G_aload_n dMO_box_32 rfl ?_
  refine G_getI fMO_7 dMO_box_33 hI.1.1 ?_
  rw [v0.1]
  refine G_iload_n dMO_box_36 rfl ?_
  refine G_iastN dMO_box_37 hI.1.t1 hI.1.l1 (by decide) hnb ?_
  have hI1 := hI.s1 (gi' := gu gi (m + 1) nb kd0) (kd' := gup kd nb kd0) (fun a ha => gu_off ha) (fun k hk => gu_b (hI.2.2.2.1 k hk))
  have hO1 : MOff gi (gu gi (m + 1) nb kd0) m := MOff.rf.gu (by omega)
  generalize gu gi (m + 1) nb kd0 = g1 at hI1 hO1 ⊢
  refine G_aload_n dMO_box_38 rfl ?_
  refine G_getRs fMO_17 dMO_box_39 hI.1.1 hI.1.r2 ?_
  refine G_aload_n dMO_box_42 rfl ?_
  refine G_getI fMO_7 dMO_box_43 hI.1.1 ?_
  rw [hI1.2.1.1]
  refine G_iload_n dMO_box_46 rfl ?_
  refine G_iastN dMO_box_47 hI.1.t2 hI.1.l2 (by decide) hnb ?_
  have hO2 : MOff gi (gu g1 (m + 2) nb (nI j)) m := hO1.gu (by omega)
  have o2 : ∀ a, a ≠ m + 2 → gu g1 (m + 2) nb (nI j) a = g1 a := fun a ha => gu_off ha
  have r2 : ∀ k, gu g1 (m + 2) nb (nI j) (m + 2) k = if k = nb then nI j else g1 (m + 2) k := fun k => gu_row k
  generalize gu g1 (m + 2) nb (nI j) = g2 at hO2 o2 r2 ⊢
  refine G_aload_n dMO_box_48 rfl ?_
  refine G_dup dMO_box_49 rfl ?_
  refine G_getI fMO_156 dMO_box_50 hI.1.1 ?_
  rw [o2 m (by omega), hI1.2.1.2.1]
  refine G_iconst (v := 1) dMO_box_53 (by decide) ?_
  refine G_iadd dMO_box_54 ?_
  rw [nI_1]
  refine G_putI wMO_156 (Or.inl rfl) dMO_box_55 hI.1.1 rfl rfl ?_
  refine G_aload_n dMO_box_58 rfl ?_
  refine G_getRs fMO_30 dMO_box_59 hI.1.1 hI.1.r6 ?_
  refine G_aload_n dMO_box_62 rfl ?_
  refine G_getI fMO_7 dMO_box_63 hI.1.1 ?_
  rw [gu_ne (Or.inr (by decide)), o2 m (by omega), hI1.2.1.1]
  refine G_aload_n dMO_box_66 rfl ?_
  refine G_getI fMO_156 dMO_box_67 hI.1.1 ?_
  rw [gu_same]
  refine G_iastN dMO_box_70 hI.1.t6 hI.1.l6 (by decide) hnb ?_
  refine G_aload_n dMO_box_71 rfl ?_
  refine G_dup dMO_box_72 rfl ?_
  refine G_getI fMO_7 dMO_box_73 hI.1.1 ?_
  rw [gu_ne (Or.inl (by omega)), gu_ne (Or.inr (by decide)), o2 m (by omega), hI1.2.1.1]
  refine G_iconst (v := 1) dMO_box_76 (by decide) ?_
  refine G_iadd dMO_box_77 ?_
  rw [nI_1]
  refine G_putI wMO_7 (Or.inl rfl) dMO_box_78 hI.1.1 rfl rfl ?_
  refine G_aload_n dMO_box_81 rfl ?_
  refine G_getRs fMO_78 dMO_box_82 hI.1.1 hI.1.r20 ?_
  refine G_aload_n dMO_box_85 rfl ?_
  refine G_getI fMO_7 dMO_box_86 hI.1.1 ?_
  rw [gu_same]
  refine G_iconst (v := 1) dMO_box_89 (by decide) ?_
  refine G_isub dMO_box_90 ?_
  rw [nI_m1]
  refine G_aload_n dMO_box_91 rfl ?_
  refine G_getI fMO_7 dMO_box_92 hI.1.1 ?_
  rw [gu_same]
  refine G_iastN dMO_box_95 hI.1.t20 hI.1.l20 (by decide) hnb ?_
  have hO3 : MOff gi (gu (gu (gu (gu g2 m 7 (nI (rks + 1))) (m + 6) nb (nI (rks + 1))) m 0 (nI (nb + 1))) (m + 20) nb (nI (nb + 1))) m := MOff.gu (MOff.gu (MOff.gu (MOff.gu hO2 (by omega)) (by omega)) (by omega)) (by omega)
  have oA : ∀ a, a ≠ m → a ≠ m + 6 → a ≠ m + 20 → gu (gu (gu (gu g2 m 7 (nI (rks + 1))) (m + 6) nb (nI (rks + 1))) m 0 (nI (nb + 1))) (m + 20) nb (nI (nb + 1)) a = g2 a := fun a e1 e2 e3 => by rw [gu_off e3, gu_off e1, gu_off e2, gu_off e1]
  have o0 : ∀ k, gu (gu (gu (gu g2 m 7 (nI (rks + 1))) (m + 6) nb (nI (rks + 1))) m 0 (nI (nb + 1))) (m + 20) nb (nI (nb + 1)) m k = if k = 0 then nI (nb + 1) else if k = 7 then nI (rks + 1) else g2 m k := fun k => by rw [gu_off (by omega), gu_row, gu_off (by omega), gu_row]
  have o6 : ∀ k, gu (gu (gu (gu g2 m 7 (nI (rks + 1))) (m + 6) nb (nI (rks + 1))) m 0 (nI (nb + 1))) (m + 20) nb (nI (nb + 1)) (m + 6) k = if k = nb then nI (rks + 1) else g2 (m + 6) k := fun k => by rw [gu_off (by omega), gu_off (by omega), gu_row, gu_off (by omega)]
  have o20 : ∀ k, gu (gu (gu (gu g2 m 7 (nI (rks + 1))) (m + 6) nb (nI (rks + 1))) m 0 (nI (nb + 1))) (m + 20) nb (nI (nb + 1)) (m + 20) k = if k = nb then nI (nb + 1) else g2 (m + 20) k := fun k => by rw [gu_row, gu_off (by omega), gu_off (by omega), gu_off (by omega)]
  generalize gu (gu (gu (gu g2 m 7 (nI (rks + 1))) (m + 6) nb (nI (rks + 1))) m 0 (nI (nb + 1))) (m + 20) nb (nI (nb + 1)) = g3 at hO3 oA o0 o6 o20 ⊢
  have hI3 : MInv T g3 gr m (nb + 1) (gup par nb (some j)) (gup kd nb kd0) hd li ct (gup rk nb (rks + 1)) (rks + 1) w h pl cs fo pr ar (gup co nb (nI (nb + 1))) D F := by
    have oB : ∀ a, a ≠ m → a ≠ m + 2 → a ≠ m + 6 → a ≠ m + 20 → g3 a = g1 a := fun a e1 e2 e3 e4 => (oA a e1 e3 e4).trans (o2 a e2)
    obtain ⟨hk, v0, tr, v1, v2, v3, v4, v5, v6, v7, vc, v19, v20, v21, v22⟩ := hI1
    refine ⟨hk, ⟨?_, ?_, ?_, ?_, ?_, ?_⟩, ⟨⟨by omega, by omega⟩, fun i q hi hq => ?_, fun i hi => by have := tr.2.2.1 i hi; omega, fun i hi => by have := tr.2.2.2 i hi; omega⟩, fun k hk => ?_, fun k hk => ?_, fun k hk => ?_, fun k hk => ?_, fun k hk => ?_, fun k hk => ?_, fun k hk => ?_, vc.rows (fun k h1 h2 => oB _ (by omega) (by omega) (by omega) (by omega)), fun b z hb hz => ?_, fun k hk => ?_, fun k hk => ?_, fun k hk => ?_⟩
    · rw [o0, if_pos rfl]
    · rw [o0, if_neg (by decide), if_pos rfl]
    · rw [o0, if_neg (by decide), if_neg (by decide), o2 m (by omega)]; exact v0.2.2.1
    · rw [o0, if_neg (by decide), if_neg (by decide), o2 m (by omega)]; exact v0.2.2.2.1
    · rw [o0, if_neg (by decide), if_neg (by decide), o2 m (by omega)]; exact v0.2.2.2.2.1
    · rw [o0, if_neg (by decide), if_neg (by decide), o2 m (by omega)]; exact v0.2.2.2.2.2
    · by_cases c : i = nb
      · subst c; rw [gup_same] at hq; cases hq; exact hj
      · rw [gup_ne c] at hq; exact tr.2.1 i q (by omega) hq
    · rw [oB _ (by omega) (by omega) (by omega) (by omega)]; exact v1 k hk
    · rw [oA _ (by omega) (by omega) (by omega), r2]
      by_cases c : k = nb
      · subst c; rw [if_pos rfl, gup_same]; rfl
      · rw [if_neg c, gup_ne c]; exact v2 k (by omega)
    · rw [oB _ (by omega) (by omega) (by omega) (by omega)]; exact v3 k hk
    · rw [oB _ (by omega) (by omega) (by omega) (by omega)]; exact v4 k hk
    · rw [oB _ (by omega) (by omega) (by omega) (by omega)]; exact v5 k hk
    · rw [o6]
      by_cases c : k = nb
      · subst c; rw [if_pos rfl, gup_same]
      · rw [if_neg c, gup_ne c, o2 _ (by omega)]; exact v6 k hk
    · rw [oB _ (by omega) (by omega) (by omega) (by omega)]; exact v7 k hk
    · rw [oB _ (by omega) (by omega) (by omega) (by omega)]; exact v19 b z hb hz
    · rw [o20]
      by_cases c : k = nb
      · subst c; rw [if_pos rfl, gup_same]
      · rw [if_neg c, gup_ne c, o2 _ (by omega)]; exact v20 k hk
    · rw [oB _ (by omega) (by omega) (by omega) (by omega)]; exact v21 k hk
    · rw [oB _ (by omega) (by omega) (by omega) (by omega)]; exact v22 k hk
  refine G_aload_n dMO_box_96 rfl ?_
  refine G_callV (As := []) (rest := []) gMO_box_MO_look lMO_93.1 lMO_93.2.1 lMO_93.2.2.1 lMO_93.2.2.2 dMO_box_97 rfl (Nat.le_of_ble_eq_true rfl) hI.1.1 ⟨by decide, by decide⟩ (cMO_look hI3) ?_
  rintro T9 g9 r9 _ ⟨e8, e9, rfl, hO9, hI9⟩
  cases e8.symm
  cases e9.symm
  refine G_st (st' := []) rfl ?_
  refine G_aload_n dMO_box_100 rfl ?_
  refine G_getI fMO_7 dMO_box_101 hI.1.1 ?_
  rw [hI9.2.1.1]
  refine G_iconst (v := 1) dMO_box_104 (by decide) ?_
  refine G_isub dMO_box_105 ?_
  rw [nI_m1]
  subst hQ
  exact G_ireturn dMO_box_106 rfl rfl (by decide) (by decide) ⟨rfl, rfl, hO3.tr hO9, Or.inl ⟨hcc, rfl, by rw [ixI_n (by omega)]; exact hI9⟩⟩
