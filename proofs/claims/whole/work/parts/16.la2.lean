theorem da_box {E : gE} {T : gT} {g0 : gI} {gr : gR} {la nb : Nat} {w h : Int32} {S : S2} {Q : gQ} (hL : LaOk T gr la) (hI : LaIs g0 la nb w h) (hnb : nb ≤ 6) (hK : ∀ b, b < nb → dbK S (4 * nb) b) (kx : ∀ gi : gI, BdIs gi (la + 3) (dbP S (4 * nb) nb).1 (dbP S (4 * nb) nb).2 (4 * nb) → BdOff g0 gi (la + 3) → G E mLA_demandAll 91 [.ref la, .int (nI (4 * nb))] [] T gi gr 0 0 Q) : ∀ (n b : Nat), b + n = nb → ∀ gi : gI, BdIs gi (la + 3) (dbP S (4 * nb) b).1 (dbP S (4 * nb) b).2 (4 * nb) → BdOff g0 gi (la + 3) → G E mLA_demandAll 49 [.ref la, .int (nI (4 * b))] [] T gi gr 0 0 Q := by
  have hB : BdOk T gr (la + 3) := hL.2.2.2.2.2.2.2.2
  intro n
  induction n with
  | zero =>
    intro b hb gi hS hO
    have hb : b = nb := by omega
    subst hb
    refine G_iload_n dLA_demandAll_49 rfl ?_
    refine G_aload_n dLA_demandAll_50 rfl ?_
    refine G_getI fLA_35 dLA_demandAll_51 hL.1 ?_
    rw [(hI.off hO).1]
    refine G_icmp_ge dLA_demandAll_54 (fun h1 => kx gi hS hO) (fun h1 => ?_)
    exact absurd (nI_le (by omega) (by omega)) h1
  | succ n ih =>
    intro b hbn gi hS hO
    have hk := hK b (by omega)
    refine G_iload_n dLA_demandAll_49 rfl ?_
    refine G_aload_n dLA_demandAll_50 rfl ?_
    refine G_getI fLA_35 dLA_demandAll_51 hL.1 ?_
    rw [(hI.off hO).1]
    refine G_icmp_ge dLA_demandAll_54 (fun h1 => ?_) (fun h1 => ?_)
    · exact absurd h1 (nI_ge (by omega) (by omega))
    · refine G_aload_n dLA_demandAll_57 rfl ?_
      refine G_getRs fLA_24 dLA_demandAll_58 hL.1 hL.2.2.2.1 ?_
      refine G_iload_n dLA_demandAll_61 rfl ?_
      refine G_iconst (v := 1) dLA_demandAll_62 (by decide) ?_
      refine G_iadd dLA_demandAll_63 ?_
      rw [nI_p1]
      refine G_iload_n dLA_demandAll_64 rfl ?_
      refine G_iconst (v := 0) dLA_demandAll_65 (by decide) ?_
      refine G_iadd dLA_demandAll_66 ?_
      rw [nI_p0]
      refine G_iconst (v := 0) dLA_demandAll_67 (by decide) ?_
      refine G_callV (As := [.int (nI (4 * b + 1)), .int (nI (4 * b)), .int 0]) (rest := []) gLA_demandAll_BD_keepAtLeast lLA_71.1 lLA_71.2.1 lLA_71.2.2.1 lLA_71.2.2.2 dLA_demandAll_68 rfl (Nat.le_of_ble_eq_true rfl) hB.1 ⟨by decide, by decide⟩ (pBD_kal (S := dbP S (4 * nb) b) (p := 4 * b + 1) (q := 4 * b) hB hS (by omega) (by omega) (by omega) hk.1) ?_
      rintro _ g1 _ _ ⟨rfl, rfl, rfl, hS1, hO1⟩
      refine G_st (st' := []) rfl ?_
      refine G_aload_n dLA_demandAll_71 rfl ?_
      refine G_getRs fLA_24 dLA_demandAll_72 hL.1 hL.2.2.2.1 ?_
      refine G_iload_n dLA_demandAll_75 rfl ?_
      refine G_iconst (v := 3) dLA_demandAll_76 (by decide) ?_
      refine G_iadd dLA_demandAll_77 ?_
      rw [nI_p3]
      refine G_iload_n dLA_demandAll_78 rfl ?_
      refine G_iconst (v := 2) dLA_demandAll_79 (by decide) ?_
      refine G_iadd dLA_demandAll_80 ?_
      rw [nI_p2]
      refine G_iconst (v := 0) dLA_demandAll_81 (by decide) ?_
      refine G_callV (As := [.int (nI (4 * b + 3)), .int (nI (4 * b + 2)), .int 0]) (rest := []) gLA_demandAll_BD_keepAtLeast lLA_71.1 lLA_71.2.1 lLA_71.2.2.1 lLA_71.2.2.2 dLA_demandAll_82 rfl (Nat.le_of_ble_eq_true rfl) hB.1 ⟨by decide, by decide⟩ (pBD_kal (S := kamP (dbP S (4 * nb) b) (4 * b) (4 * b + 1) (-0) (4 * nb)) (p := 4 * b + 3) (q := 4 * b + 2) hB hS1 (by omega) (by omega) (by omega) hk.2) ?_
      rintro _ g2 _ _ ⟨rfl, rfl, rfl, hS2, hO2⟩
      refine G_st (st' := []) rfl ?_
      refine G_iinc (ls' := [.ref la, .int (nI (4 * (b + 1)))]) dLA_demandAll_85 rfl (nI_inc4 b) (by decide) rfl ?_
      refine G_goto dLA_demandAll_88 ?_
      exact ih (b + 1) (by omega) g2 hS2 (hO.tr (hO1.tr hO2))
theorem da_con {E : gE} {T : gT} {g0 : gI} {gr : gR} {la nb : Nat} {cs : Nat → Option K5} {cx : Nat → Nat} {S : S2} {Q : gQ} (hL : LaOk T gr la) (hC0 : CsIs T g0 gr la cs cx) (hnb : nb ≤ 6) (hK : ∀ i κ, i < 16 → cs i = some κ → κ.2.2.2.2 = 0 → demK (dcP S cs (4 * nb) i).1 κ (4 * nb)) (kx : ∀ gi : gI, BdIs gi (la + 3) (dcP S cs (4 * nb) 16).1 (dcP S cs (4 * nb) 16).2 (4 * nb) → BdOff g0 gi (la + 3) → Q T gi gr none) : ∀ (n i : Nat), i + n = 16 → ∀ gi : gI, BdIs gi (la + 3) (dcP S cs (4 * nb) i).1 (dcP S cs (4 * nb) i).2 (4 * nb) → BdOff g0 gi (la + 3) → G E mLA_demandAll 93 [.ref la, .int (nI i)] [] T gi gr 0 0 Q := by
  have hB : BdOk T gr (la + 3) := hL.2.2.2.2.2.2.2.2
  intro n
  induction n with
  | zero =>
    intro i hi gi hS hO
    have hi : i = 16 := by omega
    subst hi
    refine G_iload_n dLA_demandAll_93 rfl ?_
    refine G_bipush (v := 16) dLA_demandAll_94 (by decide) ?_
    refine G_icmp_ge dLA_demandAll_96 (fun h1 => ?_) (fun h1 => ?_)
    · exact G_return dLA_demandAll_139 rfl (by decide) (by decide) (kx gi hS hO)
    · exact absurd (nI_le (a := 16) (b := 16) (by omega) (by decide)) h1
  | succ n ih =>
    intro i hin gi hS hO
    have hC : CsIs T gi gr la cs cx := hC0.off hO.la
    cases hcs : cs i with
    | none =>
      refine G_iload_n dLA_demandAll_93 rfl ?_
      refine G_bipush (v := 16) dLA_demandAll_94 (by decide) ?_
      refine G_icmp_ge dLA_demandAll_96 (fun h1 => ?_) (fun h1 => ?_)
      · exact absurd h1 (nI_ge (a := i) (b := 16) (by omega) (by decide))
      · refine G_aload_n dLA_demandAll_99 rfl ?_
        refine G_getRs fLA_17 dLA_demandAll_100 hL.1 hL.2.2.1 ?_
        refine G_iload_n dLA_demandAll_103 rfl ?_
        refine G_aaldN 3 dLA_demandAll_104 (by decide) hL.2.2.2.2.2.2.1 hL.2.2.2.2.2.2.2.1 (by decide) (by omega) ?_
        rw [((hC i (by omega)).1 hcs)]
        refine G_st (st' := [.null]) rfl ?_
        refine G_ifnullN dLA_demandAll_105 ?_
        refine G_iinc (ls' := [.ref la, .int (nI (i + 1))]) dLA_demandAll_133 rfl (nI_inc i) (by decide) rfl ?_
        refine G_goto dLA_demandAll_136 ?_
        exact ih (i + 1) (by omega) gi (by unfold dcP; rw [hcs]; exact hS) hO
    | some κ =>
      have hci := (hC i (by omega)).2 κ hcs
      refine G_iload_n dLA_demandAll_93 rfl ?_
      refine G_bipush (v := 16) dLA_demandAll_94 (by decide) ?_
      refine G_icmp_ge dLA_demandAll_96 (fun h1 => ?_) (fun h1 => ?_)
      · exact absurd h1 (nI_ge (a := i) (b := 16) (by omega) (by decide))
      · refine G_aload_n dLA_demandAll_99 rfl ?_
        refine G_getRs fLA_17 dLA_demandAll_100 hL.1 hL.2.2.1 ?_
        refine G_iload_n dLA_demandAll_103 rfl ?_
        refine G_aaldsN 3 dLA_demandAll_104 (by decide) hL.2.2.2.2.2.2.1 hL.2.2.2.2.2.2.2.1 (by decide) (by omega) hci.1 ?_
        refine G_ifnull dLA_demandAll_105 ?_
        refine G_aload_n dLA_demandAll_108 rfl ?_
        refine G_getRs fLA_17 dLA_demandAll_109 hL.1 hL.2.2.1 ?_
        refine G_iload_n dLA_demandAll_112 rfl ?_
        refine G_aaldsN 3 dLA_demandAll_113 (by decide) hL.2.2.2.2.2.2.1 hL.2.2.2.2.2.2.2.1 (by decide) (by omega) hci.1 ?_
        refine G_getI fLA_74 dLA_demandAll_114 hci.2.1 ?_
        rw [hci.2.2.1.1]
        refine G_if_ne dLA_demandAll_117 (fun h2 => ?_) (fun h2 => ?_)
        · refine G_iinc (ls' := [.ref la, .int (nI (i + 1))]) dLA_demandAll_133 rfl (nI_inc i) (by decide) rfl ?_
          refine G_goto dLA_demandAll_136 ?_
          exact ih (i + 1) (by omega) gi (by unfold dcP; rw [hcs]; simp only [if_neg (fun q => h2 ((nI_z (by have := hci.2.2.2.1.2.2.2; omega)).mpr q))]; exact hS) hO
        · refine G_aload_n dLA_demandAll_120 rfl ?_
          refine G_getRs fLA_17 dLA_demandAll_121 hL.1 hL.2.2.1 ?_
          refine G_iload_n dLA_demandAll_124 rfl ?_
          refine G_aaldsN 3 dLA_demandAll_125 (by decide) hL.2.2.2.2.2.2.1 hL.2.2.2.2.2.2.2.1 (by decide) (by omega) hci.1 ?_
          refine G_aload_n dLA_demandAll_126 rfl ?_
          refine G_getRs fLA_24 dLA_demandAll_127 hL.1 hL.2.2.2.1 ?_
          refine G_callV (As := [.ref (la + 3)]) (rest := []) gLA_demandAll_CN_demandIn lLA_77.1 lLA_77.2.1 lLA_77.2.2.1 lLA_77.2.2.2 dLA_demandAll_130 rfl (Nat.le_of_ble_eq_true rfl) hci.2.1 ⟨by decide, by decide⟩ (pCN_demandIn (S := dcP S cs (4 * nb) i) hci.2.1 hci.2.2.1 hci.2.2.2.1 hB hS (by omega) (hK i κ (by omega) hcs ((nI_z (by have := hci.2.2.2.1.2.2.2; omega)).mp h2))) ?_
          rintro _ g1 _ _ ⟨rfl, rfl, rfl, hS1, hO1⟩
          refine G_st (st' := []) rfl ?_
          refine G_iinc (ls' := [.ref la, .int (nI (i + 1))]) dLA_demandAll_133 rfl (nI_inc i) (by decide) rfl ?_
          refine G_goto dLA_demandAll_136 ?_
          exact ih (i + 1) (by omega) g1 (by unfold dcP; rw [hcs]; simp only [if_pos ((nI_z (by have := hci.2.2.2.1.2.2.2; omega)).mp h2)]; exact hS1) (hO.tr hO1)
theorem cLA_demandAll {E : gE} {T : gT} {gi : gI} {gr : gR} {la nb ec0 : Nat} {w h cf : Int32} {R : Nat → Nat → Int32} {cs : Nat → Option K5} {cx : Nat → Nat} (hL : LaOk T gr la) (hI : LaIs gi la nb w h) (hC : CsIs T gi gr la cs cx) (hS : BdIs gi (la + 3) R cf ec0) (hnb : nb ≤ 6) (hK : daK R w h nb cs) : Ct E mLA_demandAll [.ref la] T gi gr (fun T' gi' gr' v => T' = T ∧ gr' = gr ∧ v = none ∧ BdIs gi' (la + 3) (daP R w h nb cs).1 (daP R w h nb cs).2 (4 * nb) ∧ BdOff gi gi' (la + 3)) := by
  have hB : BdOk T gr (la + 3) := hL.2.2.2.2.2.2.2.2
  refine Ct_of (ls := [.ref la, .long 0]) (by decide) (gcat_cons rfl gcat_nil) (Nat.le_of_ble_eq_true rfl) rfl ?_
  refine G_aload_n dLA_demandAll_0 rfl ?_
  refine G_getRs fLA_24 dLA_demandAll_1 hL.1 hL.2.2.2.1 ?_
  refine G_aload_n dLA_demandAll_4 rfl ?_
  refine G_getI fLA_35 dLA_demandAll_5 hL.1 ?_
  rw [hI.1]
  refine G_callV (As := [.int (nI (4 * nb))]) (rest := []) gLA_demandAll_BD_open lLA_63.1 lLA_63.2.1 lLA_63.2.2.1 lLA_63.2.2.2 dLA_demandAll_8 rfl (Nat.le_of_ble_eq_true rfl) hB.1 ⟨by decide, by decide⟩ (pBD_open hB hS (by omega)) ?_
  rintro _ g1 _ _ ⟨rfl, rfl, rfl, hS1, hO1⟩
  refine G_st (st' := []) rfl ?_
  refine G_aload_n dLA_demandAll_11 rfl ?_
  refine G_getRs fLA_24 dLA_demandAll_12 hL.1 hL.2.2.2.1 ?_
  refine G_iconst (v := nI 1) dLA_demandAll_15 (by decide +kernel) ?_
  refine G_iconst (v := nI 0) dLA_demandAll_16 (by decide +kernel) ?_
  refine G_aload_n dLA_demandAll_17 rfl ?_
  refine G_getI fLA_28 dLA_demandAll_18 hL.1 ?_
  rw [(hI.off hO1).2.1]
  refine G_callV (As := [.int (nI 1), .int (nI 0), .int w]) (rest := []) gLA_demandAll_BD_fix lLA_67.1 lLA_67.2.1 lLA_67.2.2.1 lLA_67.2.2.2 dLA_demandAll_21 rfl (Nat.le_of_ble_eq_true rfl) hB.1 ⟨by decide, by decide⟩ (pBD_fix (p := 1) (q := 0) (S := (opR R (4 * nb), 0)) hB hS1 (by decide) (by decide) (by omega) hK.1.1) ?_
  rintro _ g2 _ _ ⟨rfl, rfl, rfl, hS2, hO2⟩
  refine G_st (st' := []) rfl ?_
  refine G_aload_n dLA_demandAll_24 rfl ?_
  refine G_getRs fLA_24 dLA_demandAll_25 hL.1 hL.2.2.2.1 ?_
  refine G_iconst (v := nI 2) dLA_demandAll_28 (by decide +kernel) ?_
  refine G_iconst (v := nI 0) dLA_demandAll_29 (by decide +kernel) ?_
  refine G_iconst (v := 0) dLA_demandAll_30 (by decide) ?_
  refine G_callV (As := [.int (nI 2), .int (nI 0), .int 0]) (rest := []) gLA_demandAll_BD_fix lLA_67.1 lLA_67.2.1 lLA_67.2.2.1 lLA_67.2.2.2 dLA_demandAll_31 rfl (Nat.le_of_ble_eq_true rfl) hB.1 ⟨by decide, by decide⟩ (pBD_fix (p := 2) (q := 0) (S := fixP (opR R (4 * nb), 0) 1 0 w (4 * nb)) hB hS2 (by decide) (by decide) (by omega) hK.1.2.1) ?_
  rintro _ g3 _ _ ⟨rfl, rfl, rfl, hS3, hO3⟩
  refine G_st (st' := []) rfl ?_
  refine G_aload_n dLA_demandAll_34 rfl ?_
  refine G_getRs fLA_24 dLA_demandAll_35 hL.1 hL.2.2.2.1 ?_
  refine G_iconst (v := nI 3) dLA_demandAll_38 (by decide +kernel) ?_
  refine G_iconst (v := nI 0) dLA_demandAll_39 (by decide +kernel) ?_
  refine G_aload_n dLA_demandAll_40 rfl ?_
  refine G_getI fLA_32 dLA_demandAll_41 hL.1 ?_
  rw [(hI.off (hO1.tr (hO2.tr hO3))).2.2]
  refine G_callV (As := [.int (nI 3), .int (nI 0), .int h]) (rest := []) gLA_demandAll_BD_fix lLA_67.1 lLA_67.2.1 lLA_67.2.2.1 lLA_67.2.2.2 dLA_demandAll_44 rfl (Nat.le_of_ble_eq_true rfl) hB.1 ⟨by decide, by decide⟩ (pBD_fix (p := 3) (q := 0) (S := fixP (fixP (opR R (4 * nb), 0) 1 0 w (4 * nb)) 2 0 0 (4 * nb)) hB hS3 (by decide) (by decide) (by omega) hK.1.2.2) ?_
  rintro _ g4 _ _ ⟨rfl, rfl, rfl, hS4, hO4⟩
  refine G_st (st' := []) rfl ?_
  refine G_iconst (v := nI 0) dLA_demandAll_47 (by decide +kernel) ?_
  refine G_istore_n (ls' := [.ref la, .int (nI 0)]) dLA_demandAll_48 (by decide) rfl ?_
  refine da_box (S := d0P R w h (4 * nb)) hL hI hnb hK.2.1 (fun gb hSb hOb => ?_) nb 0 (Nat.zero_add _) g4 hS4 (hO1.tr (hO2.tr (hO3.tr hO4)))
  refine G_iconst (v := nI 0) dLA_demandAll_91 (by decide +kernel) ?_
  refine G_istore_n (ls' := [.ref la, .int (nI 0)]) dLA_demandAll_92 (by decide) rfl ?_
  exact da_con hL hC hnb hK.2.2 (fun gc hSc hOc => ⟨rfl, rfl, rfl, hSc, hOc⟩) 16 0 rfl gb hSb hOb
