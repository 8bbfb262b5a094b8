theorem cb_con {E : gE} {T : gT} {g0 : gI} {gr : gR} {la nb k : Nat} {cs : Nat → Option K5} {cx : Nat → Nat} {S : S2} {Q : gQ} (hL : LaOk T gr la) (hC0 : CsIs T g0 gr la cs cx) (hnb : nb ≤ 6) (hk3 : k < 3) (hK : ∀ i κ, i < 16 → cs i = some κ → κ.2.2.2.2 = k + 1 → lerK (csP S cs (4 * nb) (k + 1) i).1 κ (4 * nb)) (kx : ∀ gi : gI, BdIs gi (la + 3) (csP S cs (4 * nb) (k + 1) 16).1 (csP S cs (4 * nb) (k + 1) 16).2 (4 * nb) → BdOff g0 gi (la + 3) → G E mLA_chooseBest 56 [.ref la, .int (nI (k + 1)), .int (nI 16)] [] T gi gr 0 0 Q) : ∀ (n i : Nat), i + n = 16 → ∀ gi : gI, BdIs gi (la + 3) (csP S cs (4 * nb) (k + 1) i).1 (csP S cs (4 * nb) (k + 1) i).2 (4 * nb) → BdOff g0 gi (la + 3) → G E mLA_chooseBest 9 [.ref la, .int (nI (k + 1)), .int (nI i)] [] T gi gr 0 0 Q := by
  have hB : BdOk T gr (la + 3) := hL.2.2.2.2.2.2.2.2
  intro n
  induction n with
  | zero =>
    intro i hi gi hS hO
    have hi : i = 16 := by omega
    subst hi
    refine G_iload_n dLA_chooseBest_9 rfl ?_
    refine G_bipush (v := 16) dLA_chooseBest_10 (by decide) ?_
    refine G_icmp_ge dLA_chooseBest_12 (fun h1 => kx gi hS hO) (fun h1 => ?_)
    exact absurd (nI_le (a := 16) (b := 16) (by omega) (by decide)) h1
  | succ n ih =>
    intro i hin gi hS hO
    have hC : CsIs T gi gr la cs cx := hC0.off hO.la
    cases hcs : cs i with
    | none =>
      refine G_iload_n dLA_chooseBest_9 rfl ?_
      refine G_bipush (v := 16) dLA_chooseBest_10 (by decide) ?_
      refine G_icmp_ge dLA_chooseBest_12 (fun h1 => ?_) (fun h1 => ?_)
      · exact absurd h1 (nI_ge (a := i) (b := 16) (by omega) (by decide))
      · refine G_aload_n dLA_chooseBest_15 rfl ?_
        refine G_getRs fLA_17 dLA_chooseBest_16 hL.1 hL.2.2.1 ?_
        refine G_iload_n dLA_chooseBest_19 rfl ?_
        refine G_aaldN 3 dLA_chooseBest_20 (by decide) hL.2.2.2.2.2.2.1 hL.2.2.2.2.2.2.2.1 (by decide) (by omega) ?_
        rw [((hC i (by omega)).1 hcs)]
        refine G_st (st' := [.null]) rfl ?_
        refine G_ifnullN dLA_chooseBest_21 ?_
        refine G_iinc (ls' := [.ref la, .int (nI (k + 1)), .int (nI (i + 1))]) dLA_chooseBest_50 rfl (nI_inc i) (by decide) rfl ?_
        refine G_goto dLA_chooseBest_53 ?_
        exact ih (i + 1) (by omega) gi (by unfold csP; rw [hcs]; exact hS) hO
    | some κ =>
      have hci := (hC i (by omega)).2 κ hcs
      refine G_iload_n dLA_chooseBest_9 rfl ?_
      refine G_bipush (v := 16) dLA_chooseBest_10 (by decide) ?_
      refine G_icmp_ge dLA_chooseBest_12 (fun h1 => ?_) (fun h1 => ?_)
      · exact absurd h1 (nI_ge (a := i) (b := 16) (by omega) (by decide))
      · refine G_aload_n dLA_chooseBest_15 rfl ?_
        refine G_getRs fLA_17 dLA_chooseBest_16 hL.1 hL.2.2.1 ?_
        refine G_iload_n dLA_chooseBest_19 rfl ?_
        refine G_aaldsN 3 dLA_chooseBest_20 (by decide) hL.2.2.2.2.2.2.1 hL.2.2.2.2.2.2.2.1 (by decide) (by omega) hci.1 ?_
        refine G_ifnull dLA_chooseBest_21 ?_
        refine G_aload_n dLA_chooseBest_24 rfl ?_
        refine G_getRs fLA_17 dLA_chooseBest_25 hL.1 hL.2.2.1 ?_
        refine G_iload_n dLA_chooseBest_28 rfl ?_
        refine G_aaldsN 3 dLA_chooseBest_29 (by decide) hL.2.2.2.2.2.2.1 hL.2.2.2.2.2.2.2.1 (by decide) (by omega) hci.1 ?_
        refine G_getI fLA_74 dLA_chooseBest_30 hci.2.1 ?_
        rw [hci.2.2.1.1]
        refine G_iload_n dLA_chooseBest_33 rfl ?_
        refine G_icmp_ne dLA_chooseBest_34 (fun h2 => ?_) (fun h2 => ?_)
        · refine G_iinc (ls' := [.ref la, .int (nI (k + 1)), .int (nI (i + 1))]) dLA_chooseBest_50 rfl (nI_inc i) (by decide) rfl ?_
          refine G_goto dLA_chooseBest_53 ?_
          exact ih (i + 1) (by omega) gi (by unfold csP; rw [hcs]; simp only [if_neg (fun q => h2 ((nI_eq (by have := hci.2.2.2.1.2.2.2; omega) (by omega)).mpr q))]; exact hS) hO
        · refine G_aload_n dLA_chooseBest_37 rfl ?_
          refine G_getRs fLA_17 dLA_chooseBest_38 hL.1 hL.2.2.1 ?_
          refine G_iload_n dLA_chooseBest_41 rfl ?_
          refine G_aaldsN 3 dLA_chooseBest_42 (by decide) hL.2.2.2.2.2.2.1 hL.2.2.2.2.2.2.2.1 (by decide) (by omega) hci.1 ?_
          refine G_aload_n dLA_chooseBest_43 rfl ?_
          refine G_getRs fLA_24 dLA_chooseBest_44 hL.1 hL.2.2.2.1 ?_
          refine G_callV (As := [.ref (la + 3)]) (rest := []) gLA_chooseBest_CN_leastErrorIn lLA_81.1 lLA_81.2.1 lLA_81.2.2.1 lLA_81.2.2.2 dLA_chooseBest_47 rfl (Nat.le_of_ble_eq_true rfl) hci.2.1 ⟨by decide, by decide⟩ (pCN_leastErrorIn (S := csP S cs (4 * nb) (k + 1) i) hci.2.1 hci.2.2.1 hci.2.2.2.1 hB hS (by omega) (hK i κ (by omega) hcs ((nI_eq (by have := hci.2.2.2.1.2.2.2; omega) (by omega)).mp h2))) ?_
          rintro _ g1 _ _ ⟨rfl, rfl, rfl, hS1, hO1⟩
          refine G_st (st' := []) rfl ?_
          refine G_iinc (ls' := [.ref la, .int (nI (k + 1)), .int (nI (i + 1))]) dLA_chooseBest_50 rfl (nI_inc i) (by decide) rfl ?_
          refine G_goto dLA_chooseBest_53 ?_
          exact ih (i + 1) (by omega) g1 (by unfold csP; rw [hcs]; simp only [if_pos ((nI_eq (by have := hci.2.2.2.1.2.2.2; omega) (by omega)).mp h2)]; exact hS1) (hO.tr hO1)
theorem cb_str {E : gE} {T : gT} {g0 : gI} {gr : gR} {la nb : Nat} {cs : Nat → Option K5} {cx : Nat → Nat} {S : S2} {Q : gQ} (hL : LaOk T gr la) (hC0 : CsIs T g0 gr la cs cx) (hnb : nb ≤ 6) (hK : ∀ k i κ, k < 3 → i < 16 → cs i = some κ → κ.2.2.2.2 = k + 1 → lerK (csP (sfP S cs (4 * nb) k) cs (4 * nb) (k + 1) i).1 κ (4 * nb)) (kx : ∀ (gi : gI) (v2 : Value), BdIs gi (la + 3) (sfP S cs (4 * nb) 3).1 (sfP S cs (4 * nb) 3).2 (4 * nb) → BdOff g0 gi (la + 3) → G E mLA_chooseBest 62 [.ref la, .int (nI 4), v2] [] T gi gr 0 0 Q) : ∀ (n k : Nat), k + n = 3 → ∀ (gi : gI) (v2 : Value), BdIs gi (la + 3) (sfP S cs (4 * nb) k).1 (sfP S cs (4 * nb) k).2 (4 * nb) → BdOff g0 gi (la + 3) → G E mLA_chooseBest 2 [.ref la, .int (nI (k + 1)), v2] [] T gi gr 0 0 Q := by
  intro n
  induction n with
  | zero =>
    intro k hk gi v2 hS hO
    have hk : k = 3 := by omega
    subst hk
    refine G_iload_n dLA_chooseBest_2 rfl ?_
    refine G_iconst (v := 3) dLA_chooseBest_3 (by decide) ?_
    refine G_icmp_gt dLA_chooseBest_4 (fun h1 => kx gi v2 hS hO) (fun h1 => ?_)
    exact absurd (nI_lt (a := 3) (b := 4) (by omega) (by decide)) h1
  | succ n ih =>
    intro k hk gi v2 hS hO
    refine G_iload_n dLA_chooseBest_2 rfl ?_
    refine G_iconst (v := 3) dLA_chooseBest_3 (by decide) ?_
    refine G_icmp_gt dLA_chooseBest_4 (fun h1 => ?_) (fun h1 => ?_)
    · exact absurd h1 (nI_nlt (a := 3) (b := k + 1) (by omega) (by decide))
    · refine G_iconst (v := nI 0) dLA_chooseBest_7 (by decide +kernel) ?_
      refine G_istore_n (ls' := [.ref la, .int (nI (k + 1)), .int (nI 0)]) dLA_chooseBest_8 (by decide) rfl ?_
      refine cb_con (S := sfP S cs (4 * nb) k) hL hC0 hnb (by omega) (fun i κ hi h2 h3 => hK k i κ (by omega) hi h2 h3) (fun g1 hS1 hO1 => ?_) 16 0 rfl gi hS hO
      refine G_iinc (ls' := [.ref la, .int (nI (k + 1 + 1)), .int (nI 16)]) dLA_chooseBest_56 rfl (nI_inc _) (by decide) rfl ?_
      refine G_goto dLA_chooseBest_59 ?_
      exact ih (k + 1) (by omega) g1 _ hS1 hO1
def LaOff (gi gi' : gI) (la : Nat) : Prop := ∀ a, a ≠ la + 1 → ¬ (la + 3 ≤ a ∧ a < la + 29) → gi' a = gi a
theorem LaOff.tr {g1 g2 g3 : gI} {la : Nat} (h : LaOff g1 g2 la) (h' : LaOff g2 g3 la) : LaOff g1 g3 la := fun a h1 h2 => (h' a h1 h2).trans (h a h1 h2)
theorem BdOff.lo {g1 g2 : gI} {la : Nat} (h : BdOff g1 g2 (la + 3)) : LaOff g1 g2 la := fun a _ h2 => h a (by omega)
theorem edL_put {S : S2} {pl : Nat → Int32} {ec e : Nat} {gi : gI} {la : Nat} (h : PlIs gi la (edL S pl ec e)) : PlIs (gu gi (la + 1) e (edD (edP S pl ec e) pl e)) la (edL S pl ec (e + 1)) := by
  intro j hj
  by_cases c : j = e
  · subst c
    rw [gu_same]
    unfold edL
    rw [if_pos (Nat.lt_succ_self _)]
  · rw [gu_ne (Or.inr c), h j hj]
    unfold edL
    by_cases c2 : j < e
    · rw [if_pos c2, if_pos (by omega)]
    · rw [if_neg c2, if_neg (by omega)]
theorem cb_edge {E : gE} {T : gT} {g0 : gI} {gr : gR} {la nb : Nat} {w h : Int32} {pl : Nat → Int32} {S : S2} {Q : gQ} (hL : LaOk T gr la) (hI : LaIs g0 la nb w h) (hnb : nb ≤ 6) (hK : ∀ e, e < 4 * nb → fixK (edP S pl (4 * nb) e) e 0 (edD (edP S pl (4 * nb) e) pl e) (4 * nb)) (kx : ∀ gi : gI, BdIs gi (la + 3) (edP S pl (4 * nb) (4 * nb)).1 (edP S pl (4 * nb) (4 * nb)).2 (4 * nb) → PlIs gi la (edL S pl (4 * nb) (4 * nb)) → LaOff g0 gi la → Q T gi gr none) : ∀ (n e : Nat), e + n = 4 * nb → ∀ (gi : gI) (v2 : Value), BdIs gi (la + 3) (edP S pl (4 * nb) e).1 (edP S pl (4 * nb) e).2 (4 * nb) → PlIs gi la (edL S pl (4 * nb) e) → LaOff g0 gi la → G E mLA_chooseBest 64 [.ref la, .int (nI e), v2] [] T gi gr 0 0 Q := by
  have hB : BdOk T gr (la + 3) := hL.2.2.2.2.2.2.2.2
  intro n
  induction n with
  | zero =>
    intro e he gi v2 hS hP hO
    have hec : gi la 1 = nI (4 * nb) := by rw [hO la (by omega) (by omega)]; exact hI.1
    have he : e = 4 * nb := by omega
    subst he
    refine G_iload_n dLA_chooseBest_64 rfl ?_
    refine G_aload_n dLA_chooseBest_65 rfl ?_
    refine G_getI fLA_35 dLA_chooseBest_66 hL.1 ?_
    rw [hec]
    refine G_icmp_ge dLA_chooseBest_69 (fun h1 => ?_) (fun h1 => ?_)
    · exact G_return dLA_chooseBest_99 rfl (by decide) (by decide) (kx gi hS hP hO)
    · exact absurd (nI_le (by omega) (by omega)) h1
  | succ n ih =>
    intro e hen gi v2 hS hP hO
    have hec : gi la 1 = nI (4 * nb) := by rw [hO la (by omega) (by omega)]; exact hI.1
    have hpe : gi (la + 1) e = pl e := by rw [hP e (by omega)]; unfold edL; rw [if_neg (Nat.lt_irrefl _)]
    refine G_iload_n dLA_chooseBest_64 rfl ?_
    refine G_aload_n dLA_chooseBest_65 rfl ?_
    refine G_getI fLA_35 dLA_chooseBest_66 hL.1 ?_
    rw [hec]
    refine G_icmp_ge dLA_chooseBest_69 (fun h1 => ?_) (fun h1 => ?_)
    · exact absurd h1 (nI_ge (by omega) (by omega))
    · refine G_aload_n dLA_chooseBest_72 rfl ?_
      refine G_getRs fLA_9 dLA_chooseBest_73 hL.1 hL.2.1 ?_
      refine G_iload_n dLA_chooseBest_76 rfl ?_
      refine G_aload_n dLA_chooseBest_77 rfl ?_
      refine G_getRs fLA_24 dLA_chooseBest_78 hL.1 hL.2.2.2.1 ?_
      refine G_iload_n dLA_chooseBest_81 rfl ?_
      refine G_iconst (v := nI 0) dLA_chooseBest_82 (by decide +kernel) ?_
      refine G_aload_n dLA_chooseBest_83 rfl ?_
      refine G_getRs fLA_9 dLA_chooseBest_84 hL.1 hL.2.1 ?_
      refine G_iload_n dLA_chooseBest_87 rfl ?_
      refine G_ialdN dLA_chooseBest_88 hL.2.2.2.2.1 hL.2.2.2.2.2.1 (by decide) (by omega) ?_
      rw [hpe]
      refine G_callV (As := [.int (nI e), .int (nI 0), .int (pl e)]) (rest := [.int (nI e), .ref (la + 1)]) gLA_chooseBest_BD_fixNear lLA_59.1 lLA_59.2.1 lLA_59.2.2.1 lLA_59.2.2.2 dLA_chooseBest_89 rfl (Nat.le_of_ble_eq_true rfl) hB.1 ⟨by decide, by decide⟩ (pBD_fixNear (S := edP S pl (4 * nb) e) (p := e) (q := 0) hB hS (by omega) (by decide) (by omega) (hK e (by omega))) ?_
      rintro _ g1 _ _ ⟨rfl, rfl, rfl, hS1, hO1⟩
      refine G_st (st' := [.int (edD (edP S pl (4 * nb) e) pl e), .int (nI e), .ref (la + 1)]) rfl ?_
      refine G_iastN dLA_chooseBest_92 hL.2.2.2.2.1 hL.2.2.2.2.2.1 (by decide) (by omega) ?_
      refine G_iinc (ls' := [.ref la, .int (nI (e + 1)), v2]) dLA_chooseBest_93 rfl (nI_inc e) (by decide) rfl ?_
      refine G_goto dLA_chooseBest_96 ?_
      have hO2 : LaOff g0 (gu g1 (la + 1) e (edD (edP S pl (4 * nb) e) pl e)) la := hO.tr (hO1.lo.tr (fun a h1 h2 => gu_off h1))
      refine ih (e + 1) (by omega) _ _ ⟨by rw [gu_off (by omega)]; exact hS1.1, by rw [gu_off (by omega)]; exact hS1.2.1, fun i j hi hj => by rw [gu_off (by omega)]; exact hS1.2.2 i j hi hj⟩ (edL_put (fun j hj => by rw [hO1 (la + 1) (by omega)]; exact hP j hj)) hO2
theorem cLA_chooseBest {E : gE} {T : gT} {gi : gI} {gr : gR} {la nb : Nat} {w h : Int32} {pl : Nat → Int32} {S : S2} {cs : Nat → Option K5} {cx : Nat → Nat} (hL : LaOk T gr la) (hI : LaIs gi la nb w h) (hC : CsIs T gi gr la cs cx) (hS : BdIs gi (la + 3) S.1 S.2 (4 * nb)) (hP : PlIs gi la pl) (hnb : nb ≤ 6) (hK : cbK S pl nb cs) : Ct E mLA_chooseBest [.ref la] T gi gr (fun T' gi' gr' v => T' = T ∧ gr' = gr ∧ v = none ∧ (∃ S' : S2, BdIs gi' (la + 3) S'.1 S'.2 (4 * nb)) ∧ PlIs gi' la (edL (sfP S cs (4 * nb) 3) pl (4 * nb) (4 * nb)) ∧ LaOff gi gi' la) := by
  refine Ct_of (ls := [.ref la, .long 0, .long 0]) (by decide) (gcat_cons rfl gcat_nil) (Nat.le_of_ble_eq_true rfl) rfl ?_
  refine G_iconst (v := nI 1) dLA_chooseBest_0 (by decide +kernel) ?_
  refine G_istore_n (ls' := [.ref la, .int (nI 1), .long 0]) dLA_chooseBest_1 (by decide) rfl ?_
  refine cb_str hL hC hnb hK.1 (fun g1 v2 hS1 hO1 => ?_) 3 0 rfl gi _ hS BdOff.rf
  refine G_iconst (v := nI 0) dLA_chooseBest_62 (by decide +kernel) ?_
  refine G_istore_n (ls' := [.ref la, .int (nI 0), v2]) dLA_chooseBest_63 (by decide) rfl ?_
  exact cb_edge hL hI hnb hK.2 (fun g2 hS2 hP2 hO2 => ⟨rfl, rfl, rfl, ⟨_, hS2⟩, hP2, hO2⟩) (4 * nb) 0 (Nat.zero_add _) g1 v2 hS1 (fun j hj => by rw [hO1 (la + 1) (by omega), hP j hj]; unfold edL; rw [if_neg (Nat.not_lt_zero _)]) hO1.lo
