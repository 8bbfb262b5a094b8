def faN (par : Nat → Option Nat) (pl : Nat → Int32) (B : Nat → BS) (i : Nat) : A4 := if (B i).2.2.2.1 = true then A0 else match par i with
  | none => fa4 pl (i * 4)
  | some p => arC (fa4 pl (i * 4)) (B p).2.2.2.2.2.1
def stA (β : BS) (q r : A4) : BS := (β.1, β.2.1, β.2.2.1, β.2.2.2.1, β.2.2.2.2.1, q, r)
def faB (par : Nat → Option Nat) (pl : Nat → Int32) (B : Nat → BS) : Nat → Nat → BS
  | 0 => B
  | i + 1 => gup (faB par pl B i) i (stA (faB par pl B i i) (faN par pl (faB par pl B i) i) (faB par pl B i i).2.2.2.2.2.1)
def attP (B : Nat → BS) (o : Option Nat) : Option Nat := match o with
  | none => none
  | some i => if chA (B i).1 (B i).2.2.2.2.2.1 then some i else none
def shL (B : Nat → BS) (fo pr : Option Nat) (D : Nat → Bool) : Nat → (Nat → BS) × (Nat → Bool)
  | 0 => (B, D)
  | i + 1 => (gup (shL B fo pr D i).1 i (shB i ((shL B fo pr D i).1 i) fo pr), shDm i ((shL B fo pr D i).1 i) fo pr (shL B fo pr D i).2)
theorem attP_lt {B : Nat → BS} {o : Option Nat} {nb : Nat} (h : ∀ i, o = some i → i < nb) : ∀ i, attP B o = some i → i < nb := by
  intro i hi
  cases o with
  | none => cases hi
  | some j =>
    unfold attP at hi
    dsimp only at hi
    split at hi
    · cases hi; exact h _ rfl
    · cases hi
theorem fa4_eq {f g : Nat → Int32} {k : Nat} (h : ∀ j, j < 24 → f j = g j) (hk : k + 3 < 24) : fa4 f k = fa4 g k := by
  unfold fa4
  rw [h k (by omega), h (k + 1) (by omega), h (k + 2) (by omega), h (k + 3) hk]
theorem DvB_area {T : gT} {gi gi' : gI} {gr : gR} {dv nb : Nat} {bx od : Nat → Nat} {par : Nat → Option Nat} {B : Nat → BS} {i : Nat} {q r : A4} (hS : DvS T gr dv nb bx par od) (hi : i < nb) (hB : DvB gi dv nb bx B) (h1 : ArIs gi' (bx i + 1) q) (h2 : ArIs gi' (bx i + 2) r) (hO : Off2 gi gi' (bx i)) : DvB gi' dv nb bx (gup B i (stA (B i) q r)) := by
  have hge := fun j (hj : j < nb) => (hS.2.2.1 j hj).2.2.2
  have hid := hge i hi
  refine ⟨by rw [hO dv (by omega) (by omega)]; exact hB.1, fun j hj => ?_⟩
  have hjd := hge j hj
  have hfar : j ≠ i → bx i + 3 ≤ bx j ∨ bx j + 3 ≤ bx i := fun hne => hS.far hi hj (fun z => hne z.symm)
  have e0 : gi' (bx j) = gi (bx j) := hO _ (by by_cases e : j = i; subst e; omega; have := hfar e; omega) (by by_cases e : j = i; subst e; omega; have := hfar e; omega)
  obtain ⟨b0, b1, b2, b3, b4, b5, b6, b7⟩ := hB.2 j hj
  by_cases e : j = i
  · subst e
    rw [gup_same]
    exact ⟨by rw [e0]; exact b0, by rw [e0]; exact b1, by rw [e0]; exact b2, by rw [e0]; exact b3, by rw [e0]; exact b4, by rw [e0]; exact b5, h1, h2⟩
  · rw [gup_ne e]
    have := hfar e
    unfold BxIs ArIs
    rw [e0, hO (bx j + 1) (by omega) (by omega), hO (bx j + 2) (by omega) (by omega)]
    exact hB.2 j hj
theorem DvS.grk {T : gT} {gr gr' : gR} {dv nb : Nat} {bx od : Nat → Nat} {par : Nat → Option Nat} (hS : DvS T gr dv nb bx par od) (h1 : ∀ a, a ≠ dv → gr' a = gr a) (h2 : ∀ k, k < 5 → gr' dv k = gr dv k) : DvS T gr' dv nb bx par od := by
  obtain ⟨⟨a1, a2, a3, a4, a5, a6, a7, a8, a9, ⟨s1, s2, s3, s4⟩, ⟨l1, l2, l3, l4, l5, l6, l7, l8, b1, b2, b3, b4, b5⟩⟩, c1, c2, c3, c4, c5, c6, c7⟩ := hS
  refine ⟨⟨a1, by rw [h2 0 (by decide)]; exact a2, by rw [h2 1 (by decide)]; exact a3, by rw [h2 2 (by decide)]; exact a4, by rw [h2 3 (by decide)]; exact a5, a6, a7, a8, a9, ⟨s1, by rw [h1 _ (by omega)]; exact s2, by rw [h1 _ (by omega)]; exact s3, s4⟩, ⟨l1, by rw [h1 _ (by omega)]; exact l2, by rw [h1 _ (by omega)]; exact l3, by rw [h1 _ (by omega)]; exact l4, l5, l6, l7, l8, b1, b2, b3, by rw [h1 _ (by omega)]; exact b4, fun i hi => by rw [h1 _ (by omega)]; exact b5 i hi⟩⟩, c1, fun i hi => ?_, c3, c4, c5, fun k hk => by rw [h1 _ (by omega)]; exact c6 k hk, c7⟩
  obtain ⟨d1, ⟨e1, e2, e3, e4⟩, d3, d4⟩ := c2 i hi
  exact ⟨by rw [h1 _ (by omega)]; exact d1, ⟨e1, by rw [h1 _ (by omega)]; exact e2, by rw [h1 _ (by omega)]; exact e3, e4⟩, by rw [h1 _ (by omega)]; exact d3, d4⟩
theorem sc_l1 {E : gE} {T : gT} {g0 : gI} {gr : gR} {dv nb : Nat} {bx od : Nat → Nat} {par : Nat → Option Nat} {B : Nat → BS} {pl : Nat → Int32} {Q : gQ} (hS : DvS T gr dv nb bx par od) (hP0 : PlIs g0 (dv + 6) pl) (kx : ∀ gi : gI, DvB gi dv nb bx (faB par pl B nb) → (∀ a, (∀ j, j < nb → a ≠ bx j + 1 ∧ a ≠ bx j + 2) → gi a = g0 a) → G E mDV_showChanges 32 [.ref dv, .int (nI nb)] [] T gi gr 0 0 Q) : ∀ (n i : Nat), i + n = nb → ∀ gi : gI, DvB gi dv nb bx (faB par pl B i) → (∀ a, (∀ j, j < nb → a ≠ bx j + 1 ∧ a ≠ bx j + 2) → gi a = g0 a) → G E mDV_showChanges 2 [.ref dv, .int (nI i)] [] T gi gr 0 0 Q := by
  have hn6 := hS.2.1.2
  have hL := hS.1.2.2.2.2.2.2.2.2.2.2
  intro n
  induction n with
  | zero =>
    intro i hi gi hB hO
    have hi : i = nb := by omega
    subst hi
    refine G_iload_n dDV_showChanges_2 rfl ?_
    refine G_aload_n dDV_showChanges_3 rfl ?_
    refine G_getI fDV_45 dDV_showChanges_4 hS.1.1 ?_
    rw [hB.1]
    exact G_icmp_ge dDV_showChanges_7 (fun h1 => kx gi hB hO) (fun h1 => absurd (nI_le (by omega) (by omega)) h1)
  | succ n ih =>
    intro i hin gi hB hO
    have hi : i < nb := by omega
    have hb := hS.2.2.1 i hi
    have hbi := hB.2 i hi
    have hP : ∀ j, j < 24 → gi (dv + 6 + 1) j = pl j := fun j hj => by
      rw [hO (dv + 6 + 1) (fun k hk => by have := (hS.2.2.1 k hk).2.2.2; omega)]
      exact hP0 j hj
    refine G_iload_n dDV_showChanges_2 rfl ?_
    refine G_aload_n dDV_showChanges_3 rfl ?_
    refine G_getI fDV_45 dDV_showChanges_4 hS.1.1 ?_
    rw [hB.1]
    refine G_icmp_ge dDV_showChanges_7 (fun h1 => absurd h1 (nI_ge (by omega) (by omega))) (fun h1 => ?_)
    refine G_aload_n dDV_showChanges_10 rfl ?_
    refine G_getRs fDV_18 dDV_showChanges_11 hS.1.1 hS.1.2.2.2.1 ?_
    refine G_iload_n dDV_showChanges_14 rfl ?_
    refine G_aaldsN 2 dDV_showChanges_15 (by decide) hS.1.2.2.2.2.2.1 hS.1.2.2.2.2.2.2.1 (by decide) (by omega) hb.1 ?_
    refine G_aload_n dDV_showChanges_16 rfl ?_
    refine G_getRs fDV_34 dDV_showChanges_17 hS.1.1 hS.1.2.1 ?_
    refine G_getRs fDV_90 dDV_showChanges_20 hL.1 hL.2.1 ?_
    have fin : ∀ g1 : gI, ArIs g1 (bx i + 2) (faB par pl B i i).2.2.2.2.2.1 → ArIs g1 (bx i + 1) (faN par pl (faB par pl B i) i) → Off2 gi g1 (bx i) → G E mDV_showChanges 26 [.ref dv, .int (nI i)] [] T g1 gr 0 0 Q := by
      intro g1 h2 h3 hO1
      refine G_iinc (ls' := [.ref dv, .int (nI (i + 1))]) dDV_showChanges_26 rfl (nI_inc i) (by decide) rfl ?_
      refine G_goto dDV_showChanges_29 ?_
      exact ih (i + 1) (by omega) g1 (DvB_area hS hi hB h3 h2 hO1) (fun a ha => by rw [hO1 a (ha i hi).1 (ha i hi).2]; exact hO a ha)
    cases hp : par i with
    | none =>
      refine G_callV (As := [.ref (dv + 6 + 1)]) (rest := []) gDV_showChanges_BX_findArea lDV_198.1 lDV_198.2.1 lDV_198.2.2.1 lDV_198.2.2.2 dDV_showChanges_23 rfl (Nat.le_of_ble_eq_true rfl) hb.2.1.1 ⟨by decide, by decide⟩ (cBX_findArea0 hb.2.1 hbi.2.2.2.2.2.2.1 hbi.1 (by omega) hbi.2.2.2.2.1 ⟨hL.2.2.2.2.1, hL.2.2.2.2.2.1⟩ (by have := hb.2.2.2; omega) (by rw [hb.2.2.1, hp]; rfl)) ?_
      rintro _ g1 _ _ ⟨rfl, rfl, rfl, h2, h3, hO1⟩
      refine fin g1 h2 ?_ hO1
      unfold faN
      rw [hp]
      dsimp only
      rw [← fa4_eq hP (by omega)]
      exact h3
    | some p =>
      have hpi := hS.2.2.2.1 i p hi hp
      have hpn : p < nb := by omega
      have hsp := hS.2.2.2.2.2.1 p i hpi hi
      refine G_callV (As := [.ref (dv + 6 + 1)]) (rest := []) gDV_showChanges_BX_findArea lDV_198.1 lDV_198.2.1 lDV_198.2.2.1 lDV_198.2.2.2 dDV_showChanges_23 rfl (Nat.le_of_ble_eq_true rfl) hb.2.1.1 ⟨by decide, by decide⟩ (cBX_findArea1 (pb := bx p) hb.2.1 hbi.2.2.2.2.2.2.1 hbi.1 (by omega) hbi.2.2.2.2.1 ⟨hL.2.2.2.2.1, hL.2.2.2.2.2.1⟩ (by have := hb.2.2.2; omega) (by rw [hb.2.2.1, hp]; rfl) (hS.2.2.1 p hpn).2.1 (hB.2 p hpn).2.2.2.2.2.2.1 (by omega)) ?_
      rintro _ g1 _ _ ⟨rfl, rfl, rfl, h2, h3, hO1⟩
      refine fin g1 h2 ?_ hO1
      unfold faN
      rw [hp]
      dsimp only
      rw [← fa4_eq hP (by omega)]
      exact h3
theorem sc_fo {E : gE} {T : gT} {gi : gI} {gr : gR} {dv nb : Nat} {bx od : Nat → Nat} {par : Nat → Option Nat} {B : Nat → BS} {o : Option Nat} {Q : gQ} {v1 : Value} (hS : DvS T gr dv nb bx par od) (hB : DvB gi dv nb bx B) (ho : gr dv 5 = o.map bx) (hlt : ∀ i, o = some i → i < nb) (kx : ∀ gr' : gR, (∀ a, a ≠ dv → gr' a = gr a) → (∀ k, k ≠ 5 → gr' dv k = gr dv k) → gr' dv 5 = (attP B o).map bx → G E mDV_showChanges 54 [.ref dv, v1] [] T gi gr' 0 0 Q) : G E mDV_showChanges 32 [.ref dv, v1] [] T gi gr 0 0 Q := by
  refine G_aload_n dDV_showChanges_32 rfl ?_
  refine G_getR fDV_137 dDV_showChanges_33 hS.1.1 ?_
  rw [ho]
  cases o with
  | none =>
    refine G_ifnullN dDV_showChanges_36 ?_
    exact kx gr (fun _ _ => rfl) (fun _ _ => rfl) ho
  | some i =>
    have hi := hlt i rfl
    have hb := hS.2.2.1 i hi
    have hbi := hB.2 i hi
    refine G_ifnull (a := bx i) dDV_showChanges_36 ?_
    refine G_aload_n dDV_showChanges_39 rfl ?_
    refine G_getRs (q := bx i) fDV_137 dDV_showChanges_40 hS.1.1 ho ?_
    refine G_callV (As := []) (rest := []) gDV_showChanges_BX_canHaveAttention lDV_133.1 lDV_133.2.1 lDV_133.2.2.1 lDV_133.2.2.2 dDV_showChanges_43 rfl (Nat.le_of_ble_eq_true rfl) hb.2.1.1 ⟨by decide, by decide⟩ (cBX_canHaveAttention hb.2.1 hbi.2.1 hbi.2.2.2.2.2.2.1) ?_
    rintro _ _ _ _ ⟨rfl, rfl, rfl, rfl⟩
    refine G_st (st' := [.int (if chA (B i).1 (B i).2.2.2.2.2.1 then 1 else 0)]) rfl ?_
    refine G_if_ne dDV_showChanges_46 (fun h1 => ?_) (fun h1 => ?_)
    · have hc : chA (B i).1 (B i).2.2.2.2.2.1 := by
        by_cases c : chA (B i).1 (B i).2.2.2.2.2.1
        · exact c
        · exact absurd (if_neg c) h1
      refine kx _ (fun _ _ => rfl) (fun _ _ => rfl) ?_
      rw [ho]
      unfold attP
      dsimp only
      rw [if_pos hc]
    · have hc : ¬ chA (B i).1 (B i).2.2.2.2.2.1 := fun c => by rw [if_pos c] at h1; exact absurd h1 (by decide)
      refine G_aload_n dDV_showChanges_49 rfl ?_
      refine G_null dDV_showChanges_50 ?_
      refine G_putR (r := none) rfl wDV_137 (Or.inl rfl) dDV_showChanges_51 hS.1.1 (nr_o _) (ft_o _) ?_
      refine kx _ (fun a ha => gu_off ha) (fun k hk => gu_ne (Or.inr hk)) ?_
      rw [gu_same]
      unfold attP
      dsimp only
      rw [if_neg hc]
      rfl
theorem sc_pr {E : gE} {T : gT} {gi : gI} {gr : gR} {dv nb : Nat} {bx od : Nat → Nat} {par : Nat → Option Nat} {B : Nat → BS} {o : Option Nat} {Q : gQ} {v1 : Value} (hS : DvS T gr dv nb bx par od) (hB : DvB gi dv nb bx B) (ho : gr dv 6 = o.map bx) (hlt : ∀ i, o = some i → i < nb) (kx : ∀ gr' : gR, (∀ a, a ≠ dv → gr' a = gr a) → (∀ k, k ≠ 6 → gr' dv k = gr dv k) → gr' dv 6 = (attP B o).map bx → G E mDV_showChanges 76 [.ref dv, v1] [] T gi gr' 0 0 Q) : G E mDV_showChanges 54 [.ref dv, v1] [] T gi gr 0 0 Q := by
  refine G_aload_n dDV_showChanges_54 rfl ?_
  refine G_getR fDV_129 dDV_showChanges_55 hS.1.1 ?_
  rw [ho]
  cases o with
  | none =>
    refine G_ifnullN dDV_showChanges_58 ?_
    exact kx gr (fun _ _ => rfl) (fun _ _ => rfl) ho
  | some i =>
    have hi := hlt i rfl
    have hb := hS.2.2.1 i hi
    have hbi := hB.2 i hi
    refine G_ifnull (a := bx i) dDV_showChanges_58 ?_
    refine G_aload_n dDV_showChanges_61 rfl ?_
    refine G_getRs (q := bx i) fDV_129 dDV_showChanges_62 hS.1.1 ho ?_
    refine G_callV (As := []) (rest := []) gDV_showChanges_BX_canHaveAttention lDV_133.1 lDV_133.2.1 lDV_133.2.2.1 lDV_133.2.2.2 dDV_showChanges_65 rfl (Nat.le_of_ble_eq_true rfl) hb.2.1.1 ⟨by decide, by decide⟩ (cBX_canHaveAttention hb.2.1 hbi.2.1 hbi.2.2.2.2.2.2.1) ?_
    rintro _ _ _ _ ⟨rfl, rfl, rfl, rfl⟩
    refine G_st (st' := [.int (if chA (B i).1 (B i).2.2.2.2.2.1 then 1 else 0)]) rfl ?_
    refine G_if_ne dDV_showChanges_68 (fun h1 => ?_) (fun h1 => ?_)
    · have hc : chA (B i).1 (B i).2.2.2.2.2.1 := by
        by_cases c : chA (B i).1 (B i).2.2.2.2.2.1
        · exact c
        · exact absurd (if_neg c) h1
      refine kx _ (fun _ _ => rfl) (fun _ _ => rfl) ?_
      rw [ho]
      unfold attP
      dsimp only
      rw [if_pos hc]
    · have hc : ¬ chA (B i).1 (B i).2.2.2.2.2.1 := fun c => by rw [if_pos c] at h1; exact absurd h1 (by decide)
      refine G_aload_n dDV_showChanges_71 rfl ?_
      refine G_null dDV_showChanges_72 ?_
      refine G_putR (r := none) rfl wDV_129 (Or.inl rfl) dDV_showChanges_73 hS.1.1 (nr_o _) (ft_o _) ?_
      refine kx _ (fun a ha => gu_off ha) (fun k hk => gu_ne (Or.inr hk)) ?_
      rw [gu_same]
      unfold attP
      dsimp only
      rw [if_neg hc]
      rfl
theorem sc_l3 {E : gE} {T : gT} {g0 : gI} {gr : gR} {dv nb : Nat} {bx od : Nat → Nat} {par : Nat → Option Nat} {B : Nat → BS} {fo pr : Option Nat} {D : Nat → Bool} {Q : gQ} (hS : DvS T gr dv nb bx par od) (hF : DvF gr dv nb bx fo pr) (kx : ∀ gi : gI, DvB gi dv nb bx (shL B fo pr D nb).1 → DmIs gi (dv + 1) (shL B fo pr D nb).2 → (∀ a, (∀ j, j < nb → a ≠ bx j) → a ≠ dv + 1 + 2 → gi a = g0 a) → Q T gi gr none) : ∀ (n i : Nat), i + n = nb → ∀ gi : gI, DvB gi dv nb bx (shL B fo pr D i).1 → DmIs gi (dv + 1) (shL B fo pr D i).2 → (∀ a, (∀ j, j < nb → a ≠ bx j) → a ≠ dv + 1 + 2 → gi a = g0 a) → G E mDV_showChanges 78 [.ref dv, .int (nI i)] [] T gi gr 0 0 Q := by
  have hn6 := hS.2.1.2
  intro n
  induction n with
  | zero =>
    intro i hi gi hB hD hO
    have hi : i = nb := by omega
    subst hi
    refine G_iload_n dDV_showChanges_78 rfl ?_
    refine G_aload_n dDV_showChanges_79 rfl ?_
    refine G_getI fDV_45 dDV_showChanges_80 hS.1.1 ?_
    rw [hB.1]
    refine G_icmp_ge dDV_showChanges_83 (fun h1 => ?_) (fun h1 => absurd (nI_le (by omega) (by omega)) h1)
    exact G_return dDV_showChanges_102 rfl (by decide) (by decide) (kx gi hB hD hO)
  | succ n ih =>
    intro i hin gi hB hD hO
    have hi : i < nb := by omega
    refine G_iload_n dDV_showChanges_78 rfl ?_
    refine G_aload_n dDV_showChanges_79 rfl ?_
    refine G_getI fDV_45 dDV_showChanges_80 hS.1.1 ?_
    rw [hB.1]
    refine G_icmp_ge dDV_showChanges_83 (fun h1 => absurd h1 (nI_ge (by omega) (by omega))) (fun h1 => ?_)
    refine G_aload_n dDV_showChanges_86 rfl ?_
    refine G_aload_n dDV_showChanges_87 rfl ?_
    refine G_getRs fDV_18 dDV_showChanges_88 hS.1.1 hS.1.2.2.2.1 ?_
    refine G_iload_n dDV_showChanges_91 rfl ?_
    refine G_aaldsN 2 dDV_showChanges_92 (by decide) hS.1.2.2.2.2.2.1 hS.1.2.2.2.2.2.2.1 (by decide) (by omega) (hS.2.2.1 i hi).1 ?_
    refine G_callV (As := [.ref (bx i)]) (rest := []) gDV_showChanges_DV_showBox lDV_202.1 lDV_202.2.1 lDV_202.2.2.1 lDV_202.2.2.2 dDV_showChanges_93 rfl (Nat.le_of_ble_eq_true rfl) hS.1.1 ⟨by decide, by decide⟩ (cDV_showBox hS hB hF hD hi) ?_
    rintro _ g1 _ _ ⟨rfl, rfl, rfl, hB1, hD1, hO1⟩
    refine G_st (st' := []) rfl ?_
    refine G_iinc (ls' := [.ref dv, .int (nI (i + 1))]) dDV_showChanges_96 rfl (nI_inc i) (by decide) rfl ?_
    refine G_goto dDV_showChanges_99 ?_
    exact ih (i + 1) (by omega) g1 hB1 hD1 (fun a h2 h3 => by rw [hO1 a (h2 i hi) h3]; exact hO a h2 h3)
def scB (par : Nat → Option Nat) (pl : Nat → Int32) (B : Nat → BS) (nb : Nat) : Nat → BS := faB par pl B nb
def scS (par : Nat → Option Nat) (pl : Nat → Int32) (B : Nat → BS) (nb : Nat) (fo pr : Option Nat) (D : Nat → Bool) : (Nat → BS) × (Nat → Bool) := shL (scB par pl B nb) (attP (scB par pl B nb) fo) (attP (scB par pl B nb) pr) D nb
def DvOff (gi gi' : gI) (dv nb : Nat) (bx : Nat → Nat) : Prop := ∀ a, (∀ j, j < nb → a < bx j ∨ bx j + 2 < a) → a ≠ dv + 3 → gi' a = gi a
theorem cDV_showChanges {E : gE} {T : gT} {gi : gI} {gr : gR} {dv nb : Nat} {bx od : Nat → Nat} {par : Nat → Option Nat} {B : Nat → BS} {pl : Nat → Int32} {fo pr : Option Nat} {D : Nat → Bool} (hS : DvS T gr dv nb bx par od) (hB : DvB gi dv nb bx B) (hF : DvF gr dv nb bx fo pr) (hP : PlIs gi (dv + 6) pl) (hD : DmIs gi (dv + 1) D) : Ct E mDV_showChanges [.ref dv] T gi gr (fun T' gi' gr' v => T' = T ∧ v = none ∧ (∀ a, a ≠ dv → gr' a = gr a) ∧ (∀ k, k < 5 → gr' dv k = gr dv k) ∧ DvF gr' dv nb bx (attP (scB par pl B nb) fo) (attP (scB par pl B nb) pr) ∧ DvB gi' dv nb bx (scS par pl B nb fo pr D).1 ∧ DmIs gi' (dv + 1) (scS par pl B nb fo pr D).2 ∧ DvOff gi gi' dv nb bx) := by
  refine Ct_of (ls := [.ref dv, .long 0]) (by decide) (gcat_cons rfl gcat_nil) (Nat.le_of_ble_eq_true rfl) rfl ?_
  refine G_iconst (v := nI 0) dDV_showChanges_0 (by decide +kernel) ?_
  refine G_istore_n (ls' := [.ref dv, .int (nI 0)]) dDV_showChanges_1 (by decide) rfl ?_
  refine sc_l1 (B := B) hS hP (fun g1 hB1 hO1 => ?_) nb 0 (Nat.zero_add _) gi hB (fun _ _ => rfl)
  refine sc_fo hS hB1 hF.1 hF.2.2.1 (fun r1 e1 e2 e3 => ?_)
  have hS1 : DvS T r1 dv nb bx par od := hS.grk e1 (fun k hk => e2 k (by omega))
  refine sc_pr hS1 hB1 ((e2 6 (by decide)).trans hF.2.1) hF.2.2.2 (fun r2 f1 f2 f3 => ?_)
  have hS2 : DvS T r2 dv nb bx par od := hS1.grk f1 (fun k hk => f2 k (by omega))
  have hF2 : DvF r2 dv nb bx (attP (scB par pl B nb) fo) (attP (scB par pl B nb) pr) := ⟨(f2 5 (by decide)).trans e3, f3, attP_lt hF.2.2.1, attP_lt hF.2.2.2⟩
  refine G_iconst (v := nI 0) dDV_showChanges_76 (by decide +kernel) ?_
  refine G_istore_n (ls' := [.ref dv, .int (nI 0)]) dDV_showChanges_77 (by decide) rfl ?_
  refine sc_l3 (B := scB par pl B nb) (D := D) hS2 hF2 (fun g3 hB3 hD3 hO3 => ⟨rfl, rfl, fun a ha => (f1 a ha).trans (e1 a ha), fun k hk => (f2 k (by omega)).trans (e2 k (by omega)), hF2, hB3, hD3, fun a h1 h2 => ?_⟩) nb 0 (Nat.zero_add _) g1 hB1 (fun j hj => ?_) (fun _ _ _ => rfl)
  · rw [hO1 (dv + 1 + 2) (fun k hk => by have := (hS.2.2.1 k hk).2.2.2; omega)]
    exact hD j hj
  · rw [hO3 a (fun j hj => by have := h1 j hj; omega) h2]
    exact hO1 a (fun j hj => by have := h1 j hj; omega)
