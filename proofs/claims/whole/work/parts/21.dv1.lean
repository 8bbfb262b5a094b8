def DvOk (T : gT) (gr : gR) (dv : Nat) : Prop := T.1 dv = 1 ∧ gr dv 0 = some (dv + 6) ∧ gr dv 1 = some (dv + 1) ∧ gr dv 2 = some (dv + 4) ∧ gr dv 3 = some (dv + 5) ∧ T.1 (dv + 4) = 102 ∧ T.2.1 (dv + 4) = 6 ∧ T.1 (dv + 5) = 102 ∧ T.2.1 (dv + 5) = 6 ∧ ScOk T gr (dv + 1) ∧ LaOk T gr (dv + 6)
def DvS (T : gT) (gr : gR) (dv nb : Nat) (bx : Nat → Nat) (par : Nat → Option Nat) (od : Nat → Nat) : Prop := DvOk T gr dv ∧ (0 ≤ nb ∧ nb ≤ 6) ∧ (∀ i, i < nb → gr (dv + 4) i = some (bx i) ∧ BxOk T gr (bx i) ∧ gr (bx i) 2 = (par i).map bx ∧ dv + 35 ≤ bx i) ∧ (∀ i p, i < nb → par i = some p → p < i) ∧ (∀ i, i < nb → (par i = none ↔ i = 0)) ∧ (∀ i j, i < j → j < nb → bx i + 3 ≤ bx j) ∧ (∀ k, k < nb → od k < nb ∧ gr (dv + 5) k = some (bx (od k))) ∧ (∀ k l, k < nb → l < nb → od k = od l → k = l)
def DvB (gi : gI) (dv nb : Nat) (bx : Nat → Nat) (B : Nat → BS) : Prop := gi dv 4 = nI nb ∧ ∀ i, i < nb → gi (bx i) 0 = nI i ∧ BxIs gi (bx i) (B i)
def DvF (gr : gR) (dv nb : Nat) (bx : Nat → Nat) (fo pr : Option Nat) : Prop := gr dv 5 = fo.map bx ∧ gr dv 6 = pr.map bx ∧ (∀ i, fo = some i → i < nb) ∧ ∀ i, pr = some i → i < nb
def noI (o : Option Nat) : Int32 := match o with
  | none => -1
  | some i => nI i
theorem DvS.inj {T : gT} {gr : gR} {dv nb : Nat} {bx od : Nat → Nat} {par : Nat → Option Nat} (hS : DvS T gr dv nb bx par od) {i j : Nat} (hi : i < nb) (hj : j < nb) (h : bx i = bx j) : i = j := by
  rcases Nat.lt_trichotomy i j with c | c | c
  · have := hS.2.2.2.2.2.1 i j c hj; omega
  · exact c
  · have := hS.2.2.2.2.2.1 j i c hi; omega
theorem DvS.far {T : gT} {gr : gR} {dv nb : Nat} {bx od : Nat → Nat} {par : Nat → Option Nat} (hS : DvS T gr dv nb bx par od) {i j : Nat} (hi : i < nb) (hj : j < nb) (h : i ≠ j) : bx i + 3 ≤ bx j ∨ bx j + 3 ≤ bx i := by
  rcases Nat.lt_or_gt_of_ne h with c | c
  · exact Or.inl (hS.2.2.2.2.2.1 i j c hj)
  · exact Or.inr (hS.2.2.2.2.2.1 j i c hi)
theorem DvS.injO {T : gT} {gr : gR} {dv nb : Nat} {bx od : Nat → Nat} {par : Nat → Option Nat} (hS : DvS T gr dv nb bx par od) {a b : Option Nat} (ha : ∀ i, a = some i → i < nb) (hb : ∀ i, b = some i → i < nb) : a.map bx = b.map bx ↔ a = b := by
  cases a with
  | none => cases b with
    | none => simp
    | some j => simp
  | some i => cases b with
    | none => simp
    | some j =>
      simp only [Option.map_some, Option.some.injEq]
      exact ⟨fun h => hS.inj (ha i rfl) (hb j rfl) h, fun h => by rw [h]⟩
theorem DvS.parlt {T : gT} {gr : gR} {dv nb : Nat} {bx od : Nat → Nat} {par : Nat → Option Nat} (hS : DvS T gr dv nb bx par od) {i : Nat} (hi : i < nb) : ∀ p, par i = some p → p < nb := fun p hp => Nat.lt_trans (hS.2.2.2.1 i p hi hp) hi
abbrev isNr (x : Int32) : Prop := ¬ x < -99 ∧ ¬ 99 < x
abbrev isBx (nb : Nat) (x : Int32) : Prop := ¬ x < 0 ∧ ¬ nI nb ≤ x
abbrev isIn (nb : Nat) (x : Int32) : Prop := ¬ x ≤ 0 ∧ ¬ nI nb ≤ x
theorem cDV_isNear {E : gE} {T : gT} {gi : gI} {gr : gR} {x : Int32}  : Ct E mDV_isNear [.int x] T gi gr (fun T' gi' gr' v => T' = T ∧ gi' = gi ∧ gr' = gr ∧ v = some (.int (if isNr x then 1 else 0))) := by
  refine Ct_of (ls := [.int x]) (by decide) (gcat_cons rfl gcat_nil) (Nat.le_of_ble_eq_true rfl) rfl ?_
  refine G_iload_n dDV_isNear_0 rfl ?_
  refine G_bipush (v := (-99)) dDV_isNear_1 (by decide) ?_
  refine G_icmp_lt dDV_isNear_3 (fun h1 => ?_) (fun h1 => ?_)
  · refine G_iconst (v := 0) dDV_isNear_16 (by decide) ?_
    exact G_ireturn dDV_isNear_17 rfl (nr_z (by decide)) (by decide) (by decide) ⟨rfl, rfl, rfl, by rw [if_neg (fun z => z.1 h1)]⟩
  · refine G_iload_n dDV_isNear_6 rfl ?_
    refine G_bipush (v := 99) dDV_isNear_7 (by decide) ?_
    refine G_icmp_gt dDV_isNear_9 (fun h2 => ?_) (fun h2 => ?_)
    · refine G_iconst (v := 0) dDV_isNear_16 (by decide) ?_
      exact G_ireturn dDV_isNear_17 rfl (nr_z (by decide)) (by decide) (by decide) ⟨rfl, rfl, rfl, by rw [if_neg (fun z => z.2 h2)]⟩
    · refine G_iconst (v := 1) dDV_isNear_12 (by decide) ?_
      refine G_goto dDV_isNear_13 ?_
      exact G_ireturn dDV_isNear_17 rfl (nr_z (by decide)) (by decide) (by decide) ⟨rfl, rfl, rfl, by rw [if_pos ⟨h1, h2⟩]⟩
theorem cDV_isBox {E : gE} {T : gT} {gi : gI} {gr : gR} {dv nb : Nat} {bx od : Nat → Nat} {par : Nat → Option Nat} {B : Nat → BS} {x : Int32} (hS : DvS T gr dv nb bx par od) (hB : DvB gi dv nb bx B) : Ct E mDV_isBox [.ref dv, .int x] T gi gr (fun T' gi' gr' v => T' = T ∧ gi' = gi ∧ gr' = gr ∧ v = some (.int (if isBx nb x then 1 else 0))) := by
  refine Ct_of (ls := [.ref dv, .int x]) (by decide) (gcat_cons rfl (gcat_cons rfl gcat_nil)) (Nat.le_of_ble_eq_true rfl) rfl ?_
  refine G_iload_n dDV_isBox_0 rfl ?_
  refine G_if_lt dDV_isBox_1 (fun h1 => ?_) (fun h1 => ?_)
  · refine G_iconst (v := 0) dDV_isBox_16 (by decide) ?_
    exact G_ireturn dDV_isBox_17 rfl (nr_z (by decide)) (by decide) (by decide) ⟨rfl, rfl, rfl, by rw [if_neg (fun z => z.1 h1)]⟩
  · refine G_iload_n dDV_isBox_4 rfl ?_
    refine G_aload_n dDV_isBox_5 rfl ?_
    refine G_getI fDV_45 dDV_isBox_6 hS.1.1 ?_
    rw [hB.1]
    refine G_icmp_ge dDV_isBox_9 (fun h2 => ?_) (fun h2 => ?_)
    · refine G_iconst (v := 0) dDV_isBox_16 (by decide) ?_
      exact G_ireturn dDV_isBox_17 rfl (nr_z (by decide)) (by decide) (by decide) ⟨rfl, rfl, rfl, by rw [if_neg (fun z => z.2 h2)]⟩
    · refine G_iconst (v := 1) dDV_isBox_12 (by decide) ?_
      refine G_goto dDV_isBox_13 ?_
      exact G_ireturn dDV_isBox_17 rfl (nr_z (by decide)) (by decide) (by decide) ⟨rfl, rfl, rfl, by rw [if_pos ⟨h1, h2⟩]⟩
theorem cDV_isInnerBox {E : gE} {T : gT} {gi : gI} {gr : gR} {dv nb : Nat} {bx od : Nat → Nat} {par : Nat → Option Nat} {B : Nat → BS} {x : Int32} (hS : DvS T gr dv nb bx par od) (hB : DvB gi dv nb bx B) : Ct E mDV_isInnerBox [.ref dv, .int x] T gi gr (fun T' gi' gr' v => T' = T ∧ gi' = gi ∧ gr' = gr ∧ v = some (.int (if isIn nb x then 1 else 0))) := by
  refine Ct_of (ls := [.ref dv, .int x]) (by decide) (gcat_cons rfl (gcat_cons rfl gcat_nil)) (Nat.le_of_ble_eq_true rfl) rfl ?_
  refine G_iload_n dDV_isInnerBox_0 rfl ?_
  refine G_if_le dDV_isInnerBox_1 (fun h1 => ?_) (fun h1 => ?_)
  · refine G_iconst (v := 0) dDV_isInnerBox_16 (by decide) ?_
    exact G_ireturn dDV_isInnerBox_17 rfl (nr_z (by decide)) (by decide) (by decide) ⟨rfl, rfl, rfl, by rw [if_neg (fun z => z.1 h1)]⟩
  · refine G_iload_n dDV_isInnerBox_4 rfl ?_
    refine G_aload_n dDV_isInnerBox_5 rfl ?_
    refine G_getI fDV_45 dDV_isInnerBox_6 hS.1.1 ?_
    rw [hB.1]
    refine G_icmp_ge dDV_isInnerBox_9 (fun h2 => ?_) (fun h2 => ?_)
    · refine G_iconst (v := 0) dDV_isInnerBox_16 (by decide) ?_
      exact G_ireturn dDV_isInnerBox_17 rfl (nr_z (by decide)) (by decide) (by decide) ⟨rfl, rfl, rfl, by rw [if_neg (fun z => z.2 h2)]⟩
    · refine G_iconst (v := 1) dDV_isInnerBox_12 (by decide) ?_
      refine G_goto dDV_isInnerBox_13 ?_
      exact G_ireturn dDV_isInnerBox_17 rfl (nr_z (by decide)) (by decide) (by decide) ⟨rfl, rfl, rfl, by rw [if_pos ⟨h1, h2⟩]⟩
theorem cDV_numberOf {E : gE} {T : gT} {gi : gI} {gr : gR} {dv nb : Nat} {bx od : Nat → Nat} {par : Nat → Option Nat} {B : Nat → BS} {o : Option Nat} (hS : DvS T gr dv nb bx par od) (hB : DvB gi dv nb bx B) (ho : ∀ i, o = some i → i < nb) : Ct E mDV_numberOf [va_rf (o.map bx)] T gi gr (fun T' gi' gr' v => T' = T ∧ gi' = gi ∧ gr' = gr ∧ v = some (.int (noI o))) := by
  refine Ct_of (ls := [va_rf (o.map bx)]) (by decide) (gcat_cons (va_rf_cat _) gcat_nil) (Nat.le_of_ble_eq_true rfl) rfl ?_
  cases o with
  | none =>
    refine G_aload_nN dDV_numberOf_0 rfl ?_
    refine G_ifnonnullN dDV_numberOf_1 ?_
    refine G_iconst (v := -1) dDV_numberOf_4 (by decide) ?_
    refine G_goto dDV_numberOf_5 ?_
    exact G_ireturn dDV_numberOf_12 rfl rfl (by decide) (by decide) ⟨rfl, rfl, rfl, rfl⟩
  | some i =>
    have hi := ho i rfl
    refine G_aload_n (a := bx i) dDV_numberOf_0 rfl ?_
    refine G_ifnonnull dDV_numberOf_1 ?_
    refine G_aload_n (a := bx i) dDV_numberOf_8 rfl ?_
    refine G_getI fDV_143 dDV_numberOf_9 (hS.2.2.1 i hi).2.1.1 ?_
    rw [(hB.2 i hi).1]
    exact G_ireturn dDV_numberOf_12 rfl rfl (by decide) (by decide) ⟨rfl, rfl, rfl, rfl⟩
def lsP (od : Nat → Nat) (par : Nat → Option Nat) (i : Nat) : Nat → Nat
  | 0 => i
  | k + 1 => if par (od k) = par i then od k else lsP od par i k
theorem lsP_lt {T : gT} {gr : gR} {dv nb : Nat} {bx od : Nat → Nat} {par : Nat → Option Nat} (hS : DvS T gr dv nb bx par od) {i : Nat} (hi : i < nb) : ∀ k, k ≤ nb → lsP od par i k < nb
  | 0, _ => hi
  | k + 1, hk => by
    unfold lsP
    split
    · exact (hS.2.2.2.2.2.2.1 k hk).1
    · exact lsP_lt hS hi k (by omega)
theorem il_loop {E : gE} {T : gT} {gi : gI} {gr : gR} {dv nb : Nat} {bx od : Nat → Nat} {par : Nat → Option Nat} {B : Nat → BS} {i : Nat} {Q : gQ} (hS : DvS T gr dv nb bx par od) (hB : DvB gi dv nb bx B) (hi : i < nb) (kx : Q T gi gr (some (.int (if lsP od par i nb = i then 1 else 0)))) : ∀ (n k : Nat), k + n = nb → G E mDV_isLastOfItsParent 4 [.ref dv, .ref (bx i), .ref (bx (lsP od par i k)), .int (nI k)] [] T gi gr 0 0 Q := by
  intro n
  induction n with
  | zero =>
    intro k hk
    have hk : k = nb := by omega
    subst hk
    refine G_iload_n dDV_isLastOfItsParent_4 rfl ?_
    refine G_aload_n dDV_isLastOfItsParent_5 rfl ?_
    refine G_getI fDV_45 dDV_isLastOfItsParent_6 hS.1.1 ?_
    rw [hB.1]
    refine G_icmp_ge dDV_isLastOfItsParent_9 (fun h1 => ?_) (fun h1 => absurd (nI_le (by omega) (by have := hS.2.1.2; omega)) h1)
    refine G_aload_n dDV_isLastOfItsParent_41 rfl ?_
    refine G_aload_n dDV_isLastOfItsParent_42 rfl ?_
    refine G_acmp_ne (rx := some (bx (lsP od par i k))) (ry := some (bx i)) rfl rfl dDV_isLastOfItsParent_43 (fun h2 => ?_) (fun h2 => ?_)
    · refine G_iconst (v := 0) dDV_isLastOfItsParent_50 (by decide) ?_
      refine G_ireturn dDV_isLastOfItsParent_51 rfl (nr_z (by decide)) (by decide) (by decide) ?_
      rw [if_neg (fun z => h2 (by rw [z]))] at kx
      exact kx
    · refine G_iconst (v := 1) dDV_isLastOfItsParent_46 (by decide) ?_
      refine G_goto dDV_isLastOfItsParent_47 ?_
      refine G_ireturn dDV_isLastOfItsParent_51 rfl (nr_z (by decide)) (by decide) (by decide) ?_
      rw [if_pos (hS.inj (lsP_lt hS hi k (Nat.le_refl _)) hi (Option.some.inj h2))] at kx
      exact kx
  | succ n ih =>
    intro k hkn
    have hk : k < nb := by omega
    refine G_iload_n dDV_isLastOfItsParent_4 rfl ?_
    refine G_aload_n dDV_isLastOfItsParent_5 rfl ?_
    refine G_getI fDV_45 dDV_isLastOfItsParent_6 hS.1.1 ?_
    rw [hB.1]
    refine G_icmp_ge dDV_isLastOfItsParent_9 (fun h1 => ?_) (fun h1 => ?_)
    · exact absurd h1 (nI_ge (by omega) (by have := hS.2.1.2; omega))
    · refine G_aload_n dDV_isLastOfItsParent_12 rfl ?_
      refine G_getRs fDV_22 dDV_isLastOfItsParent_13 hS.1.1 hS.1.2.2.2.2.1 ?_
      refine G_iload_n dDV_isLastOfItsParent_16 rfl ?_
      refine G_aaldsN 2 dDV_isLastOfItsParent_17 (by decide) hS.1.2.2.2.2.2.2.2.1 hS.1.2.2.2.2.2.2.2.2.1 (by decide) (Nat.lt_of_lt_of_le hk hS.2.1.2) (hS.2.2.2.2.2.2.1 k hk).2 ?_
      refine G_getR fDV_177 dDV_isLastOfItsParent_18 (hS.2.2.1 (od k) (hS.2.2.2.2.2.2.1 k hk).1).2.1.1 ?_
      rw [(hS.2.2.1 (od k) (hS.2.2.2.2.2.2.1 k hk).1).2.2.1]
      refine G_aload_n dDV_isLastOfItsParent_21 rfl ?_
      refine G_getR fDV_177 dDV_isLastOfItsParent_22 (hS.2.2.1 i hi).2.1.1 ?_
      rw [(hS.2.2.1 i hi).2.2.1]
      refine G_acmp_ne (rx := (par (od k)).map bx) (ry := (par i).map bx) rfl rfl dDV_isLastOfItsParent_25 (fun h2 => ?_) (fun h2 => ?_)
      · refine G_iinc (ls' := [.ref dv, .ref (bx i), .ref (bx (lsP od par i k)), .int (nI (k + 1))]) dDV_isLastOfItsParent_35 rfl (nI_inc k) (by decide) rfl ?_
        refine G_goto dDV_isLastOfItsParent_38 ?_
        have e : lsP od par i (k + 1) = lsP od par i k := by rw [lsP]; rw [if_neg (fun z => h2 ((hS.injO (hS.parlt (hS.2.2.2.2.2.2.1 k hk).1) (hS.parlt hi)).mpr z))]
        have := ih (k + 1) (by omega)
        rw [e] at this
        exact this
      · refine G_aload_n dDV_isLastOfItsParent_28 rfl ?_
        refine G_getRs fDV_22 dDV_isLastOfItsParent_29 hS.1.1 hS.1.2.2.2.2.1 ?_
        refine G_iload_n dDV_isLastOfItsParent_32 rfl ?_
        refine G_aaldsN 2 dDV_isLastOfItsParent_33 (by decide) hS.1.2.2.2.2.2.2.2.1 hS.1.2.2.2.2.2.2.2.2.1 (by decide) (Nat.lt_of_lt_of_le hk hS.2.1.2) (hS.2.2.2.2.2.2.1 k hk).2 ?_
        refine G_astore_n (ls' := [.ref dv, .ref (bx i), .ref (bx (od k)), .int (nI k)]) dDV_isLastOfItsParent_34 (by decide) rfl ?_
        refine G_iinc (ls' := [.ref dv, .ref (bx i), .ref (bx (od k)), .int (nI (k + 1))]) dDV_isLastOfItsParent_35 rfl (nI_inc k) (by decide) rfl ?_
        refine G_goto dDV_isLastOfItsParent_38 ?_
        have e : lsP od par i (k + 1) = od k := by unfold lsP; rw [if_pos ((hS.injO (hS.parlt (hS.2.2.2.2.2.2.1 k hk).1) (hS.parlt hi)).mp h2)]
        have := ih (k + 1) (by omega)
        rw [e] at this
        exact this
theorem cDV_isLastOfItsParent {E : gE} {T : gT} {gi : gI} {gr : gR} {dv nb : Nat} {bx od : Nat → Nat} {par : Nat → Option Nat} {B : Nat → BS} {i : Nat} (hS : DvS T gr dv nb bx par od) (hB : DvB gi dv nb bx B) (hi : i < nb) : Ct E mDV_isLastOfItsParent [.ref dv, .ref (bx i)] T gi gr (fun T' gi' gr' v => T' = T ∧ gi' = gi ∧ gr' = gr ∧ v = some (.int (if lsP od par i nb = i then 1 else 0))) := by
  refine Ct_of (ls := [.ref dv, .ref (bx i), .long 0, .long 0]) (by decide) (gcat_cons rfl (gcat_cons rfl gcat_nil)) (Nat.le_of_ble_eq_true rfl) rfl ?_
  refine G_aload_n dDV_isLastOfItsParent_0 rfl ?_
  refine G_astore_n (ls' := [.ref dv, .ref (bx i), .ref (bx i), .long 0]) dDV_isLastOfItsParent_1 (by decide) rfl ?_
  refine G_iconst (v := nI 0) dDV_isLastOfItsParent_2 (by decide +kernel) ?_
  refine G_istore_n (ls' := [.ref dv, .ref (bx i), .ref (bx i), .int (nI 0)]) dDV_isLastOfItsParent_3 (by decide) rfl ?_
  exact il_loop hS hB hi ⟨rfl, rfl, rfl, rfl⟩ nb 0 (Nat.zero_add _)
def fcP (od : Nat → Nat) (par : Nat → Option Nat) (H : Nat → Prop) [DecidablePred H] (p : Option Nat) : Nat → Option Nat
  | 0 => none
  | k + 1 => if par (od k) = p ∧ H (od k) then some (od k) else fcP od par H p k
abbrev arAt (B : Nat → BS) (x y : Int32) (i : Nat) : Prop := arH (B i).2.2.2.2.2.1 x y
theorem sub1_inc (x : Int32) : x + Int32.ofInt (-1) = x - 1 := by rw [Int32.sub_eq_add_neg]; rfl
theorem nI_m1 (k : Nat) : nI (k + 1) - 1 = nI k := nI_pred k
theorem fc_loop {E : gE} {T : gT} {gi : gI} {gr : gR} {dv nb : Nat} {bx od : Nat → Nat} {par : Nat → Option Nat} {B : Nat → BS} {x y : Int32} {p : Option Nat} (hS : DvS T gr dv nb bx par od) (hB : DvB gi dv nb bx B) (hp : ∀ i, p = some i → i < nb) : ∀ k, k ≤ nb → G E mDV_frontChild 8 [.ref dv, va_rf (p.map bx), .int x, .int y, .int (nI k - 1)] [] T gi gr 0 0 (fun T' gi' gr' v => T' = T ∧ gi' = gi ∧ gr' = gr ∧ v = some (va_rf ((fcP od par (arAt B x y) p k).map bx))) := by
  intro k
  induction k with
  | zero =>
    intro _
    refine G_iload dDV_frontChild_8 rfl ?_
    refine G_if_lt dDV_frontChild_10 (fun h1 => ?_) (fun h1 => absurd (by decide +kernel) h1)
    refine G_null dDV_frontChild_59 ?_
    exact G_areturn (r := none) dDV_frontChild_60 rfl rfl (by decide) (by decide) ⟨rfl, rfl, rfl, rfl⟩
  | succ k ih =>
    intro hkn
    have hk : k < nb := by omega
    have hok := (hS.2.2.2.2.2.2.1 k hk).1
    rw [nI_m1]
    refine G_iload dDV_frontChild_8 rfl ?_
    refine G_if_lt dDV_frontChild_10 (fun h1 => ?_) (fun h1 => ?_)
    · exact absurd h1 (nI_pos (by have := hS.2.1.2; omega))
    · refine G_aload_n dDV_frontChild_13 rfl ?_
      refine G_getRs fDV_22 dDV_frontChild_14 hS.1.1 hS.1.2.2.2.2.1 ?_
      refine G_iload dDV_frontChild_17 rfl ?_
      refine G_aaldsN 2 dDV_frontChild_19 (by decide) hS.1.2.2.2.2.2.2.2.1 hS.1.2.2.2.2.2.2.2.2.1 (by decide) (Nat.lt_of_lt_of_le hk hS.2.1.2) (hS.2.2.2.2.2.2.1 k hk).2 ?_
      refine G_getR fDV_177 dDV_frontChild_20 (hS.2.2.1 (od k) hok).2.1.1 ?_
      rw [(hS.2.2.1 (od k) hok).2.2.1]
      refine G_aload_nq dDV_frontChild_23 rfl ?_
      refine G_acmp_ne (rx := (par (od k)).map bx) (ry := p.map bx) rfl rfl dDV_frontChild_24 (fun h2 => ?_) (fun h2 => ?_)
      · refine G_iinc (ls' := [.ref dv, va_rf (p.map bx), .int x, .int y, .int (nI k - 1)]) dDV_frontChild_53 rfl (sub1_inc _) (by decide) rfl ?_
        refine G_goto dDV_frontChild_56 ?_
        have e : fcP od par (arAt B x y) p (k + 1) = fcP od par (arAt B x y) p k := by rw [fcP]; rw [if_neg (fun z => h2 ((hS.injO (hS.parlt hok) hp).mpr z.1))]
        rw [e]
        exact ih (by omega)
      · refine G_aload_n dDV_frontChild_27 rfl ?_
        refine G_getRs fDV_22 dDV_frontChild_28 hS.1.1 hS.1.2.2.2.2.1 ?_
        refine G_iload dDV_frontChild_31 rfl ?_
        refine G_aaldsN 2 dDV_frontChild_33 (by decide) hS.1.2.2.2.2.2.2.2.1 hS.1.2.2.2.2.2.2.2.2.1 (by decide) (Nat.lt_of_lt_of_le hk hS.2.1.2) (hS.2.2.2.2.2.2.1 k hk).2 ?_
        refine G_getRs fDV_113 dDV_frontChild_34 (hS.2.2.1 (od k) hok).2.1.1 (hS.2.2.1 (od k) hok).2.1.2.1 ?_
        refine G_iload_n dDV_frontChild_37 rfl ?_
        refine G_iload_n dDV_frontChild_38 rfl ?_
        refine G_callV (As := [.int x, .int y]) (rest := []) gDV_frontChild_AR_has lDV_184.1 lDV_184.2.1 lDV_184.2.2.1 lDV_184.2.2.2 dDV_frontChild_39 rfl (Nat.le_of_ble_eq_true rfl) (hS.2.2.1 (od k) hok).2.1.2.2.2.1 ⟨by decide, by decide⟩ (cAR_has (hS.2.2.1 (od k) hok).2.1.2.2.2.1 (hB.2 (od k) hok).2.2.2.2.2.2.1) ?_
        rintro _ _ _ _ ⟨rfl, rfl, rfl, rfl⟩
        refine G_st (st' := [.int (if arAt B x y (od k) then 1 else 0)]) rfl ?_
        refine G_if_eq dDV_frontChild_42 (fun h3 => ?_) (fun h3 => ?_)
        · refine G_iinc (ls' := [.ref dv, va_rf (p.map bx), .int x, .int y, .int (nI k - 1)]) dDV_frontChild_53 rfl (sub1_inc _) (by decide) rfl ?_
          refine G_goto dDV_frontChild_56 ?_
          have e : fcP od par (arAt B x y) p (k + 1) = fcP od par (arAt B x y) p k := by rw [fcP]; rw [if_neg (fun z => (if01.mp h3) z.2)]
          rw [e]
          exact ih (by omega)
        · refine G_aload_n dDV_frontChild_45 rfl ?_
          refine G_getRs fDV_22 dDV_frontChild_46 hS.1.1 hS.1.2.2.2.2.1 ?_
          refine G_iload dDV_frontChild_49 rfl ?_
          refine G_aaldsN 2 dDV_frontChild_51 (by decide) hS.1.2.2.2.2.2.2.2.1 hS.1.2.2.2.2.2.2.2.2.1 (by decide) (Nat.lt_of_lt_of_le hk hS.2.1.2) (hS.2.2.2.2.2.2.1 k hk).2 ?_
          have e : fcP od par (arAt B x y) p (k + 1) = some (od k) := by rw [fcP]; rw [if_pos ⟨(hS.injO (hS.parlt hok) hp).mp h2, by by_cases c : arAt B x y (od k); exact c; exact absurd (if01.mpr c) h3⟩]
          exact G_areturn (r := some (bx (od k))) dDV_frontChild_52 rfl rfl (by decide) (by decide) (by rw [e]; exact ⟨rfl, rfl, rfl, rfl⟩)
theorem cDV_frontChild {E : gE} {T : gT} {gi : gI} {gr : gR} {dv nb : Nat} {bx od : Nat → Nat} {par : Nat → Option Nat} {B : Nat → BS} {x y : Int32} {p : Option Nat} (hS : DvS T gr dv nb bx par od) (hB : DvB gi dv nb bx B) (hp : ∀ i, p = some i → i < nb) : Ct E mDV_frontChild [.ref dv, va_rf (p.map bx), .int x, .int y] T gi gr (fun T' gi' gr' v => T' = T ∧ gi' = gi ∧ gr' = gr ∧ v = some (va_rf ((fcP od par (arAt B x y) p nb).map bx))) := by
  refine Ct_of (ls := [.ref dv, va_rf (p.map bx), .int x, .int y, .long 0]) (by decide) (gcat_cons rfl (gcat_cons (va_rf_cat _) (gcat_cons rfl (gcat_cons rfl gcat_nil)))) (Nat.le_of_ble_eq_true rfl) rfl ?_
  refine G_aload_n dDV_frontChild_0 rfl ?_
  refine G_getI fDV_45 dDV_frontChild_1 hS.1.1 ?_
  rw [hB.1]
  refine G_iconst (v := 1) dDV_frontChild_4 (by decide) ?_
  refine G_isub dDV_frontChild_5 ?_
  refine G_istore (ls' := [.ref dv, va_rf (p.map bx), .int x, .int y, .int (nI nb - 1)]) dDV_frontChild_6 (by decide) rfl ?_
  exact fc_loop hS hB hp nb (Nat.le_refl _)
