theorem DvB_act {T : gT} {gi : gI} {gr : gR} {dv nb : Nat} {bx od : Nat → Nat} {par : Nat → Option Nat} {B : Nat → BS} {i : Nat} {x : Int32} (hS : DvS T gr dv nb bx par od) (hi : i < nb) (hB : DvB gi dv nb bx B) : DvB (gu gi (bx i) 6 x) dv nb bx (gup B i ((B i).1, (B i).2.1, x, (B i).2.2.2)) := by
  have hge := fun j (hj : j < nb) => (hS.2.2.1 j hj).2.2.2
  have hid := hge i hi
  refine ⟨by rw [gu_off (by omega)]; exact hB.1, fun j hj => ?_⟩
  have hjd := hge j hj
  have hfar : j ≠ i → bx i + 3 ≤ bx j ∨ bx j + 3 ≤ bx i := fun hne => hS.far hi hj (fun z => hne z.symm)
  obtain ⟨b0, b1, b2, b3, b4, b5, b6, b7⟩ := hB.2 j hj
  by_cases e : j = i
  · subst e
    rw [gup_same]
    refine ⟨by rw [gu_ne (Or.inr (by decide))]; exact b0, by rw [gu_ne (Or.inr (by decide))]; exact b1, by rw [gu_ne (Or.inr (by decide))]; exact b2, by rw [gu_same], by rw [gu_ne (Or.inr (by decide))]; exact b4, by rw [gu_ne (Or.inr (by decide))]; exact b5, ?_, ?_⟩
    · unfold ArIs; rw [gu_off (by omega)]; exact b6
    · unfold ArIs; rw [gu_off (by omega)]; exact b7
  · rw [gup_ne e]
    have := hfar e
    unfold BxIs ArIs
    rw [gu_off (by omega), gu_off (by omega), gu_off (by omega)]
    exact hB.2 j hj
theorem DvB_hid {T : gT} {gi : gI} {gr : gR} {dv nb : Nat} {bx od : Nat → Nat} {par : Nat → Option Nat} {B : Nat → BS} {i : Nat} {x : Bool} (hS : DvS T gr dv nb bx par od) (hi : i < nb) (hB : DvB gi dv nb bx B) : DvB (gu gi (bx i) 7 (bI x)) dv nb bx (gup B i ((B i).1, (B i).2.1, (B i).2.2.1, x, (B i).2.2.2.2)) := by
  have hge := fun j (hj : j < nb) => (hS.2.2.1 j hj).2.2.2
  have hid := hge i hi
  refine ⟨by rw [gu_off (by omega)]; exact hB.1, fun j hj => ?_⟩
  have hjd := hge j hj
  have hfar : j ≠ i → bx i + 3 ≤ bx j ∨ bx j + 3 ≤ bx i := fun hne => hS.far hi hj (fun z => hne z.symm)
  obtain ⟨b0, b1, b2, b3, b4, b5, b6, b7⟩ := hB.2 j hj
  by_cases e : j = i
  · subst e
    rw [gup_same]
    refine ⟨by rw [gu_ne (Or.inr (by decide))]; exact b0, by rw [gu_ne (Or.inr (by decide))]; exact b1, by rw [gu_ne (Or.inr (by decide))]; exact b2, by rw [gu_ne (Or.inr (by decide))]; exact b3, by rw [gu_same], by rw [gu_ne (Or.inr (by decide))]; exact b5, ?_, ?_⟩
    · unfold ArIs; rw [gu_off (by omega)]; exact b6
    · unfold ArIs; rw [gu_off (by omega)]; exact b7
  · rw [gup_ne e]
    have := hfar e
    unfold BxIs ArIs
    rw [gu_off (by omega), gu_off (by omega), gu_off (by omega)]
    exact hB.2 j hj
theorem DvB_on {T : gT} {gi : gI} {gr : gR} {dv nb : Nat} {bx od : Nat → Nat} {par : Nat → Option Nat} {B : Nat → BS} {i : Nat} {x : Bool} (hS : DvS T gr dv nb bx par od) (hi : i < nb) (hB : DvB gi dv nb bx B) : DvB (gu gi (bx i) 8 (bI x)) dv nb bx (gup B i ((B i).1, (B i).2.1, (B i).2.2.1, (B i).2.2.2.1, x, (B i).2.2.2.2.2)) := by
  have hge := fun j (hj : j < nb) => (hS.2.2.1 j hj).2.2.2
  have hid := hge i hi
  refine ⟨by rw [gu_off (by omega)]; exact hB.1, fun j hj => ?_⟩
  have hjd := hge j hj
  have hfar : j ≠ i → bx i + 3 ≤ bx j ∨ bx j + 3 ≤ bx i := fun hne => hS.far hi hj (fun z => hne z.symm)
  obtain ⟨b0, b1, b2, b3, b4, b5, b6, b7⟩ := hB.2 j hj
  by_cases e : j = i
  · subst e
    rw [gup_same]
    refine ⟨by rw [gu_ne (Or.inr (by decide))]; exact b0, by rw [gu_ne (Or.inr (by decide))]; exact b1, by rw [gu_ne (Or.inr (by decide))]; exact b2, by rw [gu_ne (Or.inr (by decide))]; exact b3, by rw [gu_ne (Or.inr (by decide))]; exact b4, by rw [gu_same], ?_, ?_⟩
    · unfold ArIs; rw [gu_off (by omega)]; exact b6
    · unfold ArIs; rw [gu_off (by omega)]; exact b7
  · rw [gup_ne e]
    have := hfar e
    unfold BxIs ArIs
    rw [gu_off (by omega), gu_off (by omega), gu_off (by omega)]
    exact hB.2 j hj
def anP (par : Nat → Option Nat) (i : Nat) : Nat → Option Nat
  | 0 => some i
  | k + 1 => (anP par i k).bind par
def acB (par : Nat → Option Nat) (i : Nat) (B : Nat → BS) : Nat → Nat → BS
  | 0 => B
  | k + 1 => match anP par i k with
    | some c => gup (acB par i B k) c ((acB par i B k c).1, (acB par i B k c).2.1, (acB par i B k c).2.2.1 + 1, (acB par i B k c).2.2.2)
    | none => acB par i B k
def atB (par : Nat → Option Nat) (i : Nat) (B : Nat → BS) : Nat → BS := if (acB par i B 6 i).1 = 2 then gup (acB par i B 6) i ((acB par i B 6 i).1, (acB par i B 6 i).2.1, (acB par i B 6 i).2.2.1, (acB par i B 6 i).2.2.2.1, !(acB par i B 6 i).2.2.2.2.1, (acB par i B 6 i).2.2.2.2.2) else acB par i B 6
theorem anP_stop {par : Nat → Option Nat} {i : Nat} {B : Nat → BS} {k : Nat} (h : anP par i k = none) : ∀ d, anP par i (k + d) = none ∧ acB par i B (k + d) = acB par i B k
  | 0 => ⟨h, rfl⟩
  | d + 1 => by
    obtain ⟨h1, h2⟩ := anP_stop (B := B) h d
    refine ⟨by show (anP par i (k + d)).bind par = none; rw [h1]; rfl, ?_⟩
    show (match anP par i (k + d) with | some c => _ | none => acB par i B (k + d)) = _
    rw [h1]
    exact h2
theorem anP_lt {T : gT} {gr : gR} {dv nb : Nat} {bx od : Nat → Nat} {par : Nat → Option Nat} {i : Nat} (hS : DvS T gr dv nb bx par od) (hi : i < nb) : ∀ k c, anP par i k = some c → c < nb
  | 0, c, h => by cases h; exact hi
  | k + 1, c, h => by
    have h' : (anP par i k).bind par = some c := h
    cases hk : anP par i k with
    | none => rw [hk] at h'; cases h'
    | some d => rw [hk] at h'; exact hS.parlt (anP_lt hS hi k d hk) c h'
theorem at_end {E : gE} {T : gT} {gi : gI} {gr : gR} {dv nb : Nat} {bx od : Nat → Nat} {par : Nat → Option Nat} {g0 : gI} {B : Nat → BS} {i : Nat} {Q : gQ} {v1 v2 : Value} (hS : DvS T gr dv nb bx par od) (hi : i < nb) (hB : DvB gi dv nb bx (acB par i B 6)) (hO : ∀ a, (∀ j, j < nb → a ≠ bx j) → gi a = g0 a) (kx : ∀ gi, DvB gi dv nb bx (atB par i B) → (∀ a, (∀ j, j < nb → a ≠ bx j) → gi a = g0 a) → Q T gi gr none) : G E mDV_activate 35 [.ref (bx i), v1, v2] [] T gi gr 0 0 Q := by
  have ht := (hS.2.2.1 i hi).2.1.1
  refine G_aload_n dDV_activate_35 rfl ?_
  refine G_getI fDV_192 dDV_activate_36 ht ?_
  rw [(hB.2 i hi).2.1]
  refine G_iconst (v := 2) dDV_activate_39 (by decide) ?_
  refine G_icmp_ne dDV_activate_40 (fun h1 => ?_) (fun h1 => ?_)
  · exact G_return dDV_activate_59 rfl (by decide) (by decide) (kx gi (by unfold atB; rw [if_neg h1]; exact hB) hO)
  · have fin : ∀ b : Bool, b = (!(acB par i B 6 i).2.2.2.2.1) → G E mDV_activate 56 [.ref (bx i), v1, v2] [.int (bI b), .ref (bx i)] T gi gr 0 0 Q := by
      intro b hb
      refine G_putI wDV_195 (Or.inl rfl) dDV_activate_56 ht (nr_z (bI_01 _)) (ft_z (bI_01 _)) ?_
      refine G_return dDV_activate_59 rfl (by decide) (by decide) (kx _ (by unfold atB; rw [if_pos h1, ← hb]; exact DvB_on hS hi hB) (fun a ha => by rw [gu_off (ha i hi)]; exact hO a ha))
    refine G_aload_n dDV_activate_43 rfl ?_
    refine G_aload_n dDV_activate_44 rfl ?_
    refine G_getI fDV_195 dDV_activate_45 ht ?_
    rw [(hB.2 i hi).2.2.2.2.2.1]
    refine G_if_ne dDV_activate_48 (fun h2 => ?_) (fun h2 => ?_)
    · refine G_iconst (v := bI false) dDV_activate_55 (by decide +kernel) ?_
      exact fin false (by cases c : (acB par i B 6 i).2.2.2.2.1 with | true => rfl | false => exact absurd (bI_0.mpr c) h2)
    · refine G_iconst (v := bI true) dDV_activate_51 (by decide +kernel) ?_
      refine G_goto dDV_activate_52 ?_
      exact fin true (by rw [bI_0.mp h2]; rfl)
theorem at_loop {E : gE} {T : gT} {gr : gR} {dv nb : Nat} {bx od : Nat → Nat} {par : Nat → Option Nat} {g0 : gI} {B : Nat → BS} {i : Nat} {Q : gQ} (hS : DvS T gr dv nb bx par od) (hi : i < nb) (kx : ∀ gi, DvB gi dv nb bx (atB par i B) → (∀ a, (∀ j, j < nb → a ≠ bx j) → gi a = g0 a) → Q T gi gr none) : ∀ (n k : Nat), k + n = 6 → ∀ gi, DvB gi dv nb bx (acB par i B k) → (∀ a, (∀ j, j < nb → a ≠ bx j) → gi a = g0 a) → G E mDV_activate 4 [.ref (bx i), va_rf ((anP par i k).map bx), .int (nI k)] [] T gi gr 0 0 Q := by
  intro n
  induction n with
  | zero =>
    intro k hk gi hB hO
    have hk : k = 6 := by omega
    subst hk
    refine G_iload_n dDV_activate_4 rfl ?_
    refine G_bipush (v := 6) dDV_activate_5 (by decide) ?_
    refine G_icmp_ge dDV_activate_7 (fun h1 => at_end hS hi hB hO kx) (fun h1 => absurd (nI_le (a := 6) (b := 6) (by omega) (by decide)) h1)
  | succ n ih =>
    intro k hk gi hB hO
    refine G_iload_n dDV_activate_4 rfl ?_
    refine G_bipush (v := 6) dDV_activate_5 (by decide) ?_
    refine G_icmp_ge dDV_activate_7 (fun h1 => absurd h1 (nI_ge (a := k) (b := 6) (by omega) (by decide))) (fun h1 => ?_)
    cases hc : anP par i k with
    | none =>
      have he : acB par i B 6 = acB par i B k := by rw [show 6 = k + (6 - k) by omega]; exact (anP_stop hc _).2
      refine G_aload_nN dDV_activate_10 rfl ?_
      refine G_ifnullN dDV_activate_11 ?_
      exact at_end hS hi (by rw [he]; exact hB) hO kx
    | some c =>
      have hcn := anP_lt hS hi k c hc
      have ht := (hS.2.2.1 c hcn).2.1.1
      have e1 : anP par i (k + 1) = par c := by show (anP par i k).bind par = _; rw [hc]; rfl
      have e2 : acB par i B (k + 1) = gup (acB par i B k) c ((acB par i B k c).1, (acB par i B k c).2.1, (acB par i B k c).2.2.1 + 1, (acB par i B k c).2.2.2) := by
        rw [acB]
        rw [hc]
      refine G_aload_n (a := bx c) dDV_activate_10 rfl ?_
      refine G_ifnull dDV_activate_11 ?_
      refine G_aload_n (a := bx c) dDV_activate_14 rfl ?_
      refine G_dup dDV_activate_15 rfl ?_
      refine G_getI fDV_152 dDV_activate_16 ht ?_
      rw [(hB.2 c hcn).2.2.2.1]
      refine G_iconst (v := 1) dDV_activate_19 (by decide) ?_
      refine G_iadd dDV_activate_20 ?_
      refine G_putI wDV_152 (Or.inl rfl) dDV_activate_21 ht rfl rfl ?_
      refine G_aload_n (a := bx c) dDV_activate_24 rfl ?_
      refine G_getR fDV_177 dDV_activate_25 ht ?_
      rw [(hS.2.2.1 c hcn).2.2.1]
      refine G_astore_nq (ls' := [.ref (bx i), va_rf ((par c).map bx), .int (nI k)]) dDV_activate_28 (by decide) rfl ?_
      refine G_iinc (ls' := [.ref (bx i), va_rf ((par c).map bx), .int (nI (k + 1))]) dDV_activate_29 rfl (nI_inc k) (by decide) rfl ?_
      refine G_goto dDV_activate_32 ?_
      have := ih (k + 1) (by omega) (gu gi (bx c) 6 ((acB par i B k c).2.2.1 + 1)) (by rw [e2]; exact DvB_act hS hcn hB) (fun a ha => by rw [gu_off (ha c hcn)]; exact hO a ha)
      rw [e1] at this
      exact this
theorem cDV_activate {E : gE} {T : gT} {gi : gI} {gr : gR} {dv nb : Nat} {bx od : Nat → Nat} {par : Nat → Option Nat} {B : Nat → BS} {i : Nat} (hS : DvS T gr dv nb bx par od) (hB : DvB gi dv nb bx B) (hi : i < nb) : Ct E mDV_activate [.ref (bx i)] T gi gr (fun T' gi' gr' v => T' = T ∧ gr' = gr ∧ v = none ∧ DvB gi' dv nb bx (atB par i B) ∧ (∀ a, (∀ j, j < nb → a ≠ bx j) → gi' a = gi a)) := by
  refine Ct_of (ls := [.ref (bx i), .long 0, .long 0]) (by decide) (gcat_cons rfl gcat_nil) (Nat.le_of_ble_eq_true rfl) rfl ?_
  refine G_aload_n dDV_activate_0 rfl ?_
  refine G_astore_n (ls' := [.ref (bx i), .ref (bx i), .long 0]) dDV_activate_1 (by decide) rfl ?_
  refine G_iconst (v := nI 0) dDV_activate_2 (by decide +kernel) ?_
  refine G_istore_n (ls' := [.ref (bx i), .ref (bx i), .int (nI 0)]) dDV_activate_3 (by decide) rfl ?_
  exact at_loop hS hi (fun g2 hB2 hO2 => ⟨rfl, rfl, rfl, hB2, hO2⟩) 6 0 rfl gi hB (fun _ _ => rfl)
def mvP (od : Nat → Nat) (pos nb i : Nat) : Nat → Nat := fun k => if k < pos then od k else if k + 1 < nb then od (k + 1) else i
def kpP (pos j : Nat) : Nat := if pos < j then j - 1 else j
def odJ (od : Nat → Nat) (pos nb i j : Nat) : Nat → Nat := fun k => if k < kpP pos j then mvP od pos nb i k else od k
theorem DvOk.gr {T : gT} {gr gr' : gR} {dv : Nat} (h : DvOk T gr dv) (hr : ∀ a, a ≠ dv + 5 → gr' a = gr a) : DvOk T gr' dv := by
  obtain ⟨h1, h2, h3, h4, h5, h6, h7, h8, h9, ⟨s1, s2, s3, s4⟩, hL⟩ := h
  refine ⟨h1, by rw [hr dv (by omega)]; exact h2, by rw [hr dv (by omega)]; exact h3, by rw [hr dv (by omega)]; exact h4, by rw [hr dv (by omega)]; exact h5, h6, h7, h8, h9, ⟨s1, by rw [hr (dv + 1) (by omega)]; exact s2, by rw [hr (dv + 1) (by omega)]; exact s3, s4⟩, ?_⟩
  obtain ⟨l1, l2, l3, l4, l5, l6, l7, l8, b1, b2, b3, b4, b5⟩ := hL
  exact ⟨l1, by rw [hr _ (by omega)]; exact l2, by rw [hr _ (by omega)]; exact l3, by rw [hr _ (by omega)]; exact l4, l5, l6, l7, l8, b1, b2, b3, by rw [hr _ (by omega)]; exact b4, fun i hi => by rw [hr _ (by omega)]; exact b5 i hi⟩
theorem bf_loop {E : gE} {T : gT} {gi : gI} {g0 : gR} {dv nb : Nat} {bx od : Nat → Nat} {par : Nat → Option Nat} {B : Nat → BS} {i pos : Nat} {Q : gQ} (hS : DvS T g0 dv nb bx par od) (hB : DvB gi dv nb bx B) (hpos : pos < nb) (hi : od pos = i) (kx : ∀ gr : gR, (∀ a, a ≠ dv + 5 → gr a = g0 a) → (∀ k, k < nb → gr (dv + 5) k = some (bx (mvP od pos nb i k))) → Q T gi gr none) : ∀ (n j : Nat), j + n = nb → ∀ gr : gR, (∀ a, a ≠ dv + 5 → gr a = g0 a) → (∀ k, k < nb → gr (dv + 5) k = some (bx (odJ od pos nb i j k))) → G E mDV_bringToFront 4 [.ref dv, .ref (bx i), .int (nI (kpP pos j)), .int (nI j)] [] T gi gr 0 0 Q := by
  have hin : i < nb := by rw [← hi]; exact (hS.2.2.2.2.2.2.1 pos hpos).1
  have hn6 := hS.2.1.2
  intro n
  induction n with
  | zero =>
    intro j hj gr hr ho
    have hj : j = nb := by omega
    subst hj
    have hk := DvOk.gr hS.1 hr
    refine G_iload_n dDV_bringToFront_4 rfl ?_
    refine G_aload_n dDV_bringToFront_5 rfl ?_
    refine G_getI fDV_45 dDV_bringToFront_6 hk.1 ?_
    rw [hB.1]
    refine G_icmp_ge dDV_bringToFront_9 (fun h1 => ?_) (fun h1 => absurd (nI_le (by omega) (by omega)) h1)
    refine G_aload_n dDV_bringToFront_43 rfl ?_
    refine G_getRs fDV_22 dDV_bringToFront_44 hk.1 hk.2.2.2.2.1 ?_
    refine G_aload_n dDV_bringToFront_47 rfl ?_
    refine G_getI fDV_45 dDV_bringToFront_48 hk.1 ?_
    rw [hB.1]
    refine G_iconst (v := 1) dDV_bringToFront_51 (by decide) ?_
    refine G_isub dDV_bringToFront_52 ?_
    obtain ⟨m, rfl⟩ : ∃ m, j = m + 1 := ⟨j - 1, by omega⟩
    rw [nI_m1]
    refine G_aload_n dDV_bringToFront_53 rfl ?_
    refine G_aastsN 2 (C := "DamageView$Box") (Tb := TbBX) (N := 9) (ci := 4) dDV_bringToFront_54 (by decide) hk.2.2.2.2.2.2.2.1 hk.2.2.2.2.2.2.2.2.1 (by decide) (by omega) (hS.2.2.1 i hin).2.1.1 rfl rfl ?_
    refine G_return dDV_bringToFront_55 rfl (by decide) (by decide) (kx _ (fun a ha => by rw [gu_off ha]; exact hr a ha) (fun k hkn => ?_))
    by_cases e : k = m
    · subst e
      rw [gu_same]
      unfold mvP
      rw [if_neg (by omega), if_neg (by omega)]
    · rw [gu_ne (Or.inr e), ho k hkn]
      unfold odJ kpP
      rw [if_pos hpos, if_pos (by omega)]
  | succ n ih =>
    intro j hjn gr hr ho
    have hk := DvOk.gr hS.1 hr
    have hj : j < nb := by omega
    have hoj : gr (dv + 5) j = some (bx (od j)) := by
      rw [ho j hj]
      unfold odJ kpP
      rw [if_neg]
      split <;> omega
    have hodj := (hS.2.2.2.2.2.2.1 j hj).1
    refine G_iload_n dDV_bringToFront_4 rfl ?_
    refine G_aload_n dDV_bringToFront_5 rfl ?_
    refine G_getI fDV_45 dDV_bringToFront_6 hk.1 ?_
    rw [hB.1]
    refine G_icmp_ge dDV_bringToFront_9 (fun h1 => absurd h1 (nI_ge (by omega) (by omega))) (fun h1 => ?_)
    refine G_aload_n dDV_bringToFront_12 rfl ?_
    refine G_getRs fDV_22 dDV_bringToFront_13 hk.1 hk.2.2.2.2.1 ?_
    refine G_iload_n dDV_bringToFront_16 rfl ?_
    refine G_aaldsN 2 dDV_bringToFront_17 (by decide) hk.2.2.2.2.2.2.2.1 hk.2.2.2.2.2.2.2.2.1 (by decide) (by omega) hoj ?_
    refine G_aload_n dDV_bringToFront_18 rfl ?_
    refine G_acmp_eq (rx := some (bx (od j))) (ry := some (bx i)) rfl rfl dDV_bringToFront_19 (fun h2 => ?_) (fun h2 => ?_)
    · have e : od j = i := hS.inj hodj hin (Option.some.inj h2)
      have ep : j = pos := hS.2.2.2.2.2.2.2 j pos hj hpos (e.trans hi.symm)
      subst ep
      refine G_iinc (ls' := [.ref dv, .ref (bx i), .int (nI (kpP j j)), .int (nI (j + 1))]) dDV_bringToFront_37 rfl (nI_inc j) (by decide) rfl ?_
      refine G_goto dDV_bringToFront_40 ?_
      have ek : kpP j (j + 1) = kpP j j := by unfold kpP; rw [if_pos (by omega), if_neg (by omega)]; omega
      have := ih (j + 1) (by omega) gr hr (fun k hkn => by rw [ho k hkn]; unfold odJ; rw [ek])
      rw [ek] at this
      exact this
    · have ep : j ≠ pos := fun z => h2 (by rw [z, hi])
      have ek : kpP pos (j + 1) = kpP pos j + 1 := by unfold kpP; by_cases c : pos < j; rw [if_pos c, if_pos (by omega)]; omega; rw [if_neg c, if_neg (by omega)]
      have em : mvP od pos nb i (kpP pos j) = od j := by
        unfold mvP kpP
        by_cases c : pos < j
        · rw [if_pos c, if_neg (by omega), if_pos (by omega), show j - 1 + 1 = j by omega]
        · rw [if_neg c, if_pos (by omega)]
      have hkl : kpP pos j < nb := by unfold kpP; split <;> omega
      refine G_aload_n dDV_bringToFront_22 rfl ?_
      refine G_getRs fDV_22 dDV_bringToFront_23 hk.1 hk.2.2.2.2.1 ?_
      refine G_iload_n dDV_bringToFront_26 rfl ?_
      refine G_aload_n dDV_bringToFront_27 rfl ?_
      refine G_getRs fDV_22 dDV_bringToFront_28 hk.1 hk.2.2.2.2.1 ?_
      refine G_iload_n dDV_bringToFront_31 rfl ?_
      refine G_aaldsN 2 dDV_bringToFront_32 (by decide) hk.2.2.2.2.2.2.2.1 hk.2.2.2.2.2.2.2.2.1 (by decide) (by omega) hoj ?_
      refine G_aastsN 2 (C := "DamageView$Box") (Tb := TbBX) (N := 9) (ci := 4) dDV_bringToFront_33 (by decide) hk.2.2.2.2.2.2.2.1 hk.2.2.2.2.2.2.2.2.1 (by decide) (by omega) (hS.2.2.1 (od j) hodj).2.1.1 rfl rfl ?_
      refine G_iinc (ls' := [.ref dv, .ref (bx i), .int (nI (kpP pos j + 1)), .int (nI j)]) dDV_bringToFront_34 rfl (nI_inc _) (by decide) rfl ?_
      refine G_iinc (ls' := [.ref dv, .ref (bx i), .int (nI (kpP pos j + 1)), .int (nI (j + 1))]) dDV_bringToFront_37 rfl (nI_inc j) (by decide) rfl ?_
      refine G_goto dDV_bringToFront_40 ?_
      have := ih (j + 1) (by omega) (gu gr (dv + 5) (kpP pos j) (some (bx (od j)))) (fun a ha => by rw [gu_off ha]; exact hr a ha) (fun k hkn => ?_)
      · rw [ek] at this
        exact this
      · by_cases e : k = kpP pos j
        · subst e
          rw [gu_same]
          unfold odJ
          rw [if_pos (by omega), em]
        · rw [gu_ne (Or.inr e), ho k hkn]
          unfold odJ
          by_cases c : k < kpP pos j
          · rw [if_pos c, if_pos (by omega)]
          · rw [if_neg c, if_neg (by omega)]
theorem cDV_bringToFront {E : gE} {T : gT} {gi : gI} {gr : gR} {dv nb : Nat} {bx od : Nat → Nat} {par : Nat → Option Nat} {B : Nat → BS} {i pos : Nat} (hS : DvS T gr dv nb bx par od) (hB : DvB gi dv nb bx B) (hpos : pos < nb) (hi : od pos = i) : Ct E mDV_bringToFront [.ref dv, .ref (bx i)] T gi gr (fun T' gi' gr' v => T' = T ∧ gi' = gi ∧ v = none ∧ (∀ a, a ≠ dv + 5 → gr' a = gr a) ∧ ∀ k, k < nb → gr' (dv + 5) k = some (bx (mvP od pos nb i k))) := by
  refine Ct_of (ls := [.ref dv, .ref (bx i), .long 0, .long 0]) (by decide) (gcat_cons rfl (gcat_cons rfl gcat_nil)) (Nat.le_of_ble_eq_true rfl) rfl ?_
  refine G_iconst (v := nI 0) dDV_bringToFront_0 (by decide +kernel) ?_
  refine G_istore_n (ls' := [.ref dv, .ref (bx i), .int (nI 0), .long 0]) dDV_bringToFront_1 (by decide) rfl ?_
  refine G_iconst (v := nI 0) dDV_bringToFront_2 (by decide +kernel) ?_
  refine G_istore_n (ls' := [.ref dv, .ref (bx i), .int (nI 0), .int (nI 0)]) dDV_bringToFront_3 (by decide) rfl ?_
  have e0 : kpP pos 0 = 0 := by unfold kpP; rw [if_neg (Nat.not_lt_zero _)]
  have := bf_loop (E := E) (Q := fun T' gi' gr' v => T' = T ∧ gi' = gi ∧ v = none ∧ (∀ a, a ≠ dv + 5 → gr' a = gr a) ∧ ∀ k, k < nb → gr' (dv + 5) k = some (bx (mvP od pos nb i k))) hS hB hpos hi (fun g2 h1 h2 => ⟨rfl, rfl, rfl, h1, h2⟩) nb 0 (Nat.zero_add _) gr (fun _ _ => rfl) (fun k hk => by rw [(hS.2.2.2.2.2.2.1 k hk).2]; unfold odJ; rw [e0, if_neg (Nat.not_lt_zero _)])
  rw [e0] at this
  exact this
