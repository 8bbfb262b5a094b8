def ptF (F : Nat → Int32) (D : Nat → Bool) (P : Nat → Int32) (z : Nat) : Nat → Int32 := fun j => if j < z ∧ D j = true then P j else F j
def ptD (D : Nat → Bool) (z : Nat) : Nat → Bool := fun j => if j < z then false else D j
def ptN (F : Nat → Int32) (D : Nat → Bool) (P : Nat → Int32) : Nat → Nat
  | 0 => 0
  | z + 1 => ptN F D P z + (if D z = true ∧ ¬ F z = P z then 1 else 0)
def ptP (od : Nat → Nat) (par : Nat → Option Nat) (B : Nat → BS) (nb : Nat) (j : Nat) : Int32 := picP od par B nb (nI (j % 24)) (nI (j / 24))
theorem ptN_le {F : Nat → Int32} {D : Nat → Bool} {P : Nat → Int32} : ∀ z, ptN F D P z ≤ z
  | 0 => Nat.le_refl _
  | z + 1 => by
    have := ptN_le (F := F) (D := D) (P := P) z
    unfold ptN
    split <;> omega
theorem ptD_at {D : Nat → Bool} {z : Nat} : ptD D z z = D z := by unfold ptD; rw [if_neg (Nat.lt_irrefl _)]
theorem ptF_at {F : Nat → Int32} {D : Nat → Bool} {P : Nat → Int32} {z : Nat} : ptF F D P z z = F z := by unfold ptF; rw [if_neg (fun h => Nat.lt_irrefl _ h.1)]
theorem ptD_sk {D : Nat → Bool} {z : Nat} (h : D z = false) : ptD D (z + 1) = ptD D z := by
  funext j
  unfold ptD
  by_cases e : j = z
  · subst e; rw [if_pos (by omega), if_neg (by omega), h]
  · by_cases c : j < z
    · rw [if_pos (by omega), if_pos c]
    · rw [if_neg (by omega), if_neg c]
theorem ptF_sk {F : Nat → Int32} {D : Nat → Bool} {P : Nat → Int32} {z : Nat} (h : D z = false) : ptF F D P (z + 1) = ptF F D P z := by
  funext j
  unfold ptF
  by_cases e : j = z
  · subst e; rw [if_neg (fun z => by rw [h] at z; exact absurd z.2 (by decide)), if_neg (fun z => Nat.lt_irrefl _ z.1)]
  · by_cases c : j < z ∧ D j = true
    · rw [if_pos ⟨by omega, c.2⟩, if_pos c]
    · rw [if_neg (fun k => c ⟨by omega, k.2⟩), if_neg c]
theorem ptD_pt {D : Nat → Bool} {z : Nat} : gup (ptD D z) z false = ptD D (z + 1) := by
  funext j
  unfold ptD
  by_cases e : j = z
  · subst e; rw [gup_same, if_pos (by omega)]
  · rw [gup_ne e]
    by_cases c : j < z
    · rw [if_pos c, if_pos (by omega)]
    · rw [if_neg c, if_neg (by omega)]
theorem ptF_pt {F : Nat → Int32} {D : Nat → Bool} {P : Nat → Int32} {z : Nat} (h : D z = true) : gup (ptF F D P z) z (P z) = ptF F D P (z + 1) := by
  funext j
  unfold ptF
  by_cases e : j = z
  · subst e; rw [gup_same, if_pos ⟨by omega, h⟩]
  · rw [gup_ne e]
    by_cases c : j < z ∧ D j = true
    · rw [if_pos c, if_pos ⟨by omega, c.2⟩]
    · rw [if_neg c, if_neg (fun k => c ⟨by omega, k.2⟩)]
theorem ptN_sk {F : Nat → Int32} {D : Nat → Bool} {P : Nat → Int32} {z : Nat} (h : ¬ (D z = true ∧ ¬ F z = P z)) : ptN F D P z = ptN F D P (z + 1) := by
  show ptN F D P z = ptN F D P z + (if D z = true ∧ ¬ F z = P z then 1 else 0)
  rw [if_neg h]; rfl
theorem pt_div {x y : Nat} (h : x < 24) : (y * 24 + x) % 24 = x ∧ (y * 24 + x) / 24 = y := by omega
theorem pa_in {E : gE} {T : gT} {g0 : gI} {gr : gR} {dv nb : Nat} {bx cx od : Nat → Nat} {par : Nat → Option Nat} {B : Nat → BS} {fo pr : Option Nat} {w h : Int32} {pl : Nat → Int32} {cs : Nat → Option K5} {D : Nat → Bool} {F : Nat → Int32} {y : Nat} {Q : gQ} (hy : y < 16) (kx : ∀ gi : gI, CInv T gi gr dv nb bx cx od par B fo pr w h pl cs (ptD D (y * 24 + 24)) (ptF F D (ptP od par B nb) (y * 24 + 24)) → CFr T T g0 gi gr gr dv → G E mDV_paint 57 [.ref dv, .int (nI (ptN F D (ptP od par B nb) (y * 24 + 24))), .int (nI y), .int (nI 24)] [] T gi gr 0 0 Q) : ∀ (n x : Nat), x + n = 24 → ∀ gi : gI, CInv T gi gr dv nb bx cx od par B fo pr w h pl cs (ptD D (y * 24 + x)) (ptF F D (ptP od par B nb) (y * 24 + x)) → CFr T T g0 gi gr gr dv → G E mDV_paint 12 [.ref dv, .int (nI (ptN F D (ptP od par B nb) (y * 24 + x))), .int (nI y), .int (nI x)] [] T gi gr 0 0 Q := by
  intro n
  induction n with
  | zero =>
    intro x hx gi hI hf
    have : x = 24 := by omega
    subst this
    refine G_iload_n dDV_paint_12 rfl ?_
    refine G_bipush (v := 24) dDV_paint_13 (by decide) ?_
    exact G_icmp_ge dDV_paint_15 (fun _ => kx gi hI hf) (fun z => absurd (by decide +kernel) z)
  | succ n ih =>
    intro x hx gi hI hf
    obtain ⟨hS, hB, hF, hL, hP, hC, hBd, hD, hM, hA⟩ := id hI
    have hx24 : x < 24 := by omega
    have hpt := pt_div (y := y) hx24
    have hpp : picP od par B nb (nI x) (nI y) = ptP od par B nb (y * 24 + x) := by unfold ptP; rw [hpt.1, hpt.2]
    have hge := fun j (hj : j < nb) => (hS.2.2.1 j hj).2.2.2
    have nxt : ∀ (c : Nat) (gi : gI), c = ptN F D (ptP od par B nb) (y * 24 + (x + 1)) → CInv T gi gr dv nb bx cx od par B fo pr w h pl cs (ptD D (y * 24 + (x + 1))) (ptF F D (ptP od par B nb) (y * 24 + (x + 1))) → CFr T T g0 gi gr gr dv → G E mDV_paint 51 [.ref dv, .int (nI c), .int (nI y), .int (nI x)] [] T gi gr 0 0 Q := by
      rintro c gi rfl h1 h2
      refine G_iinc (ls' := [.ref dv, .int (nI (ptN F D (ptP od par B nb) (y * 24 + (x + 1)))), .int (nI y), .int (nI (x + 1))]) dDV_paint_51 rfl (nI_inc x) (by decide) rfl ?_
      refine G_goto dDV_paint_54 ?_
      exact ih (x + 1) (by omega) gi h1 h2
    refine G_iload_n dDV_paint_12 rfl ?_
    refine G_bipush (v := 24) dDV_paint_13 (by decide) ?_
    refine G_icmp_ge dDV_paint_15 (fun z => absurd z (nI_ge (b := 24) hx24 (by decide))) (fun _ => ?_)
    refine G_aload_n dDV_paint_18 rfl ?_
    refine G_getRs fDV_12 dDV_paint_19 hS.1.1 hS.1.2.2.1 ?_
    refine G_iload_n dDV_paint_22 rfl ?_
    refine G_iload_n dDV_paint_23 rfl ?_
    refine G_callV (As := [.int (nI x), .int (nI y)]) (rest := []) gDV_paint_SC_isDamaged lDV_158.1 lDV_158.2.1 lDV_158.2.2.1 lDV_158.2.2.2 dDV_paint_24 rfl (Nat.le_of_ble_eq_true rfl) hS.1.2.2.2.2.2.2.2.2.2.1.1 ⟨by decide, by decide⟩ (cSC_isDamaged hS.1.2.2.2.2.2.2.2.2.2.1 hD hx24 hy) ?_
    refine same4 ?_
    refine G_st (st' := [.int (bI (D (y * 24 + x)))]) (by rw [ptD_at]; rfl) ?_
    refine G_if_eq dDV_paint_27 (fun h1 => ?_) (fun h1 => ?_)
    · have hd : D (y * 24 + x) = false := by cases hc : D (y * 24 + x) with
        | true => rw [hc] at h1; exact absurd h1 (by decide)
        | false => rfl
      exact nxt _ gi (by rw [← Nat.add_assoc]; exact ptN_sk (fun z => by rw [hd] at z; exact absurd z.1 (by decide))) (by rw [← Nat.add_assoc, ptD_sk hd, ptF_sk hd]; exact hI) hf
    · have hd : D (y * 24 + x) = true := by cases hc : D (y * 24 + x) with
        | true => rfl
        | false => rw [hc] at h1; exact absurd rfl h1
      refine G_aload_n dDV_paint_30 rfl ?_
      refine G_getRs fDV_12 dDV_paint_31 hS.1.1 hS.1.2.2.1 ?_
      refine G_iload_n dDV_paint_34 rfl ?_
      refine G_iload_n dDV_paint_35 rfl ?_
      refine G_aload_n dDV_paint_36 rfl ?_
      refine G_iload_n dDV_paint_37 rfl ?_
      refine G_iload_n dDV_paint_38 rfl ?_
      refine G_callV (As := [.int (nI x), .int (nI y)]) (rest := [.int (nI y), .int (nI x), .ref (dv + 1)]) gDV_paint_DV_pictureAt lDV_161.1 lDV_161.2.1 lDV_161.2.2.1 lDV_161.2.2.2 dDV_paint_39 rfl (Nat.le_of_ble_eq_true rfl) hS.1.1 ⟨by decide, by decide⟩ (cDV_pictureAt hS hB) ?_
      refine same4 ?_
      refine G_st (st' := [.int (ptP od par B nb (y * 24 + x)), .int (nI y), .int (nI x), .ref (dv + 1)]) (by rw [hpp]; rfl) ?_
      refine G_callV (As := [.int (nI x), .int (nI y), .int (ptP od par B nb (y * 24 + x))]) (rest := []) gDV_paint_SC_repair lDV_164.1 lDV_164.2.1 lDV_164.2.2.1 lDV_164.2.2.2 dDV_paint_42 rfl (Nat.le_of_ble_eq_true rfl) hS.1.2.2.2.2.2.2.2.2.2.1.1 ⟨by decide, by decide⟩ (cSC_repair hS.1.2.2.2.2.2.2.2.2.2.1 hM hD hx24 hy) ?_
      rintro T1 g2 r1 _ ⟨e1, e2, rfl, hM2, hD2, hO2⟩
      subst e1
      subst e2
      refine G_st (st' := [.int (if F (y * 24 + x) = ptP od par B nb (y * 24 + x) then 0 else 1)]) (by rw [ptF_at]; rfl) ?_
      rw [ptD_pt] at hD2
      rw [ptF_pt hd] at hM2
      have hy2 := hI.ch (gi' := g2) (fun a _ e1 e2 => hO2 a (by omega) (by omega)) (fun _ _ => rfl) (fun _ _ => rfl) (hB.row (hO2 _ (by omega) (by omega)) (fun i hi => by have := hge i hi; exact ⟨hO2 _ (by omega) (by omega), hO2 _ (by omega) (by omega), hO2 _ (by omega) (by omega)⟩)) hF hD2 hM2
      refine G_if_eq dDV_paint_45 (fun h2 => ?_) (fun h2 => ?_)
      · have he : F (y * 24 + x) = ptP od par B nb (y * 24 + x) := by
          by_cases c : F (y * 24 + x) = ptP od par B nb (y * 24 + x)
          · exact c
          · rw [if_neg c] at h2; exact absurd h2 (by decide)
        exact nxt _ g2 (by rw [← Nat.add_assoc]; exact ptN_sk (fun z => z.2 he)) hy2.1 (hf.tr hy2.2)
      · have he : ¬ F (y * 24 + x) = ptP od par B nb (y * 24 + x) := fun c => h2 (by rw [if_pos c])
        refine G_iinc (ls' := [.ref dv, .int (nI (ptN F D (ptP od par B nb) (y * 24 + x) + 1)), .int (nI y), .int (nI x)]) dDV_paint_48 rfl (nI_inc _) (by decide) rfl ?_
        exact nxt _ g2 (by rw [← Nat.add_assoc]; conv => rhs; unfold ptN; rw [if_pos ⟨hd, he⟩]) hy2.1 (hf.tr hy2.2)
theorem pa_out {E : gE} {T : gT} {g0 : gI} {gr : gR} {dv nb : Nat} {bx cx od : Nat → Nat} {par : Nat → Option Nat} {B : Nat → BS} {fo pr : Option Nat} {w h : Int32} {pl : Nat → Int32} {cs : Nat → Option K5} {D : Nat → Bool} {F : Nat → Int32} {Q : gQ} (kx : ∀ gi : gI, CInv T gi gr dv nb bx cx od par B fo pr w h pl cs (ptD D 384) (ptF F D (ptP od par B nb) 384) → CFr T T g0 gi gr gr dv → Q T gi gr (some (.int (nI (ptN F D (ptP od par B nb) 384))))) : ∀ (n y : Nat), y + n = 16 → ∀ (gi : gI) (v3 : Value), CInv T gi gr dv nb bx cx od par B fo pr w h pl cs (ptD D (y * 24)) (ptF F D (ptP od par B nb) (y * 24)) → CFr T T g0 gi gr gr dv → G E mDV_paint 4 [.ref dv, .int (nI (ptN F D (ptP od par B nb) (y * 24))), .int (nI y), v3] [] T gi gr 0 0 Q := by
  intro n
  induction n with
  | zero =>
    intro y hy gi v3 hI hf
    have : y = 16 := by omega
    subst this
    refine G_iload_n dDV_paint_4 rfl ?_
    refine G_bipush (v := 16) dDV_paint_5 (by decide) ?_
    refine G_icmp_ge dDV_paint_7 (fun _ => ?_) (fun z => absurd (by decide +kernel) z)
    refine G_iload_n dDV_paint_63 rfl ?_
    exact G_ireturn dDV_paint_64 rfl rfl (by decide) (by decide) (kx gi hI hf)
  | succ n ih =>
    intro y hy gi v3 hI hf
    have hy16 : y < 16 := by omega
    refine G_iload_n dDV_paint_4 rfl ?_
    refine G_bipush (v := 16) dDV_paint_5 (by decide) ?_
    refine G_icmp_ge dDV_paint_7 (fun z => absurd z (nI_ge (b := 16) hy16 (by decide))) (fun _ => ?_)
    refine G_iconst (v := nI 0) dDV_paint_10 (by decide +kernel) ?_
    refine G_istore_n (ls' := [.ref dv, .int (nI (ptN F D (ptP od par B nb) (y * 24))), .int (nI y), .int (nI 0)]) dDV_paint_11 (by decide) rfl ?_
    refine pa_in hy16 (fun gi hI hf => ?_) 24 0 (by omega) gi hI hf
    refine G_iinc (ls' := [.ref dv, .int (nI (ptN F D (ptP od par B nb) (y * 24 + 24))), .int (nI (y + 1)), .int (nI 24)]) dDV_paint_57 rfl (nI_inc y) (by decide) rfl ?_
    refine G_goto dDV_paint_60 ?_
    have e : y * 24 + 24 = (y + 1) * 24 := by omega
    rw [e] at hI ⊢
    exact ih (y + 1) (by omega) gi _ hI hf
theorem ptD_0 {D : Nat → Bool} : ptD D (0 * 24) = D := by funext j; unfold ptD; rw [if_neg (by omega)]
theorem ptF_0 {F : Nat → Int32} {D : Nat → Bool} {P : Nat → Int32} : ptF F D P (0 * 24) = F := by funext j; unfold ptF; rw [if_neg (by omega)]
theorem C_paint {E : gE} {T : gT} {gi : gI} {gr : gR} {dv nb : Nat} {bx cx od : Nat → Nat} {par : Nat → Option Nat} {B : Nat → BS} {fo pr : Option Nat} {w h : Int32} {pl : Nat → Int32} {cs : Nat → Option K5} {D : Nat → Bool} {F : Nat → Int32} (hI : CInv T gi gr dv nb bx cx od par B fo pr w h pl cs D F) : Ct E mDV_paint [.ref dv] T gi gr (fun T' gi' gr' v => T' = T ∧ CFr T T' gi gi' gr gr' dv ∧ v = some (.int (nI (ptN F D (ptP od par B nb) 384))) ∧ CInv T' gi' gr' dv nb bx cx od par B fo pr w h pl cs (ptD D 384) (ptF F D (ptP od par B nb) 384)) := by
  refine Ct_of (ls := [.ref dv, .long 0, .long 0, .long 0]) (by decide) (gcat_cons rfl gcat_nil) (Nat.le_of_ble_eq_true rfl) rfl ?_
  refine G_iconst (v := nI 0) dDV_paint_0 (by decide +kernel) ?_
  refine G_istore_n (ls' := [.ref dv, .int (nI 0), .long 0, .long 0]) dDV_paint_1 (by decide) rfl ?_
  refine G_iconst (v := nI 0) dDV_paint_2 (by decide +kernel) ?_
  refine G_istore_n (ls' := [.ref dv, .int (nI 0), .int (nI 0), .long 0]) dDV_paint_3 (by decide) rfl ?_
  refine pa_out (F := F) (D := D) (B := B) (od := od) (par := par) (nb := nb) (g0 := gi) (fun gi' h1 h2 => ⟨rfl, h2, rfl, h1⟩) 16 0 (by omega) gi _ (by rw [ptD_0, ptF_0]; exact hI) CFr.rf
