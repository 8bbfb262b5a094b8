def smW (nb : Nat) (c : Int32) : Int32 := if 0 ≤ c then (if c < nI nb then c else 0) else nI nb - 1
def smB (back : Bool) (nb : Nat) (b0 : Int32) : Nat → Int32
  | 0 => b0
  | k + 1 => smW nb (if back = true then smB back nb b0 k - 1 else smB back nb b0 k + 1)
def sxN (back : Bool) (fo : Option Nat) (nb i : Nat) : Nat := (smB back nb (stA0 back fo nb) i).toNatClampNeg
def sxOk1 (back : Bool) (fo : Option Nat) (nb i : Nat) : Bool := decide (sxN back fo nb i < nb) && decide (smB back nb (stA0 back fo nb) i = nI (sxN back fo nb i)) && (!decide (i ≤ nb) || decide (sxN back fo nb i = stX back fo nb i)) && (!decide (i = nb + 1) || decide (sxN back fo nb i = sxN back fo nb 1))
def sxOk (nb i f : Nat) : Bool := !(decide (1 ≤ i) && decide (i ≤ nb + 1)) || ((!decide (f < nb) || (sxOk1 true (some f) nb i && sxOk1 false (some f) nb i)) && sxOk1 true none nb i && sxOk1 false none nb i)
theorem sx_dec : ∀ nb, nb < 7 → 1 ≤ nb → ∀ i, i < 8 → ∀ f, f < 7 → sxOk nb i f = true := by
  decide +kernel
theorem sx_ok1 {back : Bool} {fo : Option Nat} {nb i : Nat} (h6 : nb ≤ 6) (hf : ∀ j, fo = some j → j < nb) (h1 : 1 ≤ i) (h2 : i ≤ nb + 1) (h0 : 1 ≤ nb) : sxOk1 back fo nb i = true := by
  cases fo with
  | none =>
    have h := sx_dec nb (by omega) h0 i (by omega) 0 (by omega)
    simp only [sxOk, decide_eq_true h1, decide_eq_true h2, Bool.and_true, Bool.not_true, Bool.false_or, Bool.and_eq_true] at h
    cases back with
    | true => exact h.1.2
    | false => exact h.2
  | some f =>
    have hf' := hf f rfl
    have h := sx_dec nb (by omega) h0 i (by omega) f (by omega)
    simp only [sxOk, decide_eq_true h1, decide_eq_true h2, decide_eq_true hf', Bool.and_true, Bool.not_true, Bool.false_or, Bool.and_eq_true] at h
    cases back with
    | true => exact h.1.1.1
    | false => exact h.1.1.2
theorem sx_ok {back : Bool} {fo : Option Nat} {nb i : Nat} (h6 : nb ≤ 6) (hf : ∀ j, fo = some j → j < nb) (h1 : 1 ≤ i) (h2 : i ≤ nb + 1) (h0 : 1 ≤ nb) : sxN back fo nb i < nb ∧ smB back nb (stA0 back fo nb) i = nI (sxN back fo nb i) := by
  have h := sx_ok1 (back := back) h6 hf h1 h2 h0
  simp only [sxOk1, Bool.and_eq_true, decide_eq_true_eq] at h
  exact ⟨h.1.1.1, h.1.1.2⟩
theorem sx_eq {back : Bool} {fo : Option Nat} {nb i : Nat} (h6 : nb ≤ 6) (hf : ∀ j, fo = some j → j < nb) (h1 : 1 ≤ i) (h2 : i ≤ nb) : sxN back fo nb i = stX back fo nb i := by
  have h := sx_ok1 (back := back) h6 hf h1 (by omega) (by omega)
  simp only [sxOk1, decide_eq_true h2, Bool.not_true, Bool.false_or, Bool.and_eq_true, decide_eq_true_eq] at h
  exact h.1.2
theorem sx_last {back : Bool} {fo : Option Nat} {nb : Nat} (h6 : nb ≤ 6) (hf : ∀ j, fo = some j → j < nb) (h0 : 1 ≤ nb) : sxN back fo nb (nb + 1) = sxN back fo nb 1 := by
  have h := sx_ok1 (back := back) (i := nb + 1) h6 hf (by omega) (by omega) h0
  simp only [sxOk1, decide_true, Bool.not_true, Bool.false_or, Bool.and_eq_true, decide_eq_true_eq] at h
  exact h.2
abbrev caM (par : Nat → Option Nat) (pl : Nat → Int32) (hd : Nat → Bool) (kd : Nat → Int32) (i : Nat) : Prop := canM par pl hd kd (some i) = true
def smF (par : Nat → Option Nat) (pl : Nat → Int32) (hd : Nat → Bool) (kd : Nat → Int32) (nb : Nat) (fo : Option Nat) (back : Bool) : Option Nat := stS (caM par pl hd kd) (sxN back fo nb) (nb + 1) 1
theorem stS_lt2 {A : Nat → Prop} [DecidablePred A] {ix : Nat → Nat} {nb M : Nat} (h : ∀ i, 1 ≤ i → i ≤ M → ix i < nb) : ∀ n i, 1 ≤ i → i + n ≤ M + 1 → ∀ j, stS A ix n i = some j → j < nb
  | 0, _, _, _, j, hj => by cases hj
  | n + 1, i, h1, h2, j, hj => by
    unfold stS at hj
    split at hj
    · cases hj; exact h i h1 (by omega)
    · exact stS_lt2 h n (i + 1) (by omega) (by omega) j hj
theorem smF_lt {par : Nat → Option Nat} {pl : Nat → Int32} {hd : Nat → Bool} {kd : Nat → Int32} {nb : Nat} {fo : Option Nat} {back : Bool} (h6 : nb ≤ 6) (hf : ∀ j, fo = some j → j < nb) (h0 : 1 ≤ nb) : ∀ j, smF par pl hd kd nb fo back = some j → j < nb := fun j hj => stS_lt2 (M := nb + 1) (fun i h1 h2 => (sx_ok h6 hf h1 h2 h0).1) (nb + 1) 1 (by omega) (by omega) j hj
theorem M_step {E : gE} {T : gT} {gi : gI} {gr : gR} {m : Nat} {nb : Nat} {par : Nat → Option Nat} {kd : Nat → Int32} {hd : Nat → Bool} {li : Nat → Bool} {ct : Nat → Int32} {rk : Nat → Nat} {rks : Nat} {w : Int32} {h : Int32} {pl : Nat → Int32} {cs : Nat → Option K5} {fo : Option Nat} {pr : Option Nat} {ar : Nat → Nat → Bool} {co : Nat → Int32} {D : Nat → Bool} {F : Nat → Int32} {back : Bool} (hI : MInv T gi gr m nb par kd hd li ct rk rks w h pl cs fo pr ar co D F) : Ct E mMO_step [.ref m, .int (bI back)] T gi gr (fun T' gi' gr' v => T' = T ∧ gr' = gr ∧ MOff gi gi' m ∧ v = some (.int (noI (atM par pl hd kd (smF par pl hd kd nb fo back)))) ∧ MInv T gi' gr m nb par kd hd li ct rk rks w h pl cs (atM par pl hd kd (smF par pl hd kd nb fo back)) (atM par pl hd kd pr) (lookS nb par kd hd li pl (smF par pl hd kd nb fo back) pr ar co D).1 (lookS nb par kd hd li pl (smF par pl hd kd nb fo back) pr ar co D).2.1 (lookS nb par kd hd li pl (smF par pl hd kd nb fo back) pr ar co D).2.2 F) := by
  have h6 : nb ≤ 6 := hI.2.2.1.1.2
  have h0 : 1 ≤ nb := hI.2.2.1.1.1
  have v0 := hI.2.1
  have hfo := hI.2.2.1.2.2.1
  generalize hQ : (fun (T' : gT) (gi' : gI) (gr' : gR) (v : Option Value) => T' = T ∧ gr' = gr ∧ MOff gi gi' m ∧ v = some (.int (noI (atM par pl hd kd (smF par pl hd kd nb fo back)))) ∧ MInv T gi' gr m nb par kd hd li ct rk rks w h pl cs (atM par pl hd kd (smF par pl hd kd nb fo back)) (atM par pl hd kd pr) (lookS nb par kd hd li pl (smF par pl hd kd nb fo back) pr ar co D).1 (lookS nb par kd hd li pl (smF par pl hd kd nb fo back) pr ar co D).2.1 (lookS nb par kd hd li pl (smF par pl hd kd nb fo back) pr ar co D).2.2 F) = QQ
  have fin : ∀ (q : Option Nat) (v2 v3 v4 : Value), q = smF par pl hd kd nb fo back → G E mMO_step 108 [.ref m, .int (bI back), v2, v3, v4] [.int (noI q), .ref m] T gi gr 0 0 QQ := by
    rintro q v2 v3 v4 rfl
    refine G_putI wMO_69 (Or.inl rfl) dMO_step_108 hI.1.1 rfl rfl ?_
    have hI2 := hI.s0 (gi' := gu gi m 23 (noI (smF par pl hd kd nb fo back))) (rks' := rks) (w' := w) (h' := h) (fo' := smF par pl hd kd nb fo back) (pr' := pr) (fun a ha => gu_off ha) ⟨by rw [gu_ne (by omega)]; exact v0.1, by rw [gu_ne (by omega)]; exact v0.2.1, by rw [gu_ne (by omega)]; exact v0.2.2.1, by rw [gu_ne (by omega)]; exact v0.2.2.2.1, gu_same, by rw [gu_ne (by omega)]; exact v0.2.2.2.2.2⟩ (smF_lt h6 hfo h0) hI.2.2.1.2.2.2
    have hO2 : MOff gi (gu gi m 23 (noI (smF par pl hd kd nb fo back))) m := MOff.rf.gu (by omega)
    generalize gu gi m 23 (noI (smF par pl hd kd nb fo back)) = g2 at hI2 hO2 ⊢
    refine G_aload_n dMO_step_111 rfl ?_
    refine G_callV (As := []) (rest := []) gMO_step_MO_look lMO_93.1 lMO_93.2.1 lMO_93.2.2.1 lMO_93.2.2.2 dMO_step_112 rfl (Nat.le_of_ble_eq_true rfl) hI.1.1 ⟨by decide, by decide⟩ (cMO_look hI2) ?_
    rintro T9 g9 r9 _ ⟨e8, e9, rfl, hO9, hI9⟩
    cases e8.symm
    cases e9.symm
    refine G_st (st' := []) rfl ?_
    refine G_aload_n dMO_step_115 rfl ?_
    refine G_getI fMO_69 dMO_step_116 hI.1.1 ?_
    rw [hI9.2.1.2.2.2.2.1]
    subst hQ
    exact G_ireturn dMO_step_119 rfl rfl (by decide) (by decide) ⟨rfl, rfl, hO2.tr hO9, rfl, hI9⟩
  have ex : ∀ (b : Int32) (l : Bool) (v4 : Value), (l = true → ∃ j, b = nI j ∧ smF par pl hd kd nb fo back = some j) → (l = false → smF par pl hd kd nb fo back = none) → G E mMO_step 98 [.ref m, .int (bI back), .int b, .int (bI l), v4] [] T gi gr 0 0 QQ := by
    intro b l v4 ht hf
    refine G_aload_n dMO_step_98 rfl ?_
    refine G_iload_n dMO_step_99 rfl ?_
    refine G_if_eq dMO_step_100 (fun h1 => ?_) (fun h1 => ?_)
    · refine G_iconst (v := noI none) dMO_step_107 (by decide) ?_
      exact fin none _ _ _ (hf (bI_z.mp h1)).symm
    · obtain ⟨j, hj1, hj2⟩ := ht (bt h1)
      subst hj1
      refine G_iload_n dMO_step_103 rfl ?_
      refine G_goto dMO_step_104 ?_
      exact fin (some j) _ _ _ hj2.symm
  have loop : ∀ (n k : Nat), k + n = nb + 1 → ∀ l : Bool, (l = true → ∃ j, smB back nb (stA0 back fo nb) k = nI j ∧ smF par pl hd kd nb fo back = some j) → (l = false → smF par pl hd kd nb fo back = stS (caM par pl hd kd) (sxN back fo nb) n (k + 1)) → G E mMO_step 32 [.ref m, .int (bI back), .int (smB back nb (stA0 back fo nb) k), .int (bI l), .int (nI k)] [] T gi gr 0 0 QQ := by
    intro n
    induction n with
    | zero =>
      intro k hk l ht hf
      have : k = nb + 1 := by omega
      subst this
      refine G_iload dMO_step_32 rfl ?_
      refine G_aload_n dMO_step_34 rfl ?_
      refine G_getI fMO_7 dMO_step_35 hI.1.1 ?_
      rw [v0.1]
      exact G_icmp_gt dMO_step_38 (fun _ => ex _ l _ ht hf) (fun z => absurd (nI_lt (by omega) (by omega)) z)
    | succ n ih =>
      intro k hk l ht hf
      refine G_iload dMO_step_32 rfl ?_
      refine G_aload_n dMO_step_34 rfl ?_
      refine G_getI fMO_7 dMO_step_35 hI.1.1 ?_
      rw [v0.1]
      refine G_icmp_gt dMO_step_38 (fun z => absurd z (nI_nlt (by omega) (by omega))) (fun _ => ?_)
      refine G_iload_n dMO_step_41 rfl ?_
      refine G_if_ne dMO_step_42 (fun h1 => ?_) (fun h1 => ?_)
      · exact ex _ l _ ht (fun z => by rw [z] at h1; exact absurd rfl h1)
      · have hl := bI_z.mp h1
        subst hl
        have hf' := hf rfl
        have hx := sx_ok (back := back) (i := k + 1) h6 hfo (by omega) (by omega) h0
        have eB : smB back nb (stA0 back fo nb) (k + 1) = smW nb (if back = true then smB back nb (stA0 back fo nb) k - 1 else smB back nb (stA0 back fo nb) k + 1) := rfl
        have s3 : ∀ c v2, c = smB back nb (stA0 back fo nb) (k + 1) → G E mMO_step 85 [.ref m, .int (bI back), v2, .int (bI false), .int (nI k)] [.int c] T gi gr 0 0 QQ := by
          rintro c v2 rfl
          refine G_istore_n (ls' := [.ref m, .int (bI back), .int (smB back nb (stA0 back fo nb) (k + 1)), .int (bI false), .int (nI k)]) dMO_step_85 (by decide) rfl ?_
          refine G_aload_n dMO_step_86 rfl ?_
          refine G_iload_n dMO_step_87 rfl ?_
          refine G_st (st' := [.int (noI (some (sxN back fo nb (k + 1)))), .ref m]) (by rw [hx.2]; rfl) ?_
          refine G_callV (As := [.int (noI (some (sxN back fo nb (k + 1))))]) (rest := []) gMO_step_MO_can lMO_107.1 lMO_107.2.1 lMO_107.2.2.1 lMO_107.2.2.2 dMO_step_88 rfl (Nat.le_of_ble_eq_true rfl) hI.1.1 ⟨by decide, by decide⟩ (cMO_can hI (fun i hi => by cases hi; exact hx.1)) ?_
          refine same4 ?_
          refine G_st (st' := [.int (bI (canM par pl hd kd (some (sxN back fo nb (k + 1)))))]) rfl ?_
          refine G_istore_n (ls' := [.ref m, .int (bI back), .int (smB back nb (stA0 back fo nb) (k + 1)), .int (bI (canM par pl hd kd (some (sxN back fo nb (k + 1))))), .int (nI k)]) dMO_step_91 (by decide) rfl ?_
          refine G_iinc (ls' := [.ref m, .int (bI back), .int (smB back nb (stA0 back fo nb) (k + 1)), .int (bI (canM par pl hd kd (some (sxN back fo nb (k + 1))))), .int (nI (k + 1))]) dMO_step_92 rfl (nI_inc k) (by decide) rfl ?_
          refine G_goto dMO_step_95 ?_
          refine ih (k + 1) (by omega) _ (fun z => ⟨_, hx.2, ?_⟩) (fun z => ?_)
          · rw [hf']; unfold stS; rw [if_pos z]
          · rw [hf']; conv => lhs; unfold stS
            rw [if_neg (fun q => by rw [show canM par pl hd kd (some (sxN back fo nb (k + 1))) = true from q] at z; cases z)]
        have s2 : ∀ c, smB back nb (stA0 back fo nb) (k + 1) = smW nb c → G E mMO_step 58 [.ref m, .int (bI back), .int (smB back nb (stA0 back fo nb) k), .int (bI false), .int (nI k)] [.int c] T gi gr 0 0 QQ := by
          intro c ec
          refine G_istore_n (ls' := [.ref m, .int (bI back), .int c, .int (bI false), .int (nI k)]) dMO_step_58 (by decide) rfl ?_
          refine G_iload_n dMO_step_59 rfl ?_
          refine G_if_ge dMO_step_60 (fun h3 => ?_) (fun h3 => ?_)
          · refine G_iload_n dMO_step_72 rfl ?_
            refine G_aload_n dMO_step_73 rfl ?_
            refine G_getI fMO_7 dMO_step_74 hI.1.1 ?_
            rw [v0.1]
            refine G_icmp_lt dMO_step_77 (fun h4 => ?_) (fun h4 => ?_)
            · refine G_iload_n dMO_step_84 rfl ?_
              exact s3 _ _ (by rw [ec]; unfold smW; rw [if_pos h3, if_pos h4])
            · refine G_iconst (v := 0) dMO_step_80 (by decide) ?_
              refine G_goto dMO_step_81 ?_
              exact s3 _ _ (by rw [ec]; unfold smW; rw [if_pos h3, if_neg h4])
          · refine G_aload_n dMO_step_63 rfl ?_
            refine G_getI fMO_7 dMO_step_64 hI.1.1 ?_
            rw [v0.1]
            refine G_iconst (v := 1) dMO_step_67 (by decide) ?_
            refine G_isub dMO_step_68 ?_
            refine G_goto dMO_step_69 ?_
            exact s3 _ _ (by rw [ec]; unfold smW; rw [if_neg h3])
        refine G_iload_n dMO_step_45 rfl ?_
        refine G_if_eq dMO_step_46 (fun h2 => ?_) (fun h2 => ?_)
        · have hb := bI_z.mp h2
          refine G_iload_n dMO_step_55 rfl ?_
          refine G_iconst (v := 1) dMO_step_56 (by decide) ?_
          refine G_iadd dMO_step_57 ?_
          exact s2 _ (by rw [eB, if_neg (by rw [hb]; decide)])
        · refine G_iload_n dMO_step_49 rfl ?_
          refine G_iconst (v := 1) dMO_step_50 (by decide) ?_
          refine G_isub dMO_step_51 ?_
          refine G_goto dMO_step_52 ?_
          exact s2 _ (by rw [eB, if_pos (bt h2)])
  refine Ct_of (ls := [.ref m, .int (bI back), .long 0, .long 0, .long 0]) (by decide) (gcat_cons rfl (gcat_cons rfl gcat_nil)) (Nat.le_of_ble_eq_true rfl) rfl ?_
  have beg : ∀ b0, b0 = stA0 back fo nb → G E mMO_step 26 [.ref m, .int (bI back), .long 0, .long 0, .long 0] [.int b0] T gi gr 0 0 QQ := by
    rintro b0 rfl
    refine G_istore_n (ls' := [.ref m, .int (bI back), .int (stA0 back fo nb), .long 0, .long 0]) dMO_step_26 (by decide) rfl ?_
    refine G_iconst (v := bI false) dMO_step_27 (by decide) ?_
    refine G_istore_n (ls' := [.ref m, .int (bI back), .int (stA0 back fo nb), .int (bI false), .long 0]) dMO_step_28 (by decide) rfl ?_
    refine G_iconst (v := nI 0) dMO_step_29 (by decide +kernel) ?_
    refine G_istore (ls' := [.ref m, .int (bI back), .int (stA0 back fo nb), .int (bI false), .int (nI 0)]) dMO_step_30 (by decide) rfl ?_
    exact loop (nb + 1) 0 (by omega) false (fun z => by cases z) (fun _ => rfl)
  refine G_aload_n dMO_step_0 rfl ?_
  refine G_getI fMO_69 dMO_step_1 hI.1.1 ?_
  rw [v0.2.2.2.2.1]
  cases hfq : fo with
  | none =>
    rw [hfq] at beg
    refine G_if_ge dMO_step_4 (fun z => absurd z (by decide)) (fun _ => ?_)
    refine G_iload_n dMO_step_7 rfl ?_
    refine G_if_eq dMO_step_8 (fun h2 => ?_) (fun h2 => ?_)
    · refine G_iconst (v := -1) dMO_step_18 (by decide) ?_
      refine G_goto dMO_step_19 ?_
      exact beg _ (by unfold stA0; dsimp only; rw [if_neg (by rw [bI_z.mp h2]; decide)])
    · refine G_aload_n dMO_step_11 rfl ?_
      refine G_getI fMO_7 dMO_step_12 hI.1.1 ?_
      rw [v0.1]
      refine G_goto dMO_step_15 ?_
      exact beg _ (by unfold stA0; dsimp only; rw [if_pos (bt h2)])
  | some f =>
    rw [hfq] at beg
    have hf := hfo f hfq
    refine G_if_ge dMO_step_4 (fun _ => ?_) (fun z => absurd (nI_pos' (by omega)) z)
    refine G_aload_n dMO_step_22 rfl ?_
    refine G_getI fMO_69 dMO_step_23 hI.1.1 ?_
    rw [v0.2.2.2.2.1, hfq]
    exact beg _ rfl
def pcM (par : Nat → Option Nat) (pl : Nat → Int32) (hd : Nat → Bool) (rk : Nat → Nat) (nb : Nat) (co : Nat → Int32) (z : Nat) : Int32 := match htM par pl hd rk (nI (z % 24)) (nI (z / 24)) nb with
  | none => 0
  | some b => co b
theorem ptD_e {D : Nat → Bool} {z : Nat} (h : D z = false) : ptD D z = ptD D (z + 1) := (ptD_sk h).symm
theorem pt_loop {E : gE} {T : gT} {g0 : gI} {gr : gR} {m : Nat} {nb : Nat} {par : Nat → Option Nat} {kd : Nat → Int32} {hd : Nat → Bool} {li : Nat → Bool} {ct : Nat → Int32} {rk : Nat → Nat} {rks : Nat} {w : Int32} {h : Int32} {pl : Nat → Int32} {cs : Nat → Option K5} {fo : Option Nat} {pr : Option Nat} {ar : Nat → Nat → Bool} {co : Nat → Int32} {D : Nat → Bool} {F : Nat → Int32} (h6 : nb ≤ 6) (hrk : ∀ j, j < nb → rk j < 1000000) {Q : gQ} (kx : ∀ gi : gI, MInv T gi gr m nb par kd hd li ct rk rks w h pl cs fo pr ar co (ptD D 384) (ptF F D (pcM par pl hd rk nb co) 384) → MOff g0 gi m → Q T gi gr (some (.int (nI (ptN F D (pcM par pl hd rk nb co) 384))))) : ∀ (n z : Nat), z + n = 384 → ∀ (gi : gI) (v3 v4 : Value), MInv T gi gr m nb par kd hd li ct rk rks w h pl cs fo pr ar co (ptD D z) (ptF F D (pcM par pl hd rk nb co) z) → MOff g0 gi m → G E mMO_paint 4 [.ref m, .int (nI (ptN F D (pcM par pl hd rk nb co) z)), .int (nI z), v3, v4] [] T gi gr 0 0 Q := by
  intro n
  induction n with
  | zero =>
    intro z hz gi v3 v4 hI hO
    have : z = 384 := by omega
    subst this
    refine G_iload_n dMO_paint_4 rfl ?_
    refine G_sipush (v := 384) dMO_paint_5 (by decide) ?_
    refine G_icmp_ge dMO_paint_8 (fun _ => ?_) (fun z => absurd (by decide +kernel) z)
    refine G_iload_n dMO_paint_92 rfl ?_
    exact G_ireturn dMO_paint_93 rfl rfl (by decide) (by decide) (kx gi hI hO)
  | succ n ih =>
    intro z hz gi v3 v4 hI hO
    have nxt : ∀ (gi : gI) (c : Nat) (v3 v4 : Value), c = ptN F D (pcM par pl hd rk nb co) (z + 1) → MInv T gi gr m nb par kd hd li ct rk rks w h pl cs fo pr ar co (ptD D (z + 1)) (ptF F D (pcM par pl hd rk nb co) (z + 1)) → MOff g0 gi m → G E mMO_paint 86 [.ref m, .int (nI c), .int (nI z), v3, v4] [] T gi gr 0 0 Q := by
      rintro gi c v3 v4 rfl hI hO
      refine G_iinc (ls' := [.ref m, .int (nI (ptN F D (pcM par pl hd rk nb co) (z + 1))), .int (nI (z + 1)), v3, v4]) dMO_paint_86 rfl (nI_inc z) (by decide) rfl ?_
      refine G_goto dMO_paint_89 ?_
      exact ih (z + 1) (by omega) gi v3 v4 hI hO
    refine G_iload_n dMO_paint_4 rfl ?_
    refine G_sipush (v := 384) dMO_paint_5 (by decide) ?_
    refine G_icmp_ge dMO_paint_8 (fun q => absurd q (nI_ge (b := 384) (by omega) (by decide))) (fun _ => ?_)
    refine G_aload_n dMO_paint_11 rfl ?_
    refine G_getRs fMO_81 dMO_paint_12 hI.1.1 hI.1.r21 ?_
    refine G_iload_n dMO_paint_15 rfl ?_
    refine G_zaldN dMO_paint_16 hI.1.t21 hI.1.l21 (by decide) (by omega) ?_
    rw [hI.2.2.2.2.2.2.2.2.2.2.2.2.2.1 z (by omega), ptD_at]
    refine G_if_ne dMO_paint_17 (fun h1 => ?_) (fun h1 => ?_)
    · have hdz := bt h1
      refine G_aload_n dMO_paint_23 rfl ?_
      refine G_getRs fMO_81 dMO_paint_24 hI.1.1 hI.1.r21 ?_
      refine G_iload_n dMO_paint_27 rfl ?_
      refine G_iconst (v := bI false) dMO_paint_28 (by decide) ?_
      refine G_zastN dMO_paint_29 hI.1.t21 hI.1.l21 (by decide) (by omega) (bI_01 _) ?_
      have hI2 := hI.s21 (gi' := gu gi (m + 21) z (bI false)) (D' := ptD D (z + 1)) (fun a ha => gu_off ha) (fun j hj => by rw [← ptD_pt]; exact gu_bB (hI.2.2.2.2.2.2.2.2.2.2.2.2.2.1 j hj))
      have hO2 : MOff g0 (gu gi (m + 21) z (bI false)) m := hO.gu (by omega)
      generalize gu gi (m + 21) z (bI false) = g2 at hI2 hO2 ⊢
      refine G_aload_n dMO_paint_30 rfl ?_
      refine G_iload_n dMO_paint_31 rfl ?_
      refine G_bipush (v := 24) dMO_paint_32 (by decide) ?_
      refine G_irem dMO_paint_34 (by decide) ?_
      refine G_iload_n dMO_paint_35 rfl ?_
      refine G_bipush (v := 24) dMO_paint_36 (by decide) ?_
      refine G_idiv dMO_paint_38 (by decide) ?_
      refine G_st (st' := [.int (nI (z / 24)), .int (nI (z % 24)), .ref m]) (by rw [nI_r24 (by omega), nI_d24 (by omega)]) ?_
      refine G_callV (As := [.int (nI (z % 24)), .int (nI (z / 24))]) (rest := []) gMO_paint_MO_hit lMO_175.1 lMO_175.2.1 lMO_175.2.2.1 lMO_175.2.2.2 dMO_paint_39 rfl (Nat.le_of_ble_eq_true rfl) hI.1.1 ⟨by decide, by decide⟩ (cMO_hit hI2 hrk) ?_
      refine same4 ?_
      have hlt := htM_lt (par := par) (pl := pl) (hd := hd) (rk := rk) (x := nI (z % 24)) (y := nI (z / 24)) nb
      have ep : pcM par pl hd rk nb co z = match htM par pl hd rk (nI (z % 24)) (nI (z / 24)) nb with | none => 0 | some b => co b := rfl
      generalize htM par pl hd rk (nI (z % 24)) (nI (z / 24)) nb = u at hlt ep ⊢
      refine G_st (st' := [.int (noI u)]) rfl ?_
      refine G_istore_n (ls' := [.ref m, .int (nI (ptN F D (pcM par pl hd rk nb co) z)), .int (nI z), .int (noI u), v4]) dMO_paint_42 (by decide) rfl ?_
      have s2 : ∀ c, c = (pcM par pl hd rk nb co) z → G E mMO_paint 57 [.ref m, .int (nI (ptN F D (pcM par pl hd rk nb co) z)), .int (nI z), .int (noI u), v4] [.int c] T g2 gr 0 0 Q := by
        rintro c rfl
        refine G_istore (ls' := [.ref m, .int (nI (ptN F D (pcM par pl hd rk nb co) z)), .int (nI z), .int (noI u), .int ((pcM par pl hd rk nb co) z)]) dMO_paint_57 (by decide) rfl ?_
        refine G_aload_n dMO_paint_59 rfl ?_
        refine G_getRs fMO_84 dMO_paint_60 hI.1.1 hI.1.r22 ?_
        refine G_iload_n dMO_paint_63 rfl ?_
        refine G_ialdN dMO_paint_64 hI.1.t22 hI.1.l22 (by decide) (by omega) ?_
        rw [hI2.2.2.2.2.2.2.2.2.2.2.2.2.2.2 z (by omega), ptF_at]
        refine G_iload dMO_paint_65 rfl ?_
        have s3 : ∀ c, c = ptN F D (pcM par pl hd rk nb co) (z + 1) → G E mMO_paint 77 [.ref m, .int (nI (ptN F D (pcM par pl hd rk nb co) z)), .int (nI z), .int (noI u), .int ((pcM par pl hd rk nb co) z)] [.int (nI c)] T g2 gr 0 0 Q := by
          rintro c rfl
          refine G_istore_n (ls' := [.ref m, .int (nI (ptN F D (pcM par pl hd rk nb co) (z + 1))), .int (nI z), .int (noI u), .int ((pcM par pl hd rk nb co) z)]) dMO_paint_77 (by decide) rfl ?_
          refine G_aload_n dMO_paint_78 rfl ?_
          refine G_getRs fMO_84 dMO_paint_79 hI.1.1 hI.1.r22 ?_
          refine G_iload_n dMO_paint_82 rfl ?_
          refine G_iload dMO_paint_83 rfl ?_
          refine G_iastN dMO_paint_85 hI.1.t22 hI.1.l22 (by decide) (by omega) ?_
          exact nxt _ _ _ _ rfl (hI2.s22 (fun a ha => gu_off ha) (fun j hj => by rw [← ptF_pt hdz]; exact gu_b (hI2.2.2.2.2.2.2.2.2.2.2.2.2.2.2 j hj))) (hO2.gu (by omega))
        refine G_icmp_ne dMO_paint_67 (fun h2 => ?_) (fun h2 => ?_)
        · refine G_iload_n dMO_paint_74 rfl ?_
          refine G_iconst (v := 1) dMO_paint_75 (by decide) ?_
          refine G_iadd dMO_paint_76 ?_
          rw [nI_1]
          refine s3 _ ?_
          show _ = ptN F D (pcM par pl hd rk nb co) z + (if D z = true ∧ ¬ F z = (pcM par pl hd rk nb co) z then 1 else 0)
          rw [if_pos ⟨hdz, h2⟩]
        · refine G_iload_n dMO_paint_70 rfl ?_
          refine G_goto dMO_paint_71 ?_
          refine s3 _ ?_
          show _ = ptN F D (pcM par pl hd rk nb co) z + (if D z = true ∧ ¬ F z = (pcM par pl hd rk nb co) z then 1 else 0)
          rw [if_neg (fun q => q.2 h2)]; rfl
      refine G_iload_n dMO_paint_43 rfl ?_
      cases u with
      | none =>
        refine G_if_ge dMO_paint_44 (fun q => absurd q (by decide)) (fun _ => ?_)
        refine G_iconst (v := 0) dMO_paint_47 (by decide) ?_
        refine G_goto dMO_paint_48 ?_
        exact s2 _ ep.symm
      | some b =>
        have hb := hlt b rfl
        refine G_if_ge dMO_paint_44 (fun _ => ?_) (fun q => absurd (nI_pos' (by omega)) q)
        refine G_aload_n dMO_paint_51 rfl ?_
        refine G_getRs fMO_78 dMO_paint_52 hI.1.1 hI.1.r20 ?_
        refine G_iload_n (x := nI b) dMO_paint_55 rfl ?_
        refine G_ialdN dMO_paint_56 hI.1.t20 hI.1.l20 (by decide) (by omega) ?_
        rw [hI2.2.2.2.2.2.2.2.2.2.2.2.2.1 b (by omega)]
        exact s2 _ ep.symm
    · have hdz := bI_z.mp h1
      refine G_goto dMO_paint_20 ?_
      refine nxt gi _ _ _ (ptN_sk (fun q => by rw [hdz] at q; exact absurd q.1 (by decide))) ?_ hO
      rw [ptD_sk hdz, ptF_sk hdz]
      exact hI
theorem M_paint {E : gE} {T : gT} {gi : gI} {gr : gR} {m : Nat} {nb : Nat} {par : Nat → Option Nat} {kd : Nat → Int32} {hd : Nat → Bool} {li : Nat → Bool} {ct : Nat → Int32} {rk : Nat → Nat} {rks : Nat} {w : Int32} {h : Int32} {pl : Nat → Int32} {cs : Nat → Option K5} {fo : Option Nat} {pr : Option Nat} {ar : Nat → Nat → Bool} {co : Nat → Int32} {D : Nat → Bool} {F : Nat → Int32} (hI : MInv T gi gr m nb par kd hd li ct rk rks w h pl cs fo pr ar co D F) (hrk : ∀ j, j < nb → rk j < 1000000) : Ct E mMO_paint [.ref m] T gi gr (fun T' gi' gr' v => T' = T ∧ gr' = gr ∧ MOff gi gi' m ∧ v = some (.int (nI (ptN F D (pcM par pl hd rk nb co) 384))) ∧ MInv T gi' gr m nb par kd hd li ct rk rks w h pl cs fo pr ar co (ptD D 384) (ptF F D (pcM par pl hd rk nb co) 384)) := by
  refine Ct_of (ls := [.ref m, .long 0, .long 0, .long 0, .long 0]) (by decide) (gcat_cons rfl gcat_nil) (Nat.le_of_ble_eq_true rfl) rfl ?_
  refine G_iconst (v := nI 0) dMO_paint_0 (by decide +kernel) ?_
  refine G_istore_n (ls' := [.ref m, .int (nI 0), .long 0, .long 0, .long 0]) dMO_paint_1 (by decide) rfl ?_
  refine G_iconst (v := nI 0) dMO_paint_2 (by decide +kernel) ?_
  refine G_istore_n (ls' := [.ref m, .int (nI 0), .int (nI 0), .long 0, .long 0]) dMO_paint_3 (by decide) rfl ?_
  refine pt_loop (F := F) (D := D) hI.2.2.1.1.2 hrk (g0 := gi) (fun g2 h1 h2 => ⟨rfl, rfl, h2, rfl, h1⟩) 384 0 rfl gi _ _ ?_ MOff.rf
  have e1 : ptD D 0 = D := ptD_0
  have e2 : ptF F D (pcM par pl hd rk nb co) 0 = F := ptF_0
  rw [e1, e2]
  exact hI
