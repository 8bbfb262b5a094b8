def lsM (par : Nat → Option Nat) (rk : Nat → Nat) (i : Nat) : Nat → Bool
  | 0 => true
  | k + 1 => if par (k + 1) = par i ∧ rk i < rk (k + 1) then false else lsM par rk i k
theorem il_loopM {E : gE} {T : gT} {gi : gI} {gr : gR} {m : Nat} {nb : Nat} {par : Nat → Option Nat} {kd : Nat → Int32} {hd : Nat → Bool} {li : Nat → Bool} {ct : Nat → Int32} {rk : Nat → Nat} {rks : Nat} {w : Int32} {h : Int32} {pl : Nat → Int32} {cs : Nat → Option K5} {fo : Option Nat} {pr : Option Nat} {ar : Nat → Nat → Bool} {co : Nat → Int32} {D : Nat → Bool} {F : Nat → Int32} {i : Nat} (hI : MInv T gi gr m nb par kd hd li ct rk rks w h pl cs fo pr ar co D F) (hrk : ∀ j, j < nb → rk j < 1000000) (hi : i < nb) : ∀ (n k : Nat), k + 1 + n = nb → G E mMO_isLast 4 [.ref m, .int (nI i), .int (bI (lsM par rk i k)), .int (nI (k + 1))] [] T gi gr 0 0 (fun T' gi' gr' v => T' = T ∧ gi' = gi ∧ gr' = gr ∧ v = some (.int (bI (lsM par rk i (nb - 1))))) := by
  have h6 : nb ≤ 6 := hI.2.2.1.1.2
  intro n
  induction n with
  | zero =>
    intro k hk
    refine G_iload_n dMO_isLast_4 rfl ?_
    refine G_aload_n dMO_isLast_5 rfl ?_
    refine G_getI fMO_7 dMO_isLast_6 hI.1.1 ?_
    rw [hI.2.1.1]
    have : k = nb - 1 := by omega
    subst this
    refine G_icmp_ge dMO_isLast_9 (fun _ => ?_) (fun z => absurd (nI_le (by omega) (by omega)) z)
    refine G_iload_n dMO_isLast_50 rfl ?_
    exact G_ireturn dMO_isLast_51 rfl (nr_z (bI_01 _)) (by decide) (by decide) ⟨rfl, rfl, rfl, rfl⟩
  | succ n ih =>
    intro k hk
    have nxt : ∀ v2 : Bool, v2 = lsM par rk i (k + 1) → G E mMO_isLast 44 [.ref m, .int (nI i), .int (bI v2), .int (nI (k + 1))] [] T gi gr 0 0 (fun T' gi' gr' v => T' = T ∧ gi' = gi ∧ gr' = gr ∧ v = some (.int (bI (lsM par rk i (nb - 1))))) := by
      rintro v2 rfl
      refine G_iinc (ls' := [.ref m, .int (nI i), .int (bI (lsM par rk i (k + 1))), .int (nI ((k + 1) + 1))]) dMO_isLast_44 rfl (nI_inc (k + 1)) (by decide) rfl ?_
      refine G_goto dMO_isLast_47 ?_
      exact ih (k + 1) (by omega)
    refine G_iload_n dMO_isLast_4 rfl ?_
    refine G_aload_n dMO_isLast_5 rfl ?_
    refine G_getI fMO_7 dMO_isLast_6 hI.1.1 ?_
    rw [hI.2.1.1]
    refine G_icmp_ge dMO_isLast_9 (fun z => absurd z (nI_ge (by omega) (by omega))) (fun _ => ?_)
    refine G_aload_n dMO_isLast_12 rfl ?_
    refine G_getRs fMO_17 dMO_isLast_13 hI.1.1 hI.1.r2 ?_
    refine G_iload_n dMO_isLast_16 rfl ?_
    refine G_ialdN dMO_isLast_17 hI.1.t2 hI.1.l2 (by decide) (by omega) ?_
    rw [hI.2.2.2.2.1 (k + 1) (by omega)]
    refine G_aload_n dMO_isLast_18 rfl ?_
    refine G_getRs fMO_17 dMO_isLast_19 hI.1.1 hI.1.r2 ?_
    refine G_iload_n dMO_isLast_22 rfl ?_
    refine G_ialdN dMO_isLast_23 hI.1.t2 hI.1.l2 (by decide) (by omega) ?_
    rw [hI.2.2.2.2.1 i (by omega)]
    have hpe := noI_inj (fun i hi => by have := hI.2.2.1.2.1 (k + 1) i (by omega) hi; omega) (fun j hj => by have := hI.2.2.1.2.1 i j hi hj; omega)
    refine G_icmp_ne dMO_isLast_24 (fun h1 => nxt _ ?_) (fun h1 => ?_)
    · show _ = if par (k + 1) = par i ∧ rk i < rk (k + 1) then false else lsM par rk i k
      rw [if_neg (fun z => h1 (hpe.mpr z.1))]
    · refine G_aload_n dMO_isLast_27 rfl ?_
      refine G_getRs fMO_30 dMO_isLast_28 hI.1.1 hI.1.r6 ?_
      refine G_iload_n dMO_isLast_31 rfl ?_
      refine G_ialdN dMO_isLast_32 hI.1.t6 hI.1.l6 (by decide) (by omega) ?_
      rw [hI.2.2.2.2.2.2.2.2.1 (k + 1) (by omega)]
      refine G_aload_n dMO_isLast_33 rfl ?_
      refine G_getRs fMO_30 dMO_isLast_34 hI.1.1 hI.1.r6 ?_
      refine G_iload_n dMO_isLast_37 rfl ?_
      refine G_ialdN dMO_isLast_38 hI.1.t6 hI.1.l6 (by decide) (by omega) ?_
      rw [hI.2.2.2.2.2.2.2.2.1 i (by omega)]
      have r1 := hrk (k + 1) (by omega)
      have r2 := hrk i hi
      refine G_icmp_le dMO_isLast_39 (fun h2 => nxt _ ?_) (fun h2 => ?_)
      · show _ = if par (k + 1) = par i ∧ rk i < rk (k + 1) then false else lsM par rk i k
        rw [if_neg (fun z => by have := (nI_leI (by omega) (by omega)).mp h2; omega)]
      · refine G_iconst (v := bI false) dMO_isLast_42 (by decide) ?_
        refine G_istore_n (ls' := [.ref m, .int (nI i), .int (bI false), .int (nI (k + 1))]) dMO_isLast_43 (by decide) rfl ?_
        refine nxt false ?_
        show _ = if par (k + 1) = par i ∧ rk i < rk (k + 1) then false else lsM par rk i k
        rw [if_pos ⟨hpe.mp h1, by rcases Nat.lt_or_ge (rk i) (rk (k + 1)) with c | c; exact c; exact absurd (nI_le c (by omega)) h2⟩]
theorem cMO_isLast {E : gE} {T : gT} {gi : gI} {gr : gR} {m : Nat} {nb : Nat} {par : Nat → Option Nat} {kd : Nat → Int32} {hd : Nat → Bool} {li : Nat → Bool} {ct : Nat → Int32} {rk : Nat → Nat} {rks : Nat} {w : Int32} {h : Int32} {pl : Nat → Int32} {cs : Nat → Option K5} {fo : Option Nat} {pr : Option Nat} {ar : Nat → Nat → Bool} {co : Nat → Int32} {D : Nat → Bool} {F : Nat → Int32} {i : Nat} (hI : MInv T gi gr m nb par kd hd li ct rk rks w h pl cs fo pr ar co D F) (hrk : ∀ j, j < nb → rk j < 1000000) (hi : i < nb) : Ct E mMO_isLast [.ref m, .int (nI i)] T gi gr (fun T' gi' gr' v => T' = T ∧ gi' = gi ∧ gr' = gr ∧ v = some (.int (bI (lsM par rk i (nb - 1))))) := by
  refine Ct_of (ls := [.ref m, .int (nI i), .long 0, .long 0]) (by decide) (gcat_cons rfl (gcat_cons rfl gcat_nil)) (Nat.le_of_ble_eq_true rfl) rfl ?_
  refine G_iconst (v := bI true) dMO_isLast_0 (by decide) ?_
  refine G_istore_n (ls' := [.ref m, .int (nI i), .int (bI true), .long 0]) dMO_isLast_1 (by decide) rfl ?_
  refine G_iconst (v := nI 1) dMO_isLast_2 (by decide +kernel) ?_
  refine G_istore_n (ls' := [.ref m, .int (nI i), .int (bI true), .int (nI (0 + 1))]) dMO_isLast_3 (by decide) rfl ?_
  have h1 : 1 ≤ nb := hI.2.2.1.1.1
  exact il_loopM hI hrk hi (nb - 1) 0 (by omega)
def ifJ (par : Nat → Option Nat) (rk : Nat → Nat) (a b u : Nat) : Nat → Nat → Option Bool
  | 0, _ => none
  | n + 1, j => match anP par b j with
    | none => none
    | some t => if u = t then some (decide (t = b) && decide (¬ a = b)) else if par u = par t then some (decide (rk t < rk u)) else ifJ par rk a b u n (j + 1)
def ifK (par : Nat → Option Nat) (rk : Nat → Nat) (a b : Nat) : Nat → Nat → Bool
  | 0, _ => false
  | n + 1, k => match anP par a k with
    | none => false
    | some u => match ifJ par rk a b u 6 0 with
      | some r => r
      | none => ifK par rk a b n (k + 1)
def frM (par : Nat → Option Nat) (rk : Nat → Nat) (a b : Nat) : Bool := ifK par rk a b 6 0
theorem if_in {E : gE} {T : gT} {gi : gI} {gr : gR} {m : Nat} {nb : Nat} {par : Nat → Option Nat} {kd : Nat → Int32} {hd : Nat → Bool} {li : Nat → Bool} {ct : Nat → Int32} {rk : Nat → Nat} {rks : Nat} {w : Int32} {h : Int32} {pl : Nat → Int32} {cs : Nat → Option K5} {fo : Option Nat} {pr : Option Nat} {ar : Nat → Nat → Bool} {co : Nat → Int32} {D : Nat → Bool} {F : Nat → Int32} {a b u k : Nat} {Q : gQ} (hI : MInv T gi gr m nb par kd hd li ct rk rks w h pl cs fo pr ar co D F) (hrk : ∀ j, j < nb → rk j < 1000000) (ha : a < nb) (hb : b < nb) (hu : u < nb) (r : Option Bool) (hr : r = ifJ par rk a b u 6 0) (k1 : ∀ q : Bool, r = some q → Q T gi gr (some (.int (bI q)))) (k2 : ∀ v5 v6, r = none → G E mMO_inFront 110 [.ref m, .int (nI a), .int (nI b), .int (nI u), .int (nI k), v5, v6] [] T gi gr 0 0 Q) : ∀ (n j : Nat), j + n = 6 → r = ifJ par rk a b u n j → G E mMO_inFront 22 [.ref m, .int (nI a), .int (nI b), .int (nI u), .int (nI k), .int (noI (anP par b j)), .int (nI j)] [] T gi gr 0 0 Q := by
  have h6 : nb ≤ 6 := hI.2.2.1.1.2
  intro n
  induction n with
  | zero =>
    intro j hj e
    have : j = 6 := by omega
    subst this
    refine G_iload dMO_inFront_22 rfl ?_
    refine G_bipush (v := 6) dMO_inFront_24 (by decide) ?_
    exact G_icmp_ge dMO_inFront_26 (fun _ => k2 _ _ e) (fun z => absurd (by decide +kernel) z)
  | succ n ih =>
    intro j hj e
    refine G_iload dMO_inFront_22 rfl ?_
    refine G_bipush (v := 6) dMO_inFront_24 (by decide) ?_
    refine G_icmp_ge dMO_inFront_26 (fun z => absurd z (nI_ge (b := 6) (by omega) (by decide))) (fun _ => ?_)
    refine G_iload dMO_inFront_29 rfl ?_
    unfold ifJ at e
    cases ht : anP par b j with
    | none =>
      rw [ht] at e
      exact G_if_lt dMO_inFront_31 (fun _ => k2 _ _ e) (fun z => absurd noI_neg z)
    | some t =>
      rw [ht] at e
      dsimp only at e
      have htl := anM_lt hI.2.2.1.2.1 hb j t ht
      refine G_if_lt dMO_inFront_31 (fun z => absurd z (nI_pos (by omega))) (fun _ => ?_)
      refine G_iload_n dMO_inFront_34 rfl ?_
      refine G_iload (x := nI t) dMO_inFront_35 rfl ?_
      refine G_icmp_ne dMO_inFront_37 (fun h1 => ?_) (fun h1 => ?_)
      · rw [if_neg (fun z => h1 (by rw [z]))] at e
        have hpe := noI_inj (fun q hq => by have := hI.2.2.1.2.1 u q hu hq; omega) (fun q hq => by have := hI.2.2.1.2.1 t q htl hq; omega)
        refine G_aload_n dMO_inFront_57 rfl ?_
        refine G_getRs fMO_17 dMO_inFront_58 hI.1.1 hI.1.r2 ?_
        refine G_iload_n dMO_inFront_61 rfl ?_
        refine G_ialdN dMO_inFront_62 hI.1.t2 hI.1.l2 (by decide) (by omega) ?_
        rw [hI.2.2.2.2.1 u hu]
        refine G_aload_n dMO_inFront_63 rfl ?_
        refine G_getRs fMO_17 dMO_inFront_64 hI.1.1 hI.1.r2 ?_
        refine G_iload (x := nI t) dMO_inFront_67 rfl ?_
        refine G_ialdN dMO_inFront_69 hI.1.t2 hI.1.l2 (by decide) (by omega) ?_
        rw [hI.2.2.2.2.1 t htl]
        refine G_icmp_ne dMO_inFront_70 (fun h2 => ?_) (fun h2 => ?_)
        · rw [if_neg (fun z => h2 (hpe.mpr z))] at e
          refine G_aload_n dMO_inFront_95 rfl ?_
          refine G_getRs fMO_17 dMO_inFront_96 hI.1.1 hI.1.r2 ?_
          refine G_iload (x := nI t) dMO_inFront_99 rfl ?_
          refine G_ialdN dMO_inFront_101 hI.1.t2 hI.1.l2 (by decide) (by omega) ?_
          rw [hI.2.2.2.2.1 t htl]
          have e2 : anP par b (j + 1) = par t := by
            show (anP par b j).bind par = par t
            rw [ht]; rfl
          refine G_istore (ls' := [.ref m, .int (nI a), .int (nI b), .int (nI u), .int (nI k), .int (noI (anP par b (j + 1))), .int (nI j)]) dMO_inFront_102 (by decide) (by rw [e2]; rfl) ?_
          refine G_iinc (ls' := [.ref m, .int (nI a), .int (nI b), .int (nI u), .int (nI k), .int (noI (anP par b (j + 1))), .int (nI (j + 1))]) dMO_inFront_104 rfl (nI_inc j) (by decide) rfl ?_
          refine G_goto dMO_inFront_107 ?_
          exact ih (j + 1) (by omega) e
        · rw [if_pos (hpe.mp h2)] at e
          have r1 := hrk u hu
          have r2 := hrk t htl
          refine G_aload_n dMO_inFront_73 rfl ?_
          refine G_getRs fMO_30 dMO_inFront_74 hI.1.1 hI.1.r6 ?_
          refine G_iload_n dMO_inFront_77 rfl ?_
          refine G_ialdN dMO_inFront_78 hI.1.t6 hI.1.l6 (by decide) (by omega) ?_
          rw [hI.2.2.2.2.2.2.2.2.1 u (by omega)]
          refine G_aload_n dMO_inFront_79 rfl ?_
          refine G_getRs fMO_30 dMO_inFront_80 hI.1.1 hI.1.r6 ?_
          refine G_iload (x := nI t) dMO_inFront_83 rfl ?_
          refine G_ialdN dMO_inFront_85 hI.1.t6 hI.1.l6 (by decide) (by omega) ?_
          rw [hI.2.2.2.2.2.2.2.2.1 t (by omega)]
          refine G_icmp_le dMO_inFront_86 (fun h3 => ?_) (fun h3 => ?_)
          · refine G_iconst (v := bI false) dMO_inFront_93 (by decide) ?_
            refine G_ireturn dMO_inFront_94 rfl (nr_z (bI_01 _)) (by decide) (by decide) (k1 false ?_)
            rw [e, decide_eq_false (fun z => by have := (nI_leI (by omega) (by omega)).mp h3; omega)]
          · refine G_iconst (v := bI true) dMO_inFront_89 (by decide) ?_
            refine G_goto dMO_inFront_90 ?_
            refine G_ireturn dMO_inFront_94 rfl (nr_z (bI_01 _)) (by decide) (by decide) (k1 true ?_)
            rw [e, decide_eq_true (by rcases Nat.lt_or_ge (rk t) (rk u) with c | c; exact c; exact absurd (nI_le c (by omega)) h3)]
      · have hut : u = t := (nI_eq (by omega) (by omega)).mp h1
        rw [if_pos hut] at e
        refine G_iload (x := nI t) dMO_inFront_40 rfl ?_
        refine G_iload_n dMO_inFront_42 rfl ?_
        refine G_icmp_ne dMO_inFront_43 (fun h2 => ?_) (fun h2 => ?_)
        · refine G_iconst (v := bI false) dMO_inFront_55 (by decide) ?_
          refine G_ireturn dMO_inFront_56 rfl (nr_z (bI_01 _)) (by decide) (by decide) (k1 false ?_)
          rw [e, decide_eq_false (fun z => h2 (by rw [z]))]; rfl
        · have htb : t = b := (nI_eq (by omega) (by omega)).mp h2
          refine G_iload_n dMO_inFront_46 rfl ?_
          refine G_iload_n dMO_inFront_47 rfl ?_
          refine G_icmp_eq dMO_inFront_48 (fun h3 => ?_) (fun h3 => ?_)
          · refine G_iconst (v := bI false) dMO_inFront_55 (by decide) ?_
            refine G_ireturn dMO_inFront_56 rfl (nr_z (bI_01 _)) (by decide) (by decide) (k1 false ?_)
            rw [e, decide_eq_true htb, decide_eq_false (fun z => z ((nI_eq (by omega) (by omega)).mp h3))]; rfl
          · refine G_iconst (v := bI true) dMO_inFront_51 (by decide) ?_
            refine G_goto dMO_inFront_52 ?_
            refine G_ireturn dMO_inFront_56 rfl (nr_z (bI_01 _)) (by decide) (by decide) (k1 true ?_)
            rw [e, decide_eq_true htb, decide_eq_true (show ¬ a = b from fun z => h3 (by rw [z]))]; rfl
theorem if_out {E : gE} {T : gT} {gi : gI} {gr : gR} {m : Nat} {nb : Nat} {par : Nat → Option Nat} {kd : Nat → Int32} {hd : Nat → Bool} {li : Nat → Bool} {ct : Nat → Int32} {rk : Nat → Nat} {rks : Nat} {w : Int32} {h : Int32} {pl : Nat → Int32} {cs : Nat → Option K5} {fo : Option Nat} {pr : Option Nat} {ar : Nat → Nat → Bool} {co : Nat → Int32} {D : Nat → Bool} {F : Nat → Int32} {a b : Nat} (hI : MInv T gi gr m nb par kd hd li ct rk rks w h pl cs fo pr ar co D F) (hrk : ∀ j, j < nb → rk j < 1000000) (ha : a < nb) (hb : b < nb) : ∀ (n k : Nat), k + n = 6 → frM par rk a b = ifK par rk a b n k → ∀ v5 v6, G E mMO_inFront 5 [.ref m, .int (nI a), .int (nI b), .int (noI (anP par a k)), .int (nI k), v5, v6] [] T gi gr 0 0 (fun T' gi' gr' v => T' = T ∧ gi' = gi ∧ gr' = gr ∧ v = some (.int (bI (frM par rk a b)))) := by
  have h6 : nb ≤ 6 := hI.2.2.1.1.2
  have no : frM par rk a b = false → ∀ v3 v4 v5 v6, G E mMO_inFront 123 [.ref m, .int (nI a), .int (nI b), v3, v4, v5, v6] [] T gi gr 0 0 (fun T' gi' gr' v => T' = T ∧ gi' = gi ∧ gr' = gr ∧ v = some (.int (bI (frM par rk a b)))) := by
    intro e v3 v4 v5 v6
    refine G_iconst (v := bI false) dMO_inFront_123 (by decide) ?_
    exact G_ireturn dMO_inFront_124 rfl (nr_z (bI_01 _)) (by decide) (by decide) ⟨rfl, rfl, rfl, by rw [e]⟩
  intro n
  induction n with
  | zero =>
    intro k hk e v5 v6
    have : k = 6 := by omega
    subst this
    refine G_iload dMO_inFront_5 rfl ?_
    refine G_bipush (v := 6) dMO_inFront_7 (by decide) ?_
    exact G_icmp_ge dMO_inFront_9 (fun _ => no e _ _ _ _) (fun z => absurd (by decide +kernel) z)
  | succ n ih =>
    intro k hk e v5 v6
    refine G_iload dMO_inFront_5 rfl ?_
    refine G_bipush (v := 6) dMO_inFront_7 (by decide) ?_
    refine G_icmp_ge dMO_inFront_9 (fun z => absurd z (nI_ge (b := 6) (by omega) (by decide))) (fun _ => ?_)
    refine G_iload_n dMO_inFront_12 rfl ?_
    unfold ifK at e
    cases hu : anP par a k with
    | none =>
      rw [hu] at e
      exact G_if_lt dMO_inFront_13 (fun _ => no e _ _ _ _) (fun z => absurd noI_neg z)
    | some u =>
      rw [hu] at e
      dsimp only at e
      have hul := anM_lt hI.2.2.1.2.1 ha k u hu
      refine G_if_lt dMO_inFront_13 (fun z => absurd z (nI_pos (by omega))) (fun _ => ?_)
      refine G_iload_n dMO_inFront_16 rfl ?_
      refine G_istore (ls' := [.ref m, .int (nI a), .int (nI b), .int (nI u), .int (nI k), .int (noI (anP par b 0)), v6]) dMO_inFront_17 (by decide) rfl ?_
      refine G_iconst (v := nI 0) dMO_inFront_19 (by decide +kernel) ?_
      refine G_istore (ls' := [.ref m, .int (nI a), .int (nI b), .int (nI u), .int (nI k), .int (noI (anP par b 0)), .int (nI 0)]) dMO_inFront_20 (by decide) rfl ?_
      refine if_in hI hrk ha hb hul (ifJ par rk a b u 6 0) rfl (fun q hq => ?_) (fun w5 w6 hq => ?_) 6 0 rfl rfl
      · rw [hq] at e
        exact ⟨rfl, rfl, rfl, by rw [e]⟩
      · rw [hq] at e
        refine G_aload_n dMO_inFront_110 rfl ?_
        refine G_getRs fMO_17 dMO_inFront_111 hI.1.1 hI.1.r2 ?_
        refine G_iload_n dMO_inFront_114 rfl ?_
        refine G_ialdN dMO_inFront_115 hI.1.t2 hI.1.l2 (by decide) (by omega) ?_
        rw [hI.2.2.2.2.1 u hul]
        have e2 : anP par a (k + 1) = par u := by
          show (anP par a k).bind par = par u
          rw [hu]; rfl
        refine G_istore_n (ls' := [.ref m, .int (nI a), .int (nI b), .int (noI (anP par a (k + 1))), .int (nI k), w5, w6]) dMO_inFront_116 (by decide) (by rw [e2]; rfl) ?_
        refine G_iinc (ls' := [.ref m, .int (nI a), .int (nI b), .int (noI (anP par a (k + 1))), .int (nI (k + 1)), w5, w6]) dMO_inFront_117 rfl (nI_inc k) (by decide) rfl ?_
        refine G_goto dMO_inFront_120 ?_
        exact ih (k + 1) (by omega) e _ _
theorem cMO_inFront {E : gE} {T : gT} {gi : gI} {gr : gR} {m : Nat} {nb : Nat} {par : Nat → Option Nat} {kd : Nat → Int32} {hd : Nat → Bool} {li : Nat → Bool} {ct : Nat → Int32} {rk : Nat → Nat} {rks : Nat} {w : Int32} {h : Int32} {pl : Nat → Int32} {cs : Nat → Option K5} {fo : Option Nat} {pr : Option Nat} {ar : Nat → Nat → Bool} {co : Nat → Int32} {D : Nat → Bool} {F : Nat → Int32} {a b : Nat} (hI : MInv T gi gr m nb par kd hd li ct rk rks w h pl cs fo pr ar co D F) (hrk : ∀ j, j < nb → rk j < 1000000) (ha : a < nb) (hb : b < nb) : Ct E mMO_inFront [.ref m, .int (nI a), .int (nI b)] T gi gr (fun T' gi' gr' v => T' = T ∧ gi' = gi ∧ gr' = gr ∧ v = some (.int (bI (frM par rk a b)))) := by
  refine Ct_of (ls := [.ref m, .int (nI a), .int (nI b), .long 0, .long 0, .long 0, .long 0]) (by decide) (gcat_cons rfl (gcat_cons rfl (gcat_cons rfl gcat_nil))) (Nat.le_of_ble_eq_true rfl) rfl ?_
  refine G_iload_n dMO_inFront_0 rfl ?_
  refine G_istore_n (ls' := [.ref m, .int (nI a), .int (nI b), .int (nI a), .long 0, .long 0, .long 0]) dMO_inFront_1 (by decide) rfl ?_
  refine G_iconst (v := nI 0) dMO_inFront_2 (by decide +kernel) ?_
  refine G_istore (ls' := [.ref m, .int (nI a), .int (nI b), .int (nI a), .int (nI 0), .long 0, .long 0]) dMO_inFront_3 (by decide) rfl ?_
  exact if_out hI hrk ha hb 6 0 rfl rfl _ _
def htM (par : Nat → Option Nat) (pl : Nat → Int32) (hd : Nat → Bool) (rk : Nat → Nat) (x y : Int32) : Nat → Option Nat
  | 0 => none
  | b + 1 => if inM par pl hd b x y = true then (match htM par pl hd rk x y b with
    | none => some b
    | some c => if frM par rk b c = true then some b else some c) else htM par pl hd rk x y b
theorem htM_lt {par : Nat → Option Nat} {pl : Nat → Int32} {hd : Nat → Bool} {rk : Nat → Nat} {x y : Int32} : ∀ k i, htM par pl hd rk x y k = some i → i < k
  | 0, i, h => by cases h
  | b + 1, i, h => by
    have ih := htM_lt (par := par) (pl := pl) (hd := hd) (rk := rk) (x := x) (y := y) b
    unfold htM at h
    split at h
    · split at h
      · cases h; omega
      · rename_i c hc
        split at h
        · cases h; omega
        · cases h; have := ih i hc; omega
    · have := ih i h; omega
theorem ht_loop {E : gE} {T : gT} {gi : gI} {gr : gR} {m : Nat} {nb : Nat} {par : Nat → Option Nat} {kd : Nat → Int32} {hd : Nat → Bool} {li : Nat → Bool} {ct : Nat → Int32} {rk : Nat → Nat} {rks : Nat} {w : Int32} {h : Int32} {pl : Nat → Int32} {cs : Nat → Option K5} {fo : Option Nat} {pr : Option Nat} {ar : Nat → Nat → Bool} {co : Nat → Int32} {D : Nat → Bool} {F : Nat → Int32} {x y : Int32} (hI : MInv T gi gr m nb par kd hd li ct rk rks w h pl cs fo pr ar co D F) (hrk : ∀ j, j < nb → rk j < 1000000) : ∀ (n k : Nat), k + n = nb → G E mMO_hit 5 [.ref m, .int x, .int y, .int (noI (htM par pl hd rk x y k)), .int (nI k)] [] T gi gr 0 0 (fun T' gi' gr' v => T' = T ∧ gi' = gi ∧ gr' = gr ∧ v = some (.int (noI (htM par pl hd rk x y nb)))) := by
  have h6 : nb ≤ 6 := hI.2.2.1.1.2
  intro n
  induction n with
  | zero =>
    intro k hk
    have : k = nb := by omega
    subst this
    refine G_iload dMO_hit_5 rfl ?_
    refine G_aload_n dMO_hit_7 rfl ?_
    refine G_getI fMO_7 dMO_hit_8 hI.1.1 ?_
    rw [hI.2.1.1]
    refine G_icmp_ge dMO_hit_11 (fun _ => ?_) (fun z => absurd (nI_le (Nat.le_refl _) (by omega)) z)
    refine G_iload_n dMO_hit_48 rfl ?_
    exact G_ireturn dMO_hit_49 rfl rfl (by decide) (by decide) ⟨rfl, rfl, rfl, rfl⟩
  | succ n ih =>
    intro k hk
    have hkn : k < nb := by omega
    have hlt := htM_lt (par := par) (pl := pl) (hd := hd) (rk := rk) (x := x) (y := y) k
    have nxt : ∀ q : Option Nat, q = htM par pl hd rk x y (k + 1) → G E mMO_hit 42 [.ref m, .int x, .int y, .int (noI q), .int (nI k)] [] T gi gr 0 0 (fun T' gi' gr' v => T' = T ∧ gi' = gi ∧ gr' = gr ∧ v = some (.int (noI (htM par pl hd rk x y nb)))) := by
      rintro q rfl
      refine G_iinc (ls' := [.ref m, .int x, .int y, .int (noI (htM par pl hd rk x y (k + 1))), .int (nI (k + 1))]) dMO_hit_42 rfl (nI_inc k) (by decide) rfl ?_
      refine G_goto dMO_hit_45 ?_
      exact ih (k + 1) (by omega)
    refine G_iload dMO_hit_5 rfl ?_
    refine G_aload_n dMO_hit_7 rfl ?_
    refine G_getI fMO_7 dMO_hit_8 hI.1.1 ?_
    rw [hI.2.1.1]
    refine G_icmp_ge dMO_hit_11 (fun z => absurd z (nI_ge hkn (by omega))) (fun _ => ?_)
    refine G_aload_n dMO_hit_14 rfl ?_
    refine G_iload dMO_hit_15 rfl ?_
    refine G_iload_n dMO_hit_17 rfl ?_
    refine G_iload_n dMO_hit_18 rfl ?_
    refine G_callV (As := [.int (nI k), .int x, .int y]) (rest := []) gMO_hit_MO_inArea lMO_100.1 lMO_100.2.1 lMO_100.2.2.1 lMO_100.2.2.2 dMO_hit_19 rfl (Nat.le_of_ble_eq_true rfl) hI.1.1 ⟨by decide, by decide⟩ (cMO_inArea hI hkn) ?_
    refine same4 ?_
    refine G_st (st' := [.int (bI (inM par pl hd k x y))]) rfl ?_
    have e0 : htM par pl hd rk x y (k + 1) = if inM par pl hd k x y = true then (match htM par pl hd rk x y k with | none => some k | some c => if frM par rk k c = true then some k else some c) else htM par pl hd rk x y k := rfl
    refine G_if_eq dMO_hit_22 (fun h1 => nxt _ ?_) (fun h1 => ?_)
    · rw [e0, if_neg (by rw [bI_z.mp h1]; decide)]
    · rw [if_pos (bt h1)] at e0
      have upd : htM par pl hd rk x y (k + 1) = some k → G E mMO_hit 39 [.ref m, .int x, .int y, .int (noI (htM par pl hd rk x y k)), .int (nI k)] [] T gi gr 0 0 (fun T' gi' gr' v => T' = T ∧ gi' = gi ∧ gr' = gr ∧ v = some (.int (noI (htM par pl hd rk x y nb)))) := by
        intro e
        refine G_iload dMO_hit_39 rfl ?_
        refine G_istore_n (ls' := [.ref m, .int x, .int y, .int (noI (some k)), .int (nI k)]) dMO_hit_41 (by decide) rfl ?_
        exact nxt (some k) e.symm
      refine G_iload_n dMO_hit_25 rfl ?_
      cases hb : htM par pl hd rk x y k with
      | none =>
        rw [hb] at e0 upd
        exact G_if_lt dMO_hit_26 (fun _ => upd e0) (fun z => absurd noI_neg z)
      | some c =>
        rw [hb] at e0 upd
        have hc := hlt c hb
        refine G_if_lt dMO_hit_26 (fun z => absurd z (nI_pos (by omega))) (fun _ => ?_)
        refine G_aload_n dMO_hit_29 rfl ?_
        refine G_iload dMO_hit_30 rfl ?_
        refine G_iload_n (x := nI c) dMO_hit_32 rfl ?_
        refine G_callV (As := [.int (nI k), .int (nI c)]) (rest := []) gMO_hit_MO_inFront lMO_172.1 lMO_172.2.1 lMO_172.2.2.1 lMO_172.2.2.2 dMO_hit_33 rfl (Nat.le_of_ble_eq_true rfl) hI.1.1 ⟨by decide, by decide⟩ (cMO_inFront hI hrk hkn (by omega)) ?_
        refine same4 ?_
        refine G_st (st' := [.int (bI (frM par rk k c))]) rfl ?_
        refine G_if_eq dMO_hit_36 (fun h2 => nxt _ ?_) (fun h2 => upd ?_)
        · rw [e0]; dsimp only; rw [if_neg (by rw [bI_z.mp h2]; decide)]
        · rw [e0]; dsimp only; rw [if_pos (bt h2)]
theorem cMO_hit {E : gE} {T : gT} {gi : gI} {gr : gR} {m : Nat} {nb : Nat} {par : Nat → Option Nat} {kd : Nat → Int32} {hd : Nat → Bool} {li : Nat → Bool} {ct : Nat → Int32} {rk : Nat → Nat} {rks : Nat} {w : Int32} {h : Int32} {pl : Nat → Int32} {cs : Nat → Option K5} {fo : Option Nat} {pr : Option Nat} {ar : Nat → Nat → Bool} {co : Nat → Int32} {D : Nat → Bool} {F : Nat → Int32} {x y : Int32} (hI : MInv T gi gr m nb par kd hd li ct rk rks w h pl cs fo pr ar co D F) (hrk : ∀ j, j < nb → rk j < 1000000) : Ct E mMO_hit [.ref m, .int x, .int y] T gi gr (fun T' gi' gr' v => T' = T ∧ gi' = gi ∧ gr' = gr ∧ v = some (.int (noI (htM par pl hd rk x y nb)))) := by
  refine Ct_of (ls := [.ref m, .int x, .int y, .long 0, .long 0]) (by decide) (gcat_cons rfl (gcat_cons rfl (gcat_cons rfl gcat_nil))) (Nat.le_of_ble_eq_true rfl) rfl ?_
  refine G_iconst (v := noI none) dMO_hit_0 (by decide) ?_
  refine G_istore_n (ls' := [.ref m, .int x, .int y, .int (noI none), .long 0]) dMO_hit_1 (by decide) rfl ?_
  refine G_iconst (v := nI 0) dMO_hit_2 (by decide +kernel) ?_
  refine G_istore (ls' := [.ref m, .int x, .int y, .int (noI none), .int (nI 0)]) dMO_hit_3 (by decide) rfl ?_
  exact ht_loop hI hrk nb 0 (by omega)
theorem dg_loop {E : gE} {T : gT} {gi : gI} {gr : gR} {m : Nat} {nb : Nat} {par : Nat → Option Nat} {kd : Nat → Int32} {hd : Nat → Bool} {li : Nat → Bool} {ct : Nat → Int32} {rk : Nat → Nat} {rks : Nat} {w : Int32} {h : Int32} {pl : Nat → Int32} {cs : Nat → Option K5} {fo : Option Nat} {pr : Option Nat} {ar : Nat → Nat → Bool} {co : Nat → Int32} {D : Nat → Bool} {F : Nat → Int32} (hI : MInv T gi gr m nb par kd hd li ct rk rks w h pl cs fo pr ar co D F) : ∀ (n z : Nat), z + n = 384 → G E mMO_damage 4 [.ref m, .int (nI (cntB D z)), .int (nI z)] [] T gi gr 0 0 (fun T' gi' gr' v => T' = T ∧ gi' = gi ∧ gr' = gr ∧ v = some (.int (nI (cntB D 384)))) := by
  intro n
  induction n with
  | zero =>
    intro z hz
    have : z = 384 := by omega
    subst this
    refine G_iload_n dMO_damage_4 rfl ?_
    refine G_sipush (v := 384) dMO_damage_5 (by decide) ?_
    refine G_icmp_ge dMO_damage_8 (fun _ => ?_) (fun z => absurd (by decide +kernel) z)
    refine G_iload_n dMO_damage_29 rfl ?_
    exact G_ireturn dMO_damage_30 rfl rfl (by decide) (by decide) ⟨rfl, rfl, rfl, rfl⟩
  | succ n ih =>
    intro z hz
    have nxt : ∀ c, c = cntB D (z + 1) → G E mMO_damage 23 [.ref m, .int (nI c), .int (nI z)] [] T gi gr 0 0 (fun T' gi' gr' v => T' = T ∧ gi' = gi ∧ gr' = gr ∧ v = some (.int (nI (cntB D 384)))) := by
      rintro c rfl
      refine G_iinc (ls' := [.ref m, .int (nI (cntB D (z + 1))), .int (nI (z + 1))]) dMO_damage_23 rfl (nI_inc z) (by decide) rfl ?_
      refine G_goto dMO_damage_26 ?_
      exact ih (z + 1) (by omega)
    refine G_iload_n dMO_damage_4 rfl ?_
    refine G_sipush (v := 384) dMO_damage_5 (by decide) ?_
    refine G_icmp_ge dMO_damage_8 (fun q => absurd q (nI_ge (b := 384) (by omega) (by decide))) (fun _ => ?_)
    refine G_aload_n dMO_damage_11 rfl ?_
    refine G_getRs fMO_81 dMO_damage_12 hI.1.1 hI.1.r21 ?_
    refine G_iload_n dMO_damage_15 rfl ?_
    refine G_zaldN dMO_damage_16 hI.1.t21 hI.1.l21 (by decide) (by omega) ?_
    rw [hI.2.2.2.2.2.2.2.2.2.2.2.2.2.1 z (by omega)]
    refine G_if_eq dMO_damage_17 (fun h1 => nxt _ ?_) (fun h1 => ?_)
    · show _ = cntB D z + (if D z = true then 1 else 0)
      rw [if_neg (by rw [bI_z.mp h1]; decide)]; rfl
    · refine G_iinc (ls' := [.ref m, .int (nI (cntB D z + 1)), .int (nI z)]) dMO_damage_20 rfl (nI_inc _) (by decide) rfl ?_
      refine nxt _ ?_
      show _ = cntB D z + (if D z = true then 1 else 0)
      rw [if_pos (bt h1)]
theorem cMO_damage {E : gE} {T : gT} {gi : gI} {gr : gR} {m : Nat} {nb : Nat} {par : Nat → Option Nat} {kd : Nat → Int32} {hd : Nat → Bool} {li : Nat → Bool} {ct : Nat → Int32} {rk : Nat → Nat} {rks : Nat} {w : Int32} {h : Int32} {pl : Nat → Int32} {cs : Nat → Option K5} {fo : Option Nat} {pr : Option Nat} {ar : Nat → Nat → Bool} {co : Nat → Int32} {D : Nat → Bool} {F : Nat → Int32} (hI : MInv T gi gr m nb par kd hd li ct rk rks w h pl cs fo pr ar co D F) : Ct E mMO_damage [.ref m] T gi gr (fun T' gi' gr' v => T' = T ∧ gi' = gi ∧ gr' = gr ∧ v = some (.int (nI (cntB D 384)))) := by
  refine Ct_of (ls := [.ref m, .long 0, .long 0]) (by decide) (gcat_cons rfl gcat_nil) (Nat.le_of_ble_eq_true rfl) rfl ?_
  refine G_iconst (v := nI 0) dMO_damage_0 (by decide +kernel) ?_
  refine G_istore_n (ls' := [.ref m, .int (nI 0), .long 0]) dMO_damage_1 (by decide) rfl ?_
  refine G_iconst (v := nI 0) dMO_damage_2 (by decide +kernel) ?_
  refine G_istore_n (ls' := [.ref m, .int (nI 0), .int (nI 0)]) dMO_damage_3 (by decide) rfl ?_
  exact dg_loop hI 384 0 rfl
theorem cMO_attention {E : gE} {T : gT} {gi : gI} {gr : gR} {m : Nat} {nb : Nat} {par : Nat → Option Nat} {kd : Nat → Int32} {hd : Nat → Bool} {li : Nat → Bool} {ct : Nat → Int32} {rk : Nat → Nat} {rks : Nat} {w : Int32} {h : Int32} {pl : Nat → Int32} {cs : Nat → Option K5} {fo : Option Nat} {pr : Option Nat} {ar : Nat → Nat → Bool} {co : Nat → Int32} {D : Nat → Bool} {F : Nat → Int32} (hI : MInv T gi gr m nb par kd hd li ct rk rks w h pl cs fo pr ar co D F) : Ct E mMO_attention [.ref m] T gi gr (fun T' gi' gr' v => T' = T ∧ gi' = gi ∧ gr' = gr ∧ v = some (.int (noI fo + 1 + 8 * (noI pr + 1)))) := by
  refine Ct_of (ls := [.ref m]) (by decide) (gcat_cons rfl gcat_nil) (Nat.le_of_ble_eq_true rfl) rfl ?_
  refine G_aload_n dMO_attention_0 rfl ?_
  refine G_getI fMO_69 dMO_attention_1 hI.1.1 ?_
  rw [hI.2.1.2.2.2.2.1]
  refine G_iconst (v := 1) dMO_attention_4 (by decide) ?_
  refine G_iadd dMO_attention_5 ?_
  refine G_bipush (v := 8) dMO_attention_6 (by decide) ?_
  refine G_aload_n dMO_attention_8 rfl ?_
  refine G_getI fMO_72 dMO_attention_9 hI.1.1 ?_
  rw [hI.2.1.2.2.2.2.2]
  refine G_iconst (v := 1) dMO_attention_12 (by decide) ?_
  refine G_iadd dMO_attention_13 ?_
  refine G_imul dMO_attention_14 ?_
  refine G_iadd dMO_attention_15 ?_
  exact G_ireturn dMO_attention_16 rfl rfl (by decide) (by decide) ⟨rfl, rfl, rfl, rfl⟩
def cntM (nb : Nat) (ct : Nat → Int32) (x : Int32) : Int32 := if isBx nb x then ct (ixI x) else -1
theorem cMO_count {E : gE} {T : gT} {gi : gI} {gr : gR} {m : Nat} {nb : Nat} {par : Nat → Option Nat} {kd : Nat → Int32} {hd : Nat → Bool} {li : Nat → Bool} {ct : Nat → Int32} {rk : Nat → Nat} {rks : Nat} {w : Int32} {h : Int32} {pl : Nat → Int32} {cs : Nat → Option K5} {fo : Option Nat} {pr : Option Nat} {ar : Nat → Nat → Bool} {co : Nat → Int32} {D : Nat → Bool} {F : Nat → Int32} {x : Int32} (hI : MInv T gi gr m nb par kd hd li ct rk rks w h pl cs fo pr ar co D F) : Ct E mMO_count [.ref m, .int x] T gi gr (fun T' gi' gr' v => T' = T ∧ gi' = gi ∧ gr' = gr ∧ v = some (.int (cntM nb ct x))) := by
  have h6 : nb ≤ 6 := hI.2.2.1.1.2
  refine Ct_of (ls := [.ref m, .int x]) (by decide) (gcat_cons rfl (gcat_cons rfl gcat_nil)) (Nat.le_of_ble_eq_true rfl) rfl ?_
  refine G_aload_n dMO_count_0 rfl ?_
  refine G_iload_n dMO_count_1 rfl ?_
  refine G_callV (As := [.int x]) (rest := []) gMO_count_MO_isBox lMO_153.1 lMO_153.2.1 lMO_153.2.2.1 lMO_153.2.2.2 dMO_count_2 rfl (Nat.le_of_ble_eq_true rfl) hI.1.1 ⟨by decide, by decide⟩ (cMO_isBox hI) ?_
  refine same4 ?_
  refine G_st (st' := [.int (if isBx nb x then 1 else 0)]) rfl ?_
  refine G_if_eq dMO_count_5 (fun h1 => ?_) (fun h1 => ?_)
  · refine G_iconst (v := -1) dMO_count_17 (by decide) ?_
    exact G_ireturn dMO_count_18 rfl rfl (by decide) (by decide) ⟨rfl, rfl, rfl, by unfold cntM; rw [if_neg (if01.mp h1)]⟩
  · have hb : isBx nb x := by by_cases c : isBx nb x; exact c; exact absurd (if01.mpr c) h1
    obtain ⟨j, hj, rfl⟩ := isBx_of h6 hb
    refine G_aload_n dMO_count_8 rfl ?_
    refine G_getRs fMO_27 dMO_count_9 hI.1.1 hI.1.r5 ?_
    refine G_iload_n dMO_count_12 rfl ?_
    refine G_ialdN dMO_count_13 hI.1.t5 hI.1.l5 (by decide) (by omega) ?_
    rw [hI.2.2.2.2.2.2.2.1 j (by omega)]
    refine G_goto dMO_count_14 ?_
    exact G_ireturn dMO_count_18 rfl rfl (by decide) (by decide) ⟨rfl, rfl, rfl, by unfold cntM; rw [if_pos hb, ixI_n (by omega)]⟩
theorem cMO_place {E : gE} {T : gT} {gi : gI} {gr : gR} {m : Nat} {nb : Nat} {par : Nat → Option Nat} {kd : Nat → Int32} {hd : Nat → Bool} {li : Nat → Bool} {ct : Nat → Int32} {rk : Nat → Nat} {rks : Nat} {w : Int32} {h : Int32} {pl : Nat → Int32} {cs : Nat → Option K5} {fo : Option Nat} {pr : Option Nat} {ar : Nat → Nat → Bool} {co : Nat → Int32} {D : Nat → Bool} {F : Nat → Int32} {x : Int32} (hI : MInv T gi gr m nb par kd hd li ct rk rks w h pl cs fo pr ar co D F) : Ct E mMO_place [.ref m, .int x] T gi gr (fun T' gi' gr' v => T' = T ∧ gi' = gi ∧ gr' = gr ∧ v = some (.int (plcC nb pl x))) := by
  have h6 : nb ≤ 6 := hI.2.2.1.1.2
  refine Ct_of (ls := [.ref m, .int x]) (by decide) (gcat_cons rfl (gcat_cons rfl gcat_nil)) (Nat.le_of_ble_eq_true rfl) rfl ?_
  refine G_aload_n dMO_place_0 rfl ?_
  refine G_iload_n dMO_place_1 rfl ?_
  refine G_callV (As := [.int x]) (rest := []) gMO_place_MO_isEdge lMO_159.1 lMO_159.2.1 lMO_159.2.2.1 lMO_159.2.2.2 dMO_place_2 rfl (Nat.le_of_ble_eq_true rfl) hI.1.1 ⟨by decide, by decide⟩ (cMO_isEdge hI) ?_
  refine same4 ?_
  refine G_st (st' := [.int (if isEd nb x then 1 else 0)]) rfl ?_
  refine G_if_eq dMO_place_5 (fun h1 => ?_) (fun h1 => ?_)
  · refine G_iconst (v := 0) dMO_place_17 (by decide) ?_
    exact G_ireturn dMO_place_18 rfl rfl (by decide) (by decide) ⟨rfl, rfl, rfl, by unfold plcC; rw [if_neg (if01.mp h1)]⟩
  · have hb : isEd nb x := by by_cases c : isEd nb x; exact c; exact absurd (if01.mpr c) h1
    obtain ⟨j, hj, rfl⟩ := isEd_of h6 hb
    refine G_aload_n dMO_place_8 rfl ?_
    refine G_getRs fMO_33 dMO_place_9 hI.1.1 hI.1.r7 ?_
    refine G_iload_n dMO_place_12 rfl ?_
    refine G_ialdN dMO_place_13 hI.1.t7 hI.1.l7 (by decide) (by omega) ?_
    rw [hI.2.2.2.2.2.2.2.2.2.1 j (by omega)]
    refine G_goto dMO_place_14 ?_
    exact G_ireturn dMO_place_18 rfl rfl (by decide) (by decide) ⟨rfl, rfl, rfl, by unfold plcC; rw [if_pos hb, ixI_n (by omega)]⟩
def erM (c a b : Int32) (fm : Nat) : Int32 := if 0 ≤ a - b - c then (if fm = 0 then a - b - c else 0) else -(a - b - c)
def errM (cs : Nat → Option K5) (pl : Nat → Int32) (x : Int32) : Int32 := if isCn x then (match cs (ixI x) with
  | some κ => erM κ.2.2.1 (pl κ.1) (pl κ.2.1) κ.2.2.2.1
  | none => -1) else -1
theorem cMO_error {E : gE} {T : gT} {gi : gI} {gr : gR} {m : Nat} {nb : Nat} {par : Nat → Option Nat} {kd : Nat → Int32} {hd : Nat → Bool} {li : Nat → Bool} {ct : Nat → Int32} {rk : Nat → Nat} {rks : Nat} {w : Int32} {h : Int32} {pl : Nat → Int32} {cs : Nat → Option K5} {fo : Option Nat} {pr : Option Nat} {ar : Nat → Nat → Bool} {co : Nat → Int32} {D : Nat → Bool} {F : Nat → Int32} {x : Int32} (hI : MInv T gi gr m nb par kd hd li ct rk rks w h pl cs fo pr ar co D F) : Ct E mMO_error [.ref m, .int x] T gi gr (fun T' gi' gr' v => T' = T ∧ gi' = gi ∧ gr' = gr ∧ v = some (.int (errM cs pl x))) := by
  refine Ct_of (ls := [.ref m, .int x, .long 0]) (by decide) (gcat_cons rfl (gcat_cons rfl gcat_nil)) (Nat.le_of_ble_eq_true rfl) rfl ?_
  refine G_aload_n dMO_error_0 rfl ?_
  refine G_iload_n dMO_error_1 rfl ?_
  refine G_callV (As := [.int x]) (rest := []) gMO_error_MO_isConstraint lMO_166.1 lMO_166.2.1 lMO_166.2.2.1 lMO_166.2.2.2 dMO_error_2 rfl (Nat.le_of_ble_eq_true rfl) hI.1.1 ⟨by decide, by decide⟩ (cMO_isConstraint hI) ?_
  refine same4 ?_
  refine G_st (st' := [.int (if icM cs x then 1 else 0)]) rfl ?_
  refine G_if_ne dMO_error_5 (fun h1 => ?_) (fun h1 => ?_)
  · have hb : icM cs x := by by_cases c : icM cs x; exact c; exact absurd (if01.mpr c) h1
    obtain ⟨j, hj, rfl, -⟩ := pk_mu (L := 16) hb.1.1 hb.1.2 (by decide)
    have hcj := hb.2
    rw [ixI_n (by omega)] at hcj
    cases hc : cs j with
    | none => exact absurd hc hcj
    | some κ =>
      obtain ⟨-, c1, c2, c3, c4, c5, c6⟩ := (hI.2.2.2.2.2.2.2.2.2.2.1 j hj).2 κ hc
      have e : errM cs pl (nI j) = erM κ.2.2.1 (pl κ.1) (pl κ.2.1) κ.2.2.2.1 := by unfold errM; rw [if_pos hb.1, ixI_n (by omega), hc]
      have k1 := c6.1
      have k2 := c6.2.1
      have k3 := c6.2.2.1
      refine G_aload_n dMO_error_10 rfl ?_
      refine G_getRs fMO_33 dMO_error_11 hI.1.1 hI.1.r7 ?_
      refine G_aload_n dMO_error_14 rfl ?_
      refine G_getRs fMO_42 dMO_error_15 hI.1.1 hI.1.r10 ?_
      refine G_iload_n dMO_error_18 rfl ?_
      refine G_ialdN dMO_error_19 hI.1.t10 hI.1.l10 (by decide) (by omega) ?_
      rw [c1]
      refine G_ialdN dMO_error_20 hI.1.t7 hI.1.l7 (by decide) k1 ?_
      rw [hI.2.2.2.2.2.2.2.2.2.1 _ k1]
      refine G_aload_n dMO_error_21 rfl ?_
      refine G_getRs fMO_33 dMO_error_22 hI.1.1 hI.1.r7 ?_
      refine G_aload_n dMO_error_25 rfl ?_
      refine G_getRs fMO_45 dMO_error_26 hI.1.1 hI.1.r11 ?_
      refine G_iload_n dMO_error_29 rfl ?_
      refine G_ialdN dMO_error_30 hI.1.t11 hI.1.l11 (by decide) (by omega) ?_
      rw [c2]
      refine G_ialdN dMO_error_31 hI.1.t7 hI.1.l7 (by decide) k2 ?_
      rw [hI.2.2.2.2.2.2.2.2.2.1 _ k2]
      refine G_isub dMO_error_32 ?_
      refine G_aload_n dMO_error_33 rfl ?_
      refine G_getRs fMO_48 dMO_error_34 hI.1.1 hI.1.r12 ?_
      refine G_iload_n dMO_error_37 rfl ?_
      refine G_ialdN dMO_error_38 hI.1.t12 hI.1.l12 (by decide) (by omega) ?_
      rw [c3]
      refine G_isub dMO_error_39 ?_
      refine G_istore_n (ls' := [.ref m, .int (nI j), .int (pl κ.1 - pl κ.2.1 - κ.2.2.1)]) dMO_error_40 (by decide) rfl ?_
      refine G_iload_n dMO_error_41 rfl ?_
      refine G_if_ge dMO_error_42 (fun h2 => ?_) (fun h2 => ?_)
      · refine G_aload_n dMO_error_48 rfl ?_
        refine G_getRs fMO_51 dMO_error_49 hI.1.1 hI.1.r13 ?_
        refine G_iload_n dMO_error_52 rfl ?_
        refine G_ialdN dMO_error_53 hI.1.t13 hI.1.l13 (by decide) (by omega) ?_
        rw [c4]
        refine G_if_ne dMO_error_54 (fun h3 => ?_) (fun h3 => ?_)
        · refine G_iconst (v := 0) dMO_error_61 (by decide) ?_
          exact G_ireturn dMO_error_62 rfl rfl (by decide) (by decide) ⟨rfl, rfl, rfl, by rw [e]; unfold erM; rw [if_pos h2, if_neg (fun z => h3 ((nI_z (by omega)).mpr z))]⟩
        · refine G_iload_n dMO_error_57 rfl ?_
          refine G_goto dMO_error_58 ?_
          exact G_ireturn dMO_error_62 rfl rfl (by decide) (by decide) ⟨rfl, rfl, rfl, by rw [e]; unfold erM; rw [if_pos h2, if_pos ((nI_z (by omega)).mp h3)]⟩
      · refine G_iload_n dMO_error_45 rfl ?_
        refine G_ineg dMO_error_46 ?_
        exact G_ireturn dMO_error_47 rfl rfl (by decide) (by decide) ⟨rfl, rfl, rfl, by rw [e]; unfold erM; rw [if_neg h2]⟩
  · refine G_iconst (v := -1) dMO_error_8 (by decide) ?_
    refine G_ireturn dMO_error_9 rfl rfl (by decide) (by decide) ⟨rfl, rfl, rfl, ?_⟩
    have hn := if01.mp h1
    unfold errM
    by_cases c : isCn x
    · rw [if_pos c]
      cases hc : cs (ixI x) with
      | none => rfl
      | some κ => exact absurd ⟨c, fun z => by rw [hc] at z; cases z⟩ hn
    · rw [if_neg c]
abbrev onMo (x y : Int32) : Prop := ¬ x < 0 ∧ ¬ 23 < x ∧ ¬ y < 0 ∧ y ≤ 15
def pixM (F : Nat → Int32) (x y : Int32) : Int32 := if onMo x y then F (24 * ixI y + ixI x) else -1
theorem cMO_pixel {E : gE} {T : gT} {gi : gI} {gr : gR} {m : Nat} {nb : Nat} {par : Nat → Option Nat} {kd : Nat → Int32} {hd : Nat → Bool} {li : Nat → Bool} {ct : Nat → Int32} {rk : Nat → Nat} {rks : Nat} {w : Int32} {h : Int32} {pl : Nat → Int32} {cs : Nat → Option K5} {fo : Option Nat} {pr : Option Nat} {ar : Nat → Nat → Bool} {co : Nat → Int32} {D : Nat → Bool} {F : Nat → Int32} {x y : Int32} (hI : MInv T gi gr m nb par kd hd li ct rk rks w h pl cs fo pr ar co D F) : Ct E mMO_pixel [.ref m, .int x, .int y] T gi gr (fun T' gi' gr' v => T' = T ∧ gi' = gi ∧ gr' = gr ∧ v = some (.int (pixM F x y))) := by
  refine Ct_of (ls := [.ref m, .int x, .int y]) (by decide) (gcat_cons rfl (gcat_cons rfl (gcat_cons rfl gcat_nil))) (Nat.le_of_ble_eq_true rfl) rfl ?_
  have no : ¬ onMo x y → G E mMO_pixel 20 [.ref m, .int x, .int y] [] T gi gr 0 0 (fun T' gi' gr' v => T' = T ∧ gi' = gi ∧ gr' = gr ∧ v = some (.int (pixM F x y))) := by
    intro hn
    refine G_iconst (v := -1) dMO_pixel_20 (by decide) ?_
    refine G_goto dMO_pixel_21 ?_
    exact G_ireturn dMO_pixel_35 rfl rfl (by decide) (by decide) ⟨rfl, rfl, rfl, by unfold pixM; rw [if_neg hn]⟩
  refine G_iload_n dMO_pixel_0 rfl ?_
  refine G_if_lt dMO_pixel_1 (fun h1 => no (fun z => z.1 h1)) (fun h1 => ?_)
  refine G_iload_n dMO_pixel_4 rfl ?_
  refine G_bipush (v := 23) dMO_pixel_5 (by decide) ?_
  refine G_icmp_gt dMO_pixel_7 (fun h2 => no (fun z => z.2.1 h2)) (fun h2 => ?_)
  refine G_iload_n dMO_pixel_10 rfl ?_
  refine G_if_lt dMO_pixel_11 (fun h3 => no (fun z => z.2.2.1 h3)) (fun h3 => ?_)
  refine G_iload_n dMO_pixel_14 rfl ?_
  refine G_bipush (v := 15) dMO_pixel_15 (by decide) ?_
  refine G_icmp_le dMO_pixel_17 (fun h4 => ?_) (fun h4 => no (fun z => h4 z.2.2.2))
  have hon : onMo x y := ⟨h1, h2, h3, h4⟩
  obtain ⟨i, hi, rfl⟩ := nI_of2 (n := 23) (M := 23) (by decide) h1 (by rw [Int32.le_iff_toInt_le]; rw [Int32.lt_iff_toInt_lt] at h2; omega)
  obtain ⟨j, hj, rfl⟩ := nI_of2 (n := 15) (M := 15) (by decide) h3 h4
  refine G_aload_n dMO_pixel_24 rfl ?_
  refine G_getRs fMO_84 dMO_pixel_25 hI.1.1 hI.1.r22 ?_
  refine G_bipush (v := 24) dMO_pixel_28 (by decide) ?_
  refine G_iload_n dMO_pixel_30 rfl ?_
  refine G_imul dMO_pixel_31 ?_
  refine G_iload_n dMO_pixel_32 rfl ?_
  refine G_iadd dMO_pixel_33 ?_
  refine G_st (st' := [.int (nI (24 * j + i)), .ref (m + 22)]) (by rw [nI_24x, nI_add]) ?_
  refine G_ialdN dMO_pixel_34 hI.1.t22 hI.1.l22 (by decide) (by omega) ?_
  rw [hI.2.2.2.2.2.2.2.2.2.2.2.2.2.2 _ (by omega)]
  exact G_ireturn dMO_pixel_35 rfl rfl (by decide) (by decide) ⟨rfl, rfl, rfl, by unfold pixM; rw [if_pos hon, ixI_n (by omega), ixI_n (by omega)]⟩
