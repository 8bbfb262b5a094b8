theorem isIn_iff {nb : Nat} {x : Int32} : isIn nb x ↔ isBx nb x ∧ ¬ x = 0 := by
  constructor
  · intro h
    exact ⟨⟨fun z => h.1 (by rw [Int32.lt_iff_toInt_lt] at z; rw [Int32.le_iff_toInt_le]; omega), h.2⟩, fun z => h.1 (by rw [z]; decide)⟩
  · intro h
    refine ⟨fun z => h.2 ?_, h.1.2⟩
    have h1 := h.1.1
    rw [Int32.lt_iff_toInt_lt] at h1
    rw [Int32.le_iff_toInt_le] at z
    exact Int32.toInt_inj.mp (by omega)
theorem gu_b {gi : gI} {a j k : Nat} {x : Int32} {f : Nat → Int32} (h : gi a k = f k) : gu gi a j x a k = gup f j x k := by
  rw [gu_row]
  by_cases c : k = j
  · subst c; rw [if_pos rfl, gup_same]
  · rw [if_neg c, gup_ne c]; exact h
theorem gu_bB {gi : gI} {a j k : Nat} {x : Bool} {f : Nat → Bool} (h : gi a k = bI (f k)) : gu gi a j (bI x) a k = bI (gup f j x k) := by
  rw [gu_row]
  by_cases c : k = j
  · subst c; rw [if_pos rfl, gup_same]
  · rw [if_neg c, gup_ne c]; exact h
theorem gu_bN {gi : gI} {a j k x : Nat} {f : Nat → Nat} (h : gi a k = nI (f k)) : gu gi a j (nI x) a k = nI (gup f j x k) := by
  rw [gu_row]
  by_cases c : k = j
  · subst c; rw [if_pos rfl, gup_same]
  · rw [if_neg c, gup_ne c]; exact h
abbrev hdM (nb : Nat) (hd : Nat → Bool) (x : Int32) (on : Bool) : Prop := isIn nb x ∧ ¬ hd (ixI x) = on
theorem M_hide {E : gE} {T : gT} {gi : gI} {gr : gR} {m : Nat} {nb : Nat} {par : Nat → Option Nat} {kd : Nat → Int32} {hd : Nat → Bool} {li : Nat → Bool} {ct : Nat → Int32} {rk : Nat → Nat} {rks : Nat} {w : Int32} {h : Int32} {pl : Nat → Int32} {cs : Nat → Option K5} {fo : Option Nat} {pr : Option Nat} {ar : Nat → Nat → Bool} {co : Nat → Int32} {D : Nat → Bool} {F : Nat → Int32} {x : Int32} {on : Bool} (hI : MInv T gi gr m nb par kd hd li ct rk rks w h pl cs fo pr ar co D F) : Ct E mMO_hide [.ref m, .int x, .int (bI on)] T gi gr (fun T' gi' gr' v => T' = T ∧ gr' = gr ∧ MOff gi gi' m ∧ (hdM nb hd x on ∧ v = some (.int 1) ∧ MInv T gi' gr m nb par kd (gup hd (ixI x) on) li ct rk rks w h pl cs (atM par pl (gup hd (ixI x) on) kd fo) (atM par pl (gup hd (ixI x) on) kd pr) (lookS nb par kd (gup hd (ixI x) on) li pl fo pr ar co D).1 (lookS nb par kd (gup hd (ixI x) on) li pl fo pr ar co D).2.1 (lookS nb par kd (gup hd (ixI x) on) li pl fo pr ar co D).2.2 F ∨ ¬ hdM nb hd x on ∧ v = some (.int 0) ∧ MInv T gi' gr m nb par kd hd li ct rk rks w h pl cs fo pr ar co D F)) := by
  have h6 : nb ≤ 6 := hI.2.2.1.1.2
  generalize hQ : (fun (T' : gT) (gi' : gI) (gr' : gR) (v : Option Value) => T' = T ∧ gr' = gr ∧ MOff gi gi' m ∧ (hdM nb hd x on ∧ v = some (.int 1) ∧ MInv T gi' gr m nb par kd (gup hd (ixI x) on) li ct rk rks w h pl cs (atM par pl (gup hd (ixI x) on) kd fo) (atM par pl (gup hd (ixI x) on) kd pr) (lookS nb par kd (gup hd (ixI x) on) li pl fo pr ar co D).1 (lookS nb par kd (gup hd (ixI x) on) li pl fo pr ar co D).2.1 (lookS nb par kd (gup hd (ixI x) on) li pl fo pr ar co D).2.2 F ∨ ¬ hdM nb hd x on ∧ v = some (.int 0) ∧ MInv T gi' gr m nb par kd hd li ct rk rks w h pl cs fo pr ar co D F)) = QQ
  have no : ¬ isIn nb x → G E mMO_hide 12 [.ref m, .int x, .int (bI on)] [] T gi gr 0 0 QQ := by
    intro hn
    subst hQ
    refine G_iconst (v := 0) dMO_hide_12 (by decide) ?_
    exact G_ireturn dMO_hide_13 rfl (nr_z (by decide)) (by decide) (by decide) ⟨rfl, rfl, MOff.rf, Or.inr ⟨fun z => hn z.1, rfl, hI⟩⟩
  refine Ct_of (ls := [.ref m, .int x, .int (bI on)]) (by decide) (gcat_cons rfl (gcat_cons rfl (gcat_cons rfl gcat_nil))) (Nat.le_of_ble_eq_true rfl) rfl ?_
  refine G_aload_n dMO_hide_0 rfl ?_
  refine G_iload_n dMO_hide_1 rfl ?_
  refine G_callV (As := [.int x]) (rest := []) gMO_hide_MO_isBox lMO_153.1 lMO_153.2.1 lMO_153.2.2.1 lMO_153.2.2.2 dMO_hide_2 rfl (Nat.le_of_ble_eq_true rfl) hI.1.1 ⟨by decide, by decide⟩ (cMO_isBox hI) ?_
  refine same4 ?_
  refine G_st (st' := [.int (if isBx nb x then 1 else 0)]) rfl ?_
  refine G_if_eq dMO_hide_5 (fun h1 => no (fun z => (if01.mp h1) (isIn_iff.mp z).1)) (fun h1 => ?_)
  refine G_iload_n dMO_hide_8 rfl ?_
  refine G_if_ne dMO_hide_9 (fun h2 => ?_) (fun h2 => no (fun z => (isIn_iff.mp z).2 h2))
  have hin : isIn nb x := isIn_iff.mpr ⟨by by_cases c : isBx nb x; exact c; exact absurd (if01.mpr c) h1, h2⟩
  obtain ⟨j, hj0, hj, rfl⟩ := isIn_of h6 hin
  refine G_aload_n dMO_hide_14 rfl ?_
  refine G_getRs fMO_20 dMO_hide_15 hI.1.1 hI.1.r3 ?_
  refine G_iload_n dMO_hide_18 rfl ?_
  refine G_zaldN dMO_hide_19 hI.1.t3 hI.1.l3 (by decide) (by omega) ?_
  rw [hI.2.2.2.2.2.1 j (by omega)]
  refine G_iload_n dMO_hide_20 rfl ?_
  refine G_icmp_ne dMO_hide_21 (fun h3 => ?_) (fun h3 => ?_)
  · refine G_aload_n dMO_hide_26 rfl ?_
    refine G_getRs fMO_20 dMO_hide_27 hI.1.1 hI.1.r3 ?_
    refine G_iload_n dMO_hide_30 rfl ?_
    refine G_iload_n dMO_hide_31 rfl ?_
    refine G_zastN dMO_hide_32 hI.1.t3 hI.1.l3 (by decide) (by omega) (bI_01 _) ?_
    have hI2 := hI.s3 (gi' := gu gi (m + 3) j (bI on)) (hd' := gup hd j on) (fun a ha => gu_off ha) (fun k hk => gu_bB (hI.2.2.2.2.2.1 k hk))
    have hO2 : MOff gi (gu gi (m + 3) j (bI on)) m := MOff.rf.gu (by omega)
    generalize gu gi (m + 3) j (bI on) = g2 at hI2 hO2 ⊢
    refine G_aload_n dMO_hide_33 rfl ?_
    refine G_callV (As := []) (rest := []) gMO_hide_MO_look lMO_93.1 lMO_93.2.1 lMO_93.2.2.1 lMO_93.2.2.2 dMO_hide_34 rfl (Nat.le_of_ble_eq_true rfl) hI.1.1 ⟨by decide, by decide⟩ (cMO_look hI2) ?_
    rintro T9 g9 r9 _ ⟨e8, e9, rfl, hO9, hI9⟩
    cases e8.symm
    cases e9.symm
    refine G_st (st' := []) rfl ?_
    refine G_iconst (v := 1) dMO_hide_37 (by decide) ?_
    subst hQ
    exact G_ireturn dMO_hide_38 rfl (nr_z (by decide)) (by decide) (by decide) ⟨rfl, rfl, hO2.tr hO9, Or.inl ⟨⟨hin, by rw [ixI_n (by omega)]; exact fun z => h3 (by rw [z])⟩, rfl, by rw [ixI_n (by omega)]; exact hI9⟩⟩
  · refine G_iconst (v := 0) dMO_hide_24 (by decide) ?_
    subst hQ
    exact G_ireturn dMO_hide_25 rfl (nr_z (by decide)) (by decide) (by decide) ⟨rfl, rfl, MOff.rf, Or.inr ⟨fun z => z.2 (by rw [ixI_n (by omega)]; exact bI_inj.mp h3), rfl, hI⟩⟩
theorem canM_at {par : Nat → Option Nat} {pl : Nat → Int32} {hd : Nat → Bool} {kd : Nat → Int32} {q : Option Nat} (h : canM par pl hd kd q = true) : atM par pl hd kd q = q := by unfold atM; rw [if_pos h]
theorem canM_no {par : Nat → Option Nat} {pl : Nat → Int32} {hd : Nat → Bool} {kd : Nat → Int32} {q : Option Nat} (h : canM par pl hd kd q = false) : atM par pl hd kd q = none := by unfold atM; rw [if_neg (by rw [h]; decide)]
theorem M_press {E : gE} {T : gT} {gi : gI} {gr : gR} {m : Nat} {nb : Nat} {par : Nat → Option Nat} {kd : Nat → Int32} {hd : Nat → Bool} {li : Nat → Bool} {ct : Nat → Int32} {rk : Nat → Nat} {rks : Nat} {w : Int32} {h : Int32} {pl : Nat → Int32} {cs : Nat → Option K5} {fo : Option Nat} {pr : Option Nat} {ar : Nat → Nat → Bool} {co : Nat → Int32} {D : Nat → Bool} {F : Nat → Int32} {x y : Int32} (hI : MInv T gi gr m nb par kd hd li ct rk rks w h pl cs fo pr ar co D F) (hrk : ∀ j, j < nb → rk j < 1000000) : Ct E mMO_press [.ref m, .int x, .int y] T gi gr (fun T' gi' gr' v => T' = T ∧ gr' = gr ∧ MOff gi gi' m ∧ (pr = none ∧ v = some (.int (noI (htM par pl hd rk x y nb))) ∧ MInv T gi' gr m nb par kd hd li ct rk rks w h pl cs (atM par pl hd kd (atM par pl hd kd (htM par pl hd rk x y nb))) (atM par pl hd kd (atM par pl hd kd (htM par pl hd rk x y nb))) (lookS nb par kd hd li pl (atM par pl hd kd (htM par pl hd rk x y nb)) (atM par pl hd kd (htM par pl hd rk x y nb)) ar co D).1 (lookS nb par kd hd li pl (atM par pl hd kd (htM par pl hd rk x y nb)) (atM par pl hd kd (htM par pl hd rk x y nb)) ar co D).2.1 (lookS nb par kd hd li pl (atM par pl hd kd (htM par pl hd rk x y nb)) (atM par pl hd kd (htM par pl hd rk x y nb)) ar co D).2.2 F ∨ ¬ pr = none ∧ v = some (.int (-2)) ∧ MInv T gi' gr m nb par kd hd li ct rk rks w h pl cs fo pr ar co D F)) := by
  have h6 : nb ≤ 6 := hI.2.2.1.1.2
  have hlt := htM_lt (par := par) (pl := pl) (hd := hd) (rk := rk) (x := x) (y := y) nb
  have v0 := hI.2.1
  refine Ct_of (ls := [.ref m, .int x, .int y, .long 0, .long 0]) (by decide) (gcat_cons rfl (gcat_cons rfl (gcat_cons rfl gcat_nil))) (Nat.le_of_ble_eq_true rfl) rfl ?_
  refine G_aload_n dMO_press_0 rfl ?_
  refine G_getI fMO_72 dMO_press_1 hI.1.1 ?_
  rw [v0.2.2.2.2.2]
  cases pr with
  | some i =>
    refine G_if_lt dMO_press_4 (fun z => absurd z (nI_pos (by have := hI.2.2.1.2.2.2 i rfl; omega))) (fun _ => ?_)
    refine G_bipush (v := -2) dMO_press_7 (by decide) ?_
    exact G_ireturn dMO_press_9 rfl rfl (by decide) (by decide) ⟨rfl, rfl, MOff.rf, Or.inr ⟨(fun z => by cases z), rfl, hI⟩⟩
  | none =>
    refine G_if_lt dMO_press_4 (fun _ => ?_) (fun z => absurd noI_neg z)
    refine G_aload_n dMO_press_10 rfl ?_
    refine G_iload_n dMO_press_11 rfl ?_
    refine G_iload_n dMO_press_12 rfl ?_
    refine G_callV (As := [.int x, .int y]) (rest := []) gMO_press_MO_hit lMO_175.1 lMO_175.2.1 lMO_175.2.2.1 lMO_175.2.2.2 dMO_press_13 rfl (Nat.le_of_ble_eq_true rfl) hI.1.1 ⟨by decide, by decide⟩ (cMO_hit hI hrk) ?_
    refine same4 ?_
    generalize hu : htM par pl hd rk x y nb = u at hlt ⊢
    refine G_st (st' := [.int (noI u)]) rfl ?_
    refine G_istore_n (ls' := [.ref m, .int x, .int y, .int (noI u), .long 0]) dMO_press_16 (by decide) rfl ?_
    refine G_aload_n dMO_press_17 rfl ?_
    refine G_iload_n dMO_press_18 rfl ?_
    refine G_callV (As := [.int (noI u)]) (rest := []) gMO_press_MO_can lMO_107.1 lMO_107.2.1 lMO_107.2.2.1 lMO_107.2.2.2 dMO_press_19 rfl (Nat.le_of_ble_eq_true rfl) hI.1.1 ⟨by decide, by decide⟩ (cMO_can hI hlt) ?_
    refine same4 ?_
    refine G_st (st' := [.int (bI (canM par pl hd kd u))]) rfl ?_
    refine G_istore (ls' := [.ref m, .int x, .int y, .int (noI u), .int (bI (canM par pl hd kd u))]) dMO_press_22 (by decide) rfl ?_
    have fin : ∀ g2, MInv T g2 gr m nb par kd hd li ct rk rks w h pl cs (atM par pl hd kd u) (atM par pl hd kd u) ar co D F → MOff gi g2 m → G E mMO_press 52 [.ref m, .int x, .int y, .int (noI u), .int (bI (canM par pl hd kd u))] [] T g2 gr 0 0 (fun T' gi' gr' v => T' = T ∧ gr' = gr ∧ MOff gi gi' m ∧ ((none : Option Nat) = none ∧ v = some (.int (noI u)) ∧ MInv T gi' gr m nb par kd hd li ct rk rks w h pl cs (atM par pl hd kd (atM par pl hd kd u)) (atM par pl hd kd (atM par pl hd kd u)) (lookS nb par kd hd li pl (atM par pl hd kd u) (atM par pl hd kd u) ar co D).1 (lookS nb par kd hd li pl (atM par pl hd kd u) (atM par pl hd kd u) ar co D).2.1 (lookS nb par kd hd li pl (atM par pl hd kd u) (atM par pl hd kd u) ar co D).2.2 F ∨ ¬ (none : Option Nat) = none ∧ v = some (.int (-2)) ∧ MInv T gi' gr m nb par kd hd li ct rk rks w h pl cs fo none ar co D F)) := by
      intro g2 hI2 hO2
      refine G_aload_n dMO_press_52 rfl ?_
      refine G_callV (As := []) (rest := []) gMO_press_MO_look lMO_93.1 lMO_93.2.1 lMO_93.2.2.1 lMO_93.2.2.2 dMO_press_53 rfl (Nat.le_of_ble_eq_true rfl) hI.1.1 ⟨by decide, by decide⟩ (cMO_look hI2) ?_
      rintro T9 g9 r9 _ ⟨e8, e9, rfl, hO9, hI9⟩
      cases e8.symm
      cases e9.symm
      refine G_st (st' := []) rfl ?_
      refine G_iload_n dMO_press_56 rfl ?_
      exact G_ireturn dMO_press_57 rfl rfl (by decide) (by decide) ⟨rfl, rfl, hO2.tr hO9, Or.inl ⟨rfl, rfl, hI9⟩⟩
    have s0 := hI.s0 (gi' := gu (gu gi m 23 (noI (atM par pl hd kd u))) m 24 (noI (atM par pl hd kd u))) (rks' := rks) (w' := w) (h' := h) (fo' := atM par pl hd kd u) (pr' := atM par pl hd kd u) (fun a ha => by rw [gu_off ha, gu_off ha]) ⟨by rw [gu_ne (by omega), gu_ne (by omega)]; exact v0.1, by rw [gu_ne (by omega), gu_ne (by omega)]; exact v0.2.1, by rw [gu_ne (by omega), gu_ne (by omega)]; exact v0.2.2.1, by rw [gu_ne (by omega), gu_ne (by omega)]; exact v0.2.2.2.1, by rw [gu_ne (by omega), gu_same], gu_same⟩ (atM_lt hlt) (atM_lt hlt)
    have o0 : MOff gi (gu (gu gi m 23 (noI (atM par pl hd kd u))) m 24 (noI (atM par pl hd kd u))) m := MOff.gu (MOff.gu MOff.rf (by omega)) (by omega)
    refine G_aload_n dMO_press_24 rfl ?_
    refine G_iload dMO_press_25 rfl ?_
    refine G_if_eq dMO_press_27 (fun h1 => ?_) (fun h1 => ?_)
    · rw [canM_no (bI_z.mp h1)] at s0 o0 fin
      refine G_iconst (v := noI none) dMO_press_34 (by decide) ?_
      refine G_putI wMO_69 (Or.inl rfl) dMO_press_35 hI.1.1 rfl rfl ?_
      refine G_aload_n dMO_press_38 rfl ?_
      refine G_iload dMO_press_39 rfl ?_
      refine G_if_eq dMO_press_41 (fun _ => ?_) (fun z => absurd h1 z)
      refine G_iconst (v := noI none) dMO_press_48 (by decide) ?_
      refine G_putI wMO_72 (Or.inl rfl) dMO_press_49 hI.1.1 rfl rfl ?_
      rw [canM_no (bI_z.mp h1)]
      exact fin _ s0 o0
    · rw [canM_at (bt h1)] at s0 o0 fin
      refine G_iload_n dMO_press_30 rfl ?_
      refine G_goto dMO_press_31 ?_
      refine G_putI wMO_69 (Or.inl rfl) dMO_press_35 hI.1.1 rfl rfl ?_
      refine G_aload_n dMO_press_38 rfl ?_
      refine G_iload dMO_press_39 rfl ?_
      refine G_if_eq dMO_press_41 (fun z => absurd z h1) (fun _ => ?_)
      refine G_iload_n dMO_press_44 rfl ?_
      refine G_goto dMO_press_45 ?_
      refine G_putI wMO_72 (Or.inl rfl) dMO_press_49 hI.1.1 rfl rfl ?_
      rw [canM_at (bt h1)]
      exact fin _ s0 o0
def ctA (par : Nat → Option Nat) (i : Nat) (ct : Nat → Int32) : Nat → Nat → Int32
  | 0 => ct
  | k + 1 => match anP par i k with
    | some c => gup (ctA par i ct k) c (ctA par i ct k c + 1)
    | none => ctA par i ct k
def liA (kd : Nat → Int32) (li : Nat → Bool) (i : Nat) : Nat → Bool := if kd i = 2 then gup li i (!li i) else li
theorem ctA_stop {par : Nat → Option Nat} {i : Nat} {ct : Nat → Int32} {k : Nat} (h : anP par i k = none) : ∀ d, anP par i (k + d) = none ∧ ctA par i ct (k + d) = ctA par i ct k
  | 0 => ⟨h, rfl⟩
  | d + 1 => by
    obtain ⟨h1, h2⟩ := ctA_stop (ct := ct) h d
    refine ⟨?_, ?_⟩
    · show (anP par i (k + d)).bind par = none
      rw [h1]; rfl
    · show (match anP par i (k + d) with | some c => gup (ctA par i ct (k + d)) c (ctA par i ct (k + d) c + 1) | none => ctA par i ct (k + d)) = _
      rw [h1]
      exact h2
theorem ac_end {E : gE} {T : gT} {g0 : gI} {gr : gR} {m : Nat} {nb : Nat} {par : Nat → Option Nat} {kd : Nat → Int32} {hd : Nat → Bool} {li : Nat → Bool} {ct : Nat → Int32} {rk : Nat → Nat} {rks : Nat} {w : Int32} {h : Int32} {pl : Nat → Int32} {cs : Nat → Option K5} {fo : Option Nat} {pr : Option Nat} {ar : Nat → Nat → Bool} {co : Nat → Int32} {D : Nat → Bool} {F : Nat → Int32} {i : Nat} {v2 v3 : Value} {gi : gI} (hi : i < nb) (hI : MInv T gi gr m nb par kd hd li ct rk rks w h pl cs fo pr ar co D F) (hO : MOff g0 gi m) : G E mMO_activate 37 [.ref m, .int (nI i), v2, v3] [] T gi gr 0 0 (fun T' gi' gr' v => T' = T ∧ gr' = gr ∧ v = none ∧ MOff g0 gi' m ∧ MInv T gi' gr m nb par kd hd (liA kd li i) ct rk rks w h pl cs fo pr ar co D F) := by
  have h6 : nb ≤ 6 := hI.2.2.1.1.2
  refine G_aload_n dMO_activate_37 rfl ?_
  refine G_getRs fMO_13 dMO_activate_38 hI.1.1 hI.1.r1 ?_
  refine G_iload_n dMO_activate_41 rfl ?_
  refine G_ialdN dMO_activate_42 hI.1.t1 hI.1.l1 (by decide) (by omega) ?_
  rw [hI.2.2.2.1 i (by omega)]
  refine G_iconst (v := 2) dMO_activate_43 (by decide) ?_
  refine G_icmp_ne dMO_activate_44 (fun h1 => ?_) (fun h1 => ?_)
  · have e : liA kd li i = li := by unfold liA; rw [if_neg h1]
    exact G_return dMO_activate_67 rfl (by decide) (by decide) ⟨rfl, rfl, rfl, hO, by rw [e]; exact hI⟩
  · have e : liA kd li i = gup li i (!li i) := by unfold liA; rw [if_pos h1]
    have fin : ∀ q : Bool, q = !li i → G E mMO_activate 66 [.ref m, .int (nI i), v2, v3] [.int (bI q), .int (nI i), .ref (m + 4)] T gi gr 0 0 (fun T' gi' gr' v => T' = T ∧ gr' = gr ∧ v = none ∧ MOff g0 gi' m ∧ MInv T gi' gr m nb par kd hd (liA kd li i) ct rk rks w h pl cs fo pr ar co D F) := by
      rintro q rfl
      refine G_zastN dMO_activate_66 hI.1.t4 hI.1.l4 (by decide) (by omega) (bI_01 _) ?_
      exact G_return dMO_activate_67 rfl (by decide) (by decide) ⟨rfl, rfl, rfl, hO.gu (by omega), by rw [e]; exact hI.s4 (fun a ha => gu_off ha) (fun k hk => gu_bB (hI.2.2.2.2.2.2.1 k hk))⟩
    refine G_aload_n dMO_activate_47 rfl ?_
    refine G_getRs fMO_24 dMO_activate_48 hI.1.1 hI.1.r4 ?_
    refine G_iload_n dMO_activate_51 rfl ?_
    refine G_aload_n dMO_activate_52 rfl ?_
    refine G_getRs fMO_24 dMO_activate_53 hI.1.1 hI.1.r4 ?_
    refine G_iload_n dMO_activate_56 rfl ?_
    refine G_zaldN dMO_activate_57 hI.1.t4 hI.1.l4 (by decide) (by omega) ?_
    rw [hI.2.2.2.2.2.2.1 i (by omega)]
    refine G_if_ne dMO_activate_58 (fun h2 => ?_) (fun h2 => ?_)
    · refine G_iconst (v := bI false) dMO_activate_65 (by decide) ?_
      exact fin false (by rw [bt h2]; rfl)
    · refine G_iconst (v := bI true) dMO_activate_61 (by decide) ?_
      refine G_goto dMO_activate_62 ?_
      exact fin true (by rw [bI_z.mp h2]; rfl)
theorem ac_loop {E : gE} {T : gT} {g0 : gI} {gr : gR} {m : Nat} {nb : Nat} {par : Nat → Option Nat} {kd : Nat → Int32} {hd : Nat → Bool} {li : Nat → Bool} {ct : Nat → Int32} {rk : Nat → Nat} {rks : Nat} {w : Int32} {h : Int32} {pl : Nat → Int32} {cs : Nat → Option K5} {fo : Option Nat} {pr : Option Nat} {ar : Nat → Nat → Bool} {co : Nat → Int32} {D : Nat → Bool} {F : Nat → Int32} {i : Nat} (hi : i < nb) (hp : ∀ i p, i < nb → par i = some p → p < i) (h6 : nb ≤ 6) : ∀ (n k : Nat), k + n = 6 → ∀ gi : gI, MInv T gi gr m nb par kd hd li (ctA par i ct k) rk rks w h pl cs fo pr ar co D F → MOff g0 gi m → G E mMO_activate 4 [.ref m, .int (nI i), .int (noI (anP par i k)), .int (nI k)] [] T gi gr 0 0 (fun T' gi' gr' v => T' = T ∧ gr' = gr ∧ v = none ∧ MOff g0 gi' m ∧ MInv T gi' gr m nb par kd hd (liA kd li i) (ctA par i ct 6) rk rks w h pl cs fo pr ar co D F) := by
  intro n
  induction n with
  | zero =>
    intro k hk gi hI hO
    have : k = 6 := by omega
    subst this
    refine G_iload_n dMO_activate_4 rfl ?_
    refine G_bipush (v := 6) dMO_activate_5 (by decide) ?_
    exact G_icmp_ge dMO_activate_7 (fun _ => ac_end hi hI hO) (fun z => absurd (by decide +kernel) z)
  | succ n ih =>
    intro k hk gi hI hO
    refine G_iload_n dMO_activate_4 rfl ?_
    refine G_bipush (v := 6) dMO_activate_5 (by decide) ?_
    refine G_icmp_ge dMO_activate_7 (fun z => absurd z (nI_ge (b := 6) (by omega) (by decide))) (fun _ => ?_)
    refine G_iload_n dMO_activate_10 rfl ?_
    cases ha : anP par i k with
    | none =>
      have e := (ctA_stop (ct := ct) ha (n + 1)).2
      rw [hk] at e
      refine G_if_lt dMO_activate_11 (fun _ => ?_) (fun z => absurd noI_neg z)
      rw [e]
      exact ac_end hi hI hO
    | some a =>
      have hal := anM_lt hp hi k a ha
      have e1 : ctA par i ct (k + 1) = gup (ctA par i ct k) a (ctA par i ct k a + 1) := by
        show (match anP par i k with | some c => gup (ctA par i ct k) c (ctA par i ct k c + 1) | none => ctA par i ct k) = _
        rw [ha]
      have e2 : anP par i (k + 1) = par a := by
        show (anP par i k).bind par = par a
        rw [ha]; rfl
      refine G_if_lt dMO_activate_11 (fun z => absurd z (nI_pos (by omega))) (fun _ => ?_)
      refine G_aload_n dMO_activate_14 rfl ?_
      refine G_getRs fMO_27 dMO_activate_15 hI.1.1 hI.1.r5 ?_
      refine G_iload_n (x := nI a) dMO_activate_18 rfl ?_
      refine G_dup2 dMO_activate_19 rfl rfl ?_
      refine G_ialdN dMO_activate_20 hI.1.t5 hI.1.l5 (by decide) (by omega) ?_
      rw [hI.2.2.2.2.2.2.2.1 a (by omega)]
      refine G_iconst (v := 1) dMO_activate_21 (by decide) ?_
      refine G_iadd dMO_activate_22 ?_
      refine G_iastN dMO_activate_23 hI.1.t5 hI.1.l5 (by decide) (by omega) ?_
      have hI2 := hI.s5 (gi' := gu gi (m + 5) a (ctA par i ct k a + 1)) (ct' := ctA par i ct (k + 1)) (fun q hq => gu_off hq) (fun j hj => by rw [e1]; exact gu_b (hI.2.2.2.2.2.2.2.1 j hj))
      have hO2 : MOff g0 (gu gi (m + 5) a (ctA par i ct k a + 1)) m := hO.gu (by omega)
      generalize gu gi (m + 5) a (ctA par i ct k a + 1) = g2 at hI2 hO2 ⊢
      refine G_aload_n dMO_activate_24 rfl ?_
      refine G_getRs fMO_17 dMO_activate_25 hI.1.1 hI.1.r2 ?_
      refine G_iload_n (x := nI a) dMO_activate_28 rfl ?_
      refine G_ialdN dMO_activate_29 hI.1.t2 hI.1.l2 (by decide) (by omega) ?_
      rw [hI2.2.2.2.2.1 a hal]
      refine G_istore_n (ls' := [.ref m, .int (nI i), .int (noI (anP par i (k + 1))), .int (nI k)]) dMO_activate_30 (by decide) (by rw [e2]; rfl) ?_
      refine G_iinc (ls' := [.ref m, .int (nI i), .int (noI (anP par i (k + 1))), .int (nI (k + 1))]) dMO_activate_31 rfl (nI_inc k) (by decide) rfl ?_
      refine G_goto dMO_activate_34 ?_
      exact ih (k + 1) (by omega) g2 hI2 hO2
theorem cMO_activate {E : gE} {T : gT} {gi : gI} {gr : gR} {m : Nat} {nb : Nat} {par : Nat → Option Nat} {kd : Nat → Int32} {hd : Nat → Bool} {li : Nat → Bool} {ct : Nat → Int32} {rk : Nat → Nat} {rks : Nat} {w : Int32} {h : Int32} {pl : Nat → Int32} {cs : Nat → Option K5} {fo : Option Nat} {pr : Option Nat} {ar : Nat → Nat → Bool} {co : Nat → Int32} {D : Nat → Bool} {F : Nat → Int32} {i : Nat} (hI : MInv T gi gr m nb par kd hd li ct rk rks w h pl cs fo pr ar co D F) (hi : i < nb) : Ct E mMO_activate [.ref m, .int (nI i)] T gi gr (fun T' gi' gr' v => T' = T ∧ gr' = gr ∧ v = none ∧ MOff gi gi' m ∧ MInv T gi' gr m nb par kd hd (liA kd li i) (ctA par i ct 6) rk rks w h pl cs fo pr ar co D F) := by
  refine Ct_of (ls := [.ref m, .int (nI i), .long 0, .long 0]) (by decide) (gcat_cons rfl (gcat_cons rfl gcat_nil)) (Nat.le_of_ble_eq_true rfl) rfl ?_
  refine G_iload_n dMO_activate_0 rfl ?_
  refine G_istore_n (ls' := [.ref m, .int (nI i), .int (nI i), .long 0]) dMO_activate_1 (by decide) rfl ?_
  refine G_iconst (v := nI 0) dMO_activate_2 (by decide +kernel) ?_
  refine G_istore_n (ls' := [.ref m, .int (nI i), .int (nI i), .int (nI 0)]) dMO_activate_3 (by decide) rfl ?_
  exact ac_loop (ct := ct) hi hI.2.2.1.2.1 hI.2.2.1.1.2 6 0 rfl gi hI MOff.rf
def rlT (par : Nat → Option Nat) (ct : Nat → Int32) (pr u : Option Nat) : Nat → Int32 := match pr with
  | some i => if u = some i then ctA par i ct 6 else ct
  | none => ct
def rlL (kd : Nat → Int32) (li : Nat → Bool) (pr u : Option Nat) : Nat → Bool := match pr with
  | some i => if u = some i then liA kd li i else li
  | none => li
theorem M_release {E : gE} {T : gT} {gi : gI} {gr : gR} {m : Nat} {nb : Nat} {par : Nat → Option Nat} {kd : Nat → Int32} {hd : Nat → Bool} {li : Nat → Bool} {ct : Nat → Int32} {rk : Nat → Nat} {rks : Nat} {w : Int32} {h : Int32} {pl : Nat → Int32} {cs : Nat → Option K5} {fo : Option Nat} {pr : Option Nat} {ar : Nat → Nat → Bool} {co : Nat → Int32} {D : Nat → Bool} {F : Nat → Int32} {x y : Int32} (hI : MInv T gi gr m nb par kd hd li ct rk rks w h pl cs fo pr ar co D F) (hrk : ∀ j, j < nb → rk j < 1000000) : Ct E mMO_release [.ref m, .int x, .int y] T gi gr (fun T' gi' gr' v => T' = T ∧ gr' = gr ∧ MOff gi gi' m ∧ (¬ pr = none ∧ v = some (.int (noI (rlO pr (htM par pl hd rk x y nb)))) ∧ MInv T gi' gr m nb par kd hd (rlL kd li pr (htM par pl hd rk x y nb)) (rlT par ct pr (htM par pl hd rk x y nb)) rk rks w h pl cs (atM par pl hd kd fo) (atM par pl hd kd none) (lookS nb par kd hd (rlL kd li pr (htM par pl hd rk x y nb)) pl fo none ar co D).1 (lookS nb par kd hd (rlL kd li pr (htM par pl hd rk x y nb)) pl fo none ar co D).2.1 (lookS nb par kd hd (rlL kd li pr (htM par pl hd rk x y nb)) pl fo none ar co D).2.2 F ∨ pr = none ∧ v = some (.int (-2)) ∧ MInv T gi' gr m nb par kd hd li ct rk rks w h pl cs fo pr ar co D F)) := by
  have h6 : nb ≤ 6 := hI.2.2.1.1.2
  have hlt := htM_lt (par := par) (pl := pl) (hd := hd) (rk := rk) (x := x) (y := y) nb
  have v0 := hI.2.1
  refine Ct_of (ls := [.ref m, .int x, .int y, .long 0, .long 0]) (by decide) (gcat_cons rfl (gcat_cons rfl (gcat_cons rfl gcat_nil))) (Nat.le_of_ble_eq_true rfl) rfl ?_
  refine G_aload_n dMO_release_0 rfl ?_
  refine G_getI fMO_72 dMO_release_1 hI.1.1 ?_
  rw [v0.2.2.2.2.2]
  cases pr with
  | none =>
    refine G_if_ge dMO_release_4 (fun z => absurd z (by decide)) (fun _ => ?_)
    refine G_bipush (v := -2) dMO_release_7 (by decide) ?_
    exact G_ireturn dMO_release_9 rfl rfl (by decide) (by decide) ⟨rfl, rfl, MOff.rf, Or.inr ⟨rfl, rfl, hI⟩⟩
  | some i =>
    have hi := hI.2.2.1.2.2.2 i rfl
    refine G_if_ge dMO_release_4 (fun _ => ?_) (fun z => absurd (nI_pos' (by omega)) z)
    refine G_aload_n dMO_release_10 rfl ?_
    refine G_getI fMO_72 dMO_release_11 hI.1.1 ?_
    rw [v0.2.2.2.2.2]
    refine G_istore_n (ls' := [.ref m, .int x, .int y, .int (nI i), .long 0]) dMO_release_14 (by decide) rfl ?_
    refine G_aload_n dMO_release_15 rfl ?_
    refine G_iconst (v := noI none) dMO_release_16 (by decide) ?_
    refine G_putI wMO_72 (Or.inl rfl) dMO_release_17 hI.1.1 rfl rfl ?_
    have hI2 := hI.s0 (gi' := gu gi m 24 (noI none)) (rks' := rks) (w' := w) (h' := h) (fo' := fo) (pr' := none) (fun a ha => gu_off ha) ⟨by rw [gu_ne (by omega)]; exact v0.1, by rw [gu_ne (by omega)]; exact v0.2.1, by rw [gu_ne (by omega)]; exact v0.2.2.1, by rw [gu_ne (by omega)]; exact v0.2.2.2.1, by rw [gu_ne (by omega)]; exact v0.2.2.2.2.1, gu_same⟩ hI.2.2.1.2.2.1 (fun _ z => by cases z)
    have hO2 : MOff gi (gu gi m 24 (noI none)) m := MOff.rf.gu (by omega)
    generalize gu gi m 24 (noI none) = g2 at hI2 hO2 ⊢
    refine G_aload_n dMO_release_20 rfl ?_
    refine G_iload_n dMO_release_21 rfl ?_
    refine G_iload_n dMO_release_22 rfl ?_
    refine G_callV (As := [.int x, .int y]) (rest := []) gMO_release_MO_hit lMO_175.1 lMO_175.2.1 lMO_175.2.2.1 lMO_175.2.2.2 dMO_release_23 rfl (Nat.le_of_ble_eq_true rfl) hI.1.1 ⟨by decide, by decide⟩ (cMO_hit hI2 hrk) ?_
    refine same4 ?_
    generalize hu : htM par pl hd rk x y nb = u at hlt ⊢
    refine G_st (st' := [.int (noI u)]) rfl ?_
    refine G_iload_n dMO_release_26 rfl ?_
    have hue := noI_eq (o := u) (b := i) (fun j hj => by have := hlt j hj; omega) (by omega)
    refine G_icmp_ne dMO_release_27 (fun h1 => ?_) (fun h1 => ?_)
    · have hn : ¬ u = some i := fun z => h1 (hue.mpr z)
      refine G_iconst (v := 0) dMO_release_34 (by decide) ?_
      refine G_istore (ls' := [.ref m, .int x, .int y, .int (nI i), .int 0]) dMO_release_35 (by decide) rfl ?_
      refine G_iload dMO_release_37 rfl ?_
      refine G_if_eq dMO_release_39 (fun _ => ?_) (fun z => absurd rfl z)
      refine G_aload_n dMO_release_47 rfl ?_
      refine G_callV (As := []) (rest := []) gMO_release_MO_look lMO_93.1 lMO_93.2.1 lMO_93.2.2.1 lMO_93.2.2.2 dMO_release_48 rfl (Nat.le_of_ble_eq_true rfl) hI.1.1 ⟨by decide, by decide⟩ (cMO_look hI2) ?_
      rintro T9 g9 r9 _ ⟨e8, e9, rfl, hO9, hI9⟩
      cases e8.symm
      cases e9.symm
      refine G_st (st' := []) rfl ?_
      refine G_iload dMO_release_51 rfl ?_
      refine G_if_eq dMO_release_53 (fun _ => ?_) (fun z => absurd rfl z)
      refine G_iconst (v := -1) dMO_release_60 (by decide) ?_
      exact G_ireturn dMO_release_61 rfl rfl (by decide) (by decide) ⟨rfl, rfl, hO2.tr hO9, Or.inl ⟨(fun z => by cases z), by unfold rlO; rw [if_neg hn]; rfl, by unfold rlT rlL; dsimp only; rw [if_neg hn, if_neg hn]; exact hI9⟩⟩
    · have hn : u = some i := hue.mp h1
      refine G_iconst (v := 1) dMO_release_30 (by decide) ?_
      refine G_goto dMO_release_31 ?_
      refine G_istore (ls' := [.ref m, .int x, .int y, .int (nI i), .int 1]) dMO_release_35 (by decide) rfl ?_
      refine G_iload dMO_release_37 rfl ?_
      refine G_if_eq dMO_release_39 (fun z => absurd z (by decide)) (fun _ => ?_)
      refine G_aload_n dMO_release_42 rfl ?_
      refine G_iload_n dMO_release_43 rfl ?_
      refine G_callV (As := [.int (nI i)]) (rest := []) gMO_release_MO_activate lMO_178.1 lMO_178.2.1 lMO_178.2.2.1 lMO_178.2.2.2 dMO_release_44 rfl (Nat.le_of_ble_eq_true rfl) hI.1.1 ⟨by decide, by decide⟩ (cMO_activate hI2 hi) ?_
      rintro T1 g3 r1 _ ⟨e1, e2, rfl, hO3, hI3⟩
      cases e1.symm
      cases e2.symm
      refine G_st (st' := []) rfl ?_
      refine G_aload_n dMO_release_47 rfl ?_
      refine G_callV (As := []) (rest := []) gMO_release_MO_look lMO_93.1 lMO_93.2.1 lMO_93.2.2.1 lMO_93.2.2.2 dMO_release_48 rfl (Nat.le_of_ble_eq_true rfl) hI.1.1 ⟨by decide, by decide⟩ (cMO_look hI3) ?_
      rintro T9 g9 r9 _ ⟨e8, e9, rfl, hO9, hI9⟩
      cases e8.symm
      cases e9.symm
      refine G_st (st' := []) rfl ?_
      refine G_iload dMO_release_51 rfl ?_
      refine G_if_eq dMO_release_53 (fun z => absurd z (by decide)) (fun _ => ?_)
      refine G_iload_n dMO_release_56 rfl ?_
      refine G_goto dMO_release_57 ?_
      exact G_ireturn dMO_release_61 rfl rfl (by decide) (by decide) ⟨rfl, rfl, (hO2.tr hO3).tr hO9, Or.inl ⟨(fun z => by cases z), by unfold rlO; rw [if_pos hn]; rfl, by unfold rlT rlL; dsimp only; rw [if_pos hn, if_pos hn]; exact hI9⟩⟩
def kyT (par : Nat → Option Nat) (ct : Nat → Int32) (fo : Option Nat) : Nat → Int32 := match fo with
  | some i => ctA par i ct 6
  | none => ct
def kyL (kd : Nat → Int32) (li : Nat → Bool) (fo : Option Nat) : Nat → Bool := match fo with
  | some i => liA kd li i
  | none => li
theorem M_key {E : gE} {T : gT} {gi : gI} {gr : gR} {m : Nat} {nb : Nat} {par : Nat → Option Nat} {kd : Nat → Int32} {hd : Nat → Bool} {li : Nat → Bool} {ct : Nat → Int32} {rk : Nat → Nat} {rks : Nat} {w : Int32} {h : Int32} {pl : Nat → Int32} {cs : Nat → Option K5} {fo : Option Nat} {pr : Option Nat} {ar : Nat → Nat → Bool} {co : Nat → Int32} {D : Nat → Bool} {F : Nat → Int32} (hI : MInv T gi gr m nb par kd hd li ct rk rks w h pl cs fo pr ar co D F) : Ct E mMO_key [.ref m] T gi gr (fun T' gi' gr' v => T' = T ∧ gr' = gr ∧ MOff gi gi' m ∧ (¬ fo = none ∧ v = some (.int (noI fo)) ∧ MInv T gi' gr m nb par kd hd (kyL kd li fo) (kyT par ct fo) rk rks w h pl cs (atM par pl hd kd fo) (atM par pl hd kd pr) (lookS nb par kd hd (kyL kd li fo) pl fo pr ar co D).1 (lookS nb par kd hd (kyL kd li fo) pl fo pr ar co D).2.1 (lookS nb par kd hd (kyL kd li fo) pl fo pr ar co D).2.2 F ∨ fo = none ∧ v = some (.int (-1)) ∧ MInv T gi' gr m nb par kd hd li ct rk rks w h pl cs fo pr ar co D F)) := by
  have h6 : nb ≤ 6 := hI.2.2.1.1.2
  have v0 := hI.2.1
  refine Ct_of (ls := [.ref m, .long 0]) (by decide) (gcat_cons rfl gcat_nil) (Nat.le_of_ble_eq_true rfl) rfl ?_
  refine G_aload_n dMO_key_0 rfl ?_
  refine G_getI fMO_69 dMO_key_1 hI.1.1 ?_
  rw [v0.2.2.2.2.1]
  cases fo with
  | none =>
    refine G_if_ge dMO_key_4 (fun z => absurd z (by decide)) (fun _ => ?_)
    refine G_iconst (v := -1) dMO_key_7 (by decide) ?_
    exact G_ireturn dMO_key_8 rfl rfl (by decide) (by decide) ⟨rfl, rfl, MOff.rf, Or.inr ⟨rfl, rfl, hI⟩⟩
  | some i =>
    have hi := hI.2.2.1.2.2.1 i rfl
    refine G_if_ge dMO_key_4 (fun _ => ?_) (fun z => absurd (nI_pos' (by omega)) z)
    refine G_aload_n dMO_key_9 rfl ?_
    refine G_getI fMO_69 dMO_key_10 hI.1.1 ?_
    rw [v0.2.2.2.2.1]
    refine G_istore_n (ls' := [.ref m, .int (nI i)]) dMO_key_13 (by decide) rfl ?_
    refine G_aload_n dMO_key_14 rfl ?_
    refine G_iload_n dMO_key_15 rfl ?_
    refine G_callV (As := [.int (nI i)]) (rest := []) gMO_key_MO_activate lMO_178.1 lMO_178.2.1 lMO_178.2.2.1 lMO_178.2.2.2 dMO_key_16 rfl (Nat.le_of_ble_eq_true rfl) hI.1.1 ⟨by decide, by decide⟩ (cMO_activate hI hi) ?_
    rintro T1 g3 r1 _ ⟨e1, e2, rfl, hO3, hI3⟩
    cases e1.symm
    cases e2.symm
    refine G_st (st' := []) rfl ?_
    refine G_aload_n dMO_key_19 rfl ?_
    refine G_callV (As := []) (rest := []) gMO_key_MO_look lMO_93.1 lMO_93.2.1 lMO_93.2.2.1 lMO_93.2.2.2 dMO_key_20 rfl (Nat.le_of_ble_eq_true rfl) hI.1.1 ⟨by decide, by decide⟩ (cMO_look hI3) ?_
    rintro T9 g9 r9 _ ⟨e8, e9, rfl, hO9, hI9⟩
    cases e8.symm
    cases e9.symm
    refine G_st (st' := []) rfl ?_
    refine G_iload_n dMO_key_23 rfl ?_
    exact G_ireturn dMO_key_24 rfl rfl (by decide) (by decide) ⟨rfl, rfl, hO3.tr hO9, Or.inl ⟨(fun z => by cases z), rfl, hI9⟩⟩
