theorem og_eq {p q : Int32} : ogM p = ogM q ↔ (tbE p ↔ tbE q) := by
  unfold ogM
  by_cases a : tbE p
  · by_cases b : tbE q
    · rw [if_pos a, if_pos b]; exact ⟨fun _ => ⟨fun _ => b, fun _ => a⟩, fun _ => rfl⟩
    · rw [if_pos a, if_neg b]; exact ⟨fun z => absurd z (by decide), fun z => absurd (z.mp a) b⟩
  · by_cases b : tbE q
    · rw [if_neg a, if_pos b]; exact ⟨fun z => absurd z (by decide), fun z => absurd (z.mpr b) a⟩
    · rw [if_neg a, if_neg b]; exact ⟨fun _ => ⟨fun z => absurd z a, fun z => absurd z b⟩, fun _ => rfl⟩
theorem M_constrain {E : gE} {T : gT} {gi : gI} {gr : gR} {m : Nat} {nb : Nat} {par : Nat → Option Nat} {kd : Nat → Int32} {hd : Nat → Bool} {li : Nat → Bool} {ct : Nat → Int32} {rk : Nat → Nat} {rks : Nat} {w : Int32} {h : Int32} {pl : Nat → Int32} {cs : Nat → Option K5} {fo : Option Nat} {pr : Option Nat} {ar : Nat → Nat → Bool} {co : Nat → Int32} {D : Nat → Bool} {F : Nat → Int32} {p q c f s : Int32} (hI : MInv T gi gr m nb par kd hd li ct rk rks w h pl cs fo pr ar co D F) : Ct E mMO_constrain [.ref m, .int p, .int q, .int c, .int f, .int s] T gi gr (fun T' gi' gr' v => T' = T ∧ gr' = gr ∧ MOff gi gi' m ∧ (¬ cnC nb p q c f s ∧ v = some (.int (-1)) ∧ MInv T gi' gr m nb par kd hd li ct rk rks w h pl cs fo pr ar co D F ∨ cnC nb p q c f s ∧ (∀ j, j < 16 → cs j ≠ none) ∧ v = some (.int (-2)) ∧ MInv T gi' gr m nb par kd hd li ct rk rks w h pl cs fo pr ar co D F ∨ cnC nb p q c f s ∧ ∃ i, i < 16 ∧ cs i = none ∧ (∀ j, j < i → cs j ≠ none) ∧ (cfM (rqM w h nb (gup cs i (some (kOf p q c f s)))) = false ∧ v = some (.int (nI i)) ∧ MInv T gi' gr m nb par kd hd li ct rk rks w h (slP w h nb (gup cs i (some (kOf p q c f s))) pl none 0) (gup cs i (some (kOf p q c f s))) (atM par (slP w h nb (gup cs i (some (kOf p q c f s))) pl none 0) hd kd fo) (atM par (slP w h nb (gup cs i (some (kOf p q c f s))) pl none 0) hd kd pr) (lookS nb par kd hd li (slP w h nb (gup cs i (some (kOf p q c f s))) pl none 0) fo pr ar co D).1 (lookS nb par kd hd li (slP w h nb (gup cs i (some (kOf p q c f s))) pl none 0) fo pr ar co D).2.1 (lookS nb par kd hd li (slP w h nb (gup cs i (some (kOf p q c f s))) pl none 0) fo pr ar co D).2.2 F ∨ cfM (rqM w h nb (gup cs i (some (kOf p q c f s)))) = true ∧ v = some (.int (-3)) ∧ MInv T gi' gr m nb par kd hd li ct rk rks w h pl cs fo pr ar co D F))) := by
  have h6 : nb ≤ 6 := hI.2.2.1.1.2
  generalize hQ : (fun (T' : gT) (gi' : gI) (gr' : gR) (v : Option Value) => T' = T ∧ gr' = gr ∧ MOff gi gi' m ∧ (¬ cnC nb p q c f s ∧ v = some (.int (-1)) ∧ MInv T gi' gr m nb par kd hd li ct rk rks w h pl cs fo pr ar co D F ∨ cnC nb p q c f s ∧ (∀ j, j < 16 → cs j ≠ none) ∧ v = some (.int (-2)) ∧ MInv T gi' gr m nb par kd hd li ct rk rks w h pl cs fo pr ar co D F ∨ cnC nb p q c f s ∧ ∃ i, i < 16 ∧ cs i = none ∧ (∀ j, j < i → cs j ≠ none) ∧ (cfM (rqM w h nb (gup cs i (some (kOf p q c f s)))) = false ∧ v = some (.int (nI i)) ∧ MInv T gi' gr m nb par kd hd li ct rk rks w h (slP w h nb (gup cs i (some (kOf p q c f s))) pl none 0) (gup cs i (some (kOf p q c f s))) (atM par (slP w h nb (gup cs i (some (kOf p q c f s))) pl none 0) hd kd fo) (atM par (slP w h nb (gup cs i (some (kOf p q c f s))) pl none 0) hd kd pr) (lookS nb par kd hd li (slP w h nb (gup cs i (some (kOf p q c f s))) pl none 0) fo pr ar co D).1 (lookS nb par kd hd li (slP w h nb (gup cs i (some (kOf p q c f s))) pl none 0) fo pr ar co D).2.1 (lookS nb par kd hd li (slP w h nb (gup cs i (some (kOf p q c f s))) pl none 0) fo pr ar co D).2.2 F ∨ cfM (rqM w h nb (gup cs i (some (kOf p q c f s)))) = true ∧ v = some (.int (-3)) ∧ MInv T gi' gr m nb par kd hd li ct rk rks w h pl cs fo pr ar co D F))) = QQ
  have no1 : ¬ cnC nb p q c f s → G E mMO_constrain 32 [.ref m, .int p, .int q, .int c, .int f, .int s, .long 0] [] T gi gr 0 0 QQ := by
    intro hn
    subst hQ
    refine G_iconst (v := -1) dMO_constrain_32 (by decide) ?_
    exact G_ireturn dMO_constrain_33 rfl rfl (by decide) (by decide) ⟨rfl, rfl, MOff.rf, Or.inl ⟨hn, rfl, hI⟩⟩
  have no2 : ¬ cnC nb p q c f s → G E mMO_constrain 68 [.ref m, .int p, .int q, .int c, .int f, .int s, .long 0] [] T gi gr 0 0 QQ := by
    intro hn
    subst hQ
    refine G_iconst (v := -1) dMO_constrain_68 (by decide) ?_
    exact G_ireturn dMO_constrain_69 rfl rfl (by decide) (by decide) ⟨rfl, rfl, MOff.rf, Or.inl ⟨hn, rfl, hI⟩⟩
  refine Ct_of (ls := [.ref m, .int p, .int q, .int c, .int f, .int s, .long 0]) (by decide) (gcat_cons rfl (gcat_cons rfl (gcat_cons rfl (gcat_cons rfl (gcat_cons rfl (gcat_cons rfl gcat_nil)))))) (Nat.le_of_ble_eq_true rfl) rfl ?_
  refine G_aload_n dMO_constrain_0 rfl ?_
  refine G_iload_n dMO_constrain_1 rfl ?_
  refine G_callV (As := [.int p]) (rest := []) gMO_constrain_MO_isEdge lMO_159.1 lMO_159.2.1 lMO_159.2.2.1 lMO_159.2.2.2 dMO_constrain_2 rfl (Nat.le_of_ble_eq_true rfl) hI.1.1 ⟨by decide, by decide⟩ (cMO_isEdge hI) ?_
  refine same4 ?_
  refine G_st (st' := [.int (if isEd nb p then 1 else 0)]) rfl ?_
  refine G_if_eq dMO_constrain_5 (fun h1 => no1 (fun z => (if01.mp h1) z.1.1)) (fun h1 => ?_)
  have k1 : isEd nb p := by by_cases c : isEd nb p; exact c; exact absurd (if01.mpr c) h1
  refine G_aload_n dMO_constrain_8 rfl ?_
  refine G_iload_n dMO_constrain_9 rfl ?_
  refine G_callV (As := [.int q]) (rest := []) gMO_constrain_MO_isEdge lMO_159.1 lMO_159.2.1 lMO_159.2.2.1 lMO_159.2.2.2 dMO_constrain_10 rfl (Nat.le_of_ble_eq_true rfl) hI.1.1 ⟨by decide, by decide⟩ (cMO_isEdge hI) ?_
  refine same4 ?_
  refine G_st (st' := [.int (if isEd nb q then 1 else 0)]) rfl ?_
  refine G_if_eq dMO_constrain_13 (fun h2 => no1 (fun z => (if01.mp h2) z.1.2.1)) (fun h2 => ?_)
  have k2 : isEd nb q := by by_cases c : isEd nb q; exact c; exact absurd (if01.mpr c) h2
  refine G_iload_n dMO_constrain_16 rfl ?_
  refine G_iload_n dMO_constrain_17 rfl ?_
  refine G_icmp_eq dMO_constrain_18 (fun h3 => no1 (fun z => z.1.2.2.1 h3)) (fun h3 => ?_)
  refine G_iload_n dMO_constrain_21 rfl ?_
  refine G_callS (As := [.int p]) (rest := []) gMO_constrain_MO_origin lMO_146.1 lMO_146.2 dMO_constrain_22 rfl (Nat.le_of_ble_eq_true rfl) ⟨by decide, by decide⟩ cMO_origin ?_
  refine same4 ?_
  refine G_st (st' := [.int (ogM p)]) rfl ?_
  refine G_iload_n dMO_constrain_25 rfl ?_
  refine G_callS (As := [.int q]) (rest := [.int (ogM p)]) gMO_constrain_MO_origin lMO_146.1 lMO_146.2 dMO_constrain_26 rfl (Nat.le_of_ble_eq_true rfl) ⟨by decide, by decide⟩ cMO_origin ?_
  refine same4 ?_
  refine G_st (st' := [.int (ogM q), .int (ogM p)]) rfl ?_
  refine G_icmp_eq dMO_constrain_29 (fun h4 => ?_) (fun h4 => no1 (fun z => h4 (og_eq.mpr z.1.2.2.2)))
  refine G_iload_n dMO_constrain_34 rfl ?_
  refine G_bipush (v := -99) dMO_constrain_35 (by decide) ?_
  refine G_icmp_lt dMO_constrain_37 (fun h5 => no2 (fun z => z.2.1.1 h5)) (fun h5 => ?_)
  refine G_iload_n dMO_constrain_40 rfl ?_
  refine G_bipush (v := 99) dMO_constrain_41 (by decide) ?_
  refine G_icmp_gt dMO_constrain_43 (fun h6 => no2 (fun z => z.2.1.2 h6)) (fun h6' => ?_)
  refine G_iload dMO_constrain_46 rfl ?_
  refine G_if_lt dMO_constrain_48 (fun h7 => no2 (fun z => z.2.2.1 h7)) (fun h7 => ?_)
  refine G_iload dMO_constrain_51 rfl ?_
  refine G_iconst (v := 1) dMO_constrain_53 (by decide) ?_
  refine G_icmp_gt dMO_constrain_54 (fun h8 => no2 (fun z => z.2.2.2.1 h8)) (fun h8 => ?_)
  refine G_iload dMO_constrain_57 rfl ?_
  refine G_if_lt dMO_constrain_59 (fun h9 => no2 (fun z => z.2.2.2.2.1 h9)) (fun h9 => ?_)
  refine G_iload dMO_constrain_62 rfl ?_
  refine G_iconst (v := 3) dMO_constrain_64 (by decide) ?_
  refine G_icmp_le dMO_constrain_65 (fun h10 => ?_) (fun h10 => no2 (fun z => h10 z.2.2.2.2.2))
  have hcn : cnC nb p q c f s := ⟨⟨k1, k2, h3, og_eq.mp h4⟩, ⟨h5, h6'⟩, h7, h8, h9, h10⟩
  refine G_iconst (v := nI 0) dMO_constrain_70 (by decide +kernel) ?_
  refine G_istore (ls' := [.ref m, .int p, .int q, .int c, .int f, .int s, .int (nI 0)]) dMO_constrain_71 (by decide) rfl ?_
  have vcs := hI.2.2.2.2.2.2.2.2.2.2.1
  have loop : ∀ (n k : Nat), k + n = 16 → (∀ j, j < k → cs j ≠ none) → G E mMO_constrain 73 [.ref m, .int p, .int q, .int c, .int f, .int s, .int (nI k)] [] T gi gr 0 0 QQ := by
    intro n
    induction n with
    | zero =>
      intro k hk hall
      have : k = 16 := by omega
      subst this
      refine G_iload dMO_constrain_73 rfl ?_
      refine G_bipush (v := 16) dMO_constrain_75 (by decide) ?_
      refine G_icmp_ge dMO_constrain_77 (fun _ => ?_) (fun z => absurd (by decide +kernel) z)
      refine G_iload dMO_constrain_96 rfl ?_
      refine G_bipush (v := 16) dMO_constrain_98 (by decide) ?_
      refine G_icmp_ne dMO_constrain_100 (fun z => absurd (by decide +kernel) z) (fun _ => ?_)
      refine G_bipush (v := -2) dMO_constrain_103 (by decide) ?_
      subst hQ
      exact G_ireturn dMO_constrain_105 rfl rfl (by decide) (by decide) ⟨rfl, rfl, MOff.rf, Or.inr (Or.inl ⟨hcn, hall, rfl, hI⟩)⟩
    | succ n ih =>
      intro i hk hall
      have hi : i < 16 := by omega
      refine G_iload dMO_constrain_73 rfl ?_
      refine G_bipush (v := 16) dMO_constrain_75 (by decide) ?_
      refine G_icmp_ge dMO_constrain_77 (fun q => absurd q (nI_ge (b := 16) hi (by decide))) (fun _ => ?_)
      refine G_aload_n dMO_constrain_80 rfl ?_
      refine G_getRs fMO_39 dMO_constrain_81 hI.1.1 hI.1.r9 ?_
      refine G_iload dMO_constrain_84 rfl ?_
      refine G_zaldN dMO_constrain_86 hI.1.t9 hI.1.l9 (by decide) hi ?_
      refine G_if_eq dMO_constrain_87 (fun hu => ?_) (fun hu => ?_)
      · have hni := (mc_used vcs hi).mp hu
        refine G_iload dMO_constrain_96 rfl ?_
        refine G_bipush (v := 16) dMO_constrain_98 (by decide) ?_
        refine G_icmp_ne dMO_constrain_100 (fun _ => ?_) (fun z => absurd (show (16 : Int32) ≤ nI i by rw [z]; decide) (nI_ge (b := 16) hi (by decide)))
        obtain ⟨jp, hjp, ep⟩ := isEd_of h6 k1
        obtain ⟨jq, hjq, eq⟩ := isEd_of h6 k2
        obtain ⟨jf, hjf, ef⟩ := nI_of2 (n := 1) (M := 1) (by decide) h7 (by rw [Int32.le_iff_toInt_le]; rw [Int32.lt_iff_toInt_lt] at h8; omega)
        obtain ⟨js, hjs, es⟩ := nI_of2 (n := 3) (M := 3) (by decide) h9 h10
        have eK : kOf p q c f s = (jp, jq, c, jf, js) := by
          unfold kOf
          rw [ep, eq, ef, es, ixI_n (by omega), ixI_n (by omega), ixI_n (by omega), ixI_n (by omega)]
        refine G_aload_n dMO_constrain_106 rfl ?_
        refine G_getRs fMO_39 dMO_constrain_107 hI.1.1 hI.1.r9 ?_
        refine G_iload dMO_constrain_110 rfl ?_
        refine G_iconst (v := 1) dMO_constrain_112 (by decide) ?_
        refine G_zastN dMO_constrain_113 hI.1.t9 hI.1.l9 (by decide) hi (by decide) ?_
        refine G_aload_n dMO_constrain_114 rfl ?_
        refine G_getRs fMO_42 dMO_constrain_115 hI.1.1 hI.1.r10 ?_
        refine G_iload dMO_constrain_118 rfl ?_
        refine G_iload_n dMO_constrain_120 rfl ?_
        refine G_iastN dMO_constrain_121 hI.1.t10 hI.1.l10 (by decide) hi ?_
        refine G_aload_n dMO_constrain_122 rfl ?_
        refine G_getRs fMO_45 dMO_constrain_123 hI.1.1 hI.1.r11 ?_
        refine G_iload dMO_constrain_126 rfl ?_
        refine G_iload_n dMO_constrain_128 rfl ?_
        refine G_iastN dMO_constrain_129 hI.1.t11 hI.1.l11 (by decide) hi ?_
        refine G_aload_n dMO_constrain_130 rfl ?_
        refine G_getRs fMO_48 dMO_constrain_131 hI.1.1 hI.1.r12 ?_
        refine G_iload dMO_constrain_134 rfl ?_
        refine G_iload_n dMO_constrain_136 rfl ?_
        refine G_iastN dMO_constrain_137 hI.1.t12 hI.1.l12 (by decide) hi ?_
        refine G_aload_n dMO_constrain_138 rfl ?_
        refine G_getRs fMO_51 dMO_constrain_139 hI.1.1 hI.1.r13 ?_
        refine G_iload dMO_constrain_142 rfl ?_
        refine G_iload dMO_constrain_144 rfl ?_
        refine G_iastN dMO_constrain_146 hI.1.t13 hI.1.l13 (by decide) hi ?_
        refine G_aload_n dMO_constrain_147 rfl ?_
        refine G_getRs fMO_54 dMO_constrain_148 hI.1.1 hI.1.r14 ?_
        refine G_iload dMO_constrain_151 rfl ?_
        refine G_iload dMO_constrain_153 rfl ?_
        refine G_iastN dMO_constrain_155 hI.1.t14 hI.1.l14 (by decide) hi ?_
        have hO1 : MOff gi (gu (gu (gu (gu (gu (gu gi (m + 9) i 1) (m + 10) i p) (m + 11) i q) (m + 12) i c) (m + 13) i f) (m + 14) i s) m := MOff.gu (MOff.gu (MOff.gu (MOff.gu (MOff.gu (MOff.gu MOff.rf (by omega)) (by omega)) (by omega)) (by omega)) (by omega)) (by omega)
        have oA : ∀ a, ¬ (m + 9 ≤ a ∧ a ≤ m + 14) → (gu (gu (gu (gu (gu (gu gi (m + 9) i 1) (m + 10) i p) (m + 11) i q) (m + 12) i c) (m + 13) i f) (m + 14) i s) a = gi a := fun a ha => by rw [gu_off (by omega), gu_off (by omega), gu_off (by omega), gu_off (by omega), gu_off (by omega), gu_off (by omega)]
        have o9 : ∀ k, (gu (gu (gu (gu (gu (gu gi (m + 9) i 1) (m + 10) i p) (m + 11) i q) (m + 12) i c) (m + 13) i f) (m + 14) i s) (m + 9) k = if k = i then 1 else gi (m + 9) k := fun k => by rw [gu_off (show m + 9 ≠ m + 14 by omega), gu_off (show m + 9 ≠ m + 13 by omega), gu_off (show m + 9 ≠ m + 12 by omega), gu_off (show m + 9 ≠ m + 11 by omega), gu_off (show m + 9 ≠ m + 10 by omega), gu_row]
        have o10 : ∀ k, (gu (gu (gu (gu (gu (gu gi (m + 9) i 1) (m + 10) i p) (m + 11) i q) (m + 12) i c) (m + 13) i f) (m + 14) i s) (m + 10) k = if k = i then p else gi (m + 10) k := fun k => by rw [gu_off (show m + 10 ≠ m + 14 by omega), gu_off (show m + 10 ≠ m + 13 by omega), gu_off (show m + 10 ≠ m + 12 by omega), gu_off (show m + 10 ≠ m + 11 by omega), gu_row, gu_off (show m + 10 ≠ m + 9 by omega)]
        have o11 : ∀ k, (gu (gu (gu (gu (gu (gu gi (m + 9) i 1) (m + 10) i p) (m + 11) i q) (m + 12) i c) (m + 13) i f) (m + 14) i s) (m + 11) k = if k = i then q else gi (m + 11) k := fun k => by rw [gu_off (show m + 11 ≠ m + 14 by omega), gu_off (show m + 11 ≠ m + 13 by omega), gu_off (show m + 11 ≠ m + 12 by omega), gu_row, gu_off (show m + 11 ≠ m + 10 by omega), gu_off (show m + 11 ≠ m + 9 by omega)]
        have o12 : ∀ k, (gu (gu (gu (gu (gu (gu gi (m + 9) i 1) (m + 10) i p) (m + 11) i q) (m + 12) i c) (m + 13) i f) (m + 14) i s) (m + 12) k = if k = i then c else gi (m + 12) k := fun k => by rw [gu_off (show m + 12 ≠ m + 14 by omega), gu_off (show m + 12 ≠ m + 13 by omega), gu_row, gu_off (show m + 12 ≠ m + 11 by omega), gu_off (show m + 12 ≠ m + 10 by omega), gu_off (show m + 12 ≠ m + 9 by omega)]
        have o13 : ∀ k, (gu (gu (gu (gu (gu (gu gi (m + 9) i 1) (m + 10) i p) (m + 11) i q) (m + 12) i c) (m + 13) i f) (m + 14) i s) (m + 13) k = if k = i then f else gi (m + 13) k := fun k => by rw [gu_off (show m + 13 ≠ m + 14 by omega), gu_row, gu_off (show m + 13 ≠ m + 12 by omega), gu_off (show m + 13 ≠ m + 11 by omega), gu_off (show m + 13 ≠ m + 10 by omega), gu_off (show m + 13 ≠ m + 9 by omega)]
        have o14 : ∀ k, (gu (gu (gu (gu (gu (gu gi (m + 9) i 1) (m + 10) i p) (m + 11) i q) (m + 12) i c) (m + 13) i f) (m + 14) i s) (m + 14) k = if k = i then s else gi (m + 14) k := fun k => by rw [gu_row, gu_off (show m + 14 ≠ m + 13 by omega), gu_off (show m + 14 ≠ m + 12 by omega), gu_off (show m + 14 ≠ m + 11 by omega), gu_off (show m + 14 ≠ m + 10 by omega), gu_off (show m + 14 ≠ m + 9 by omega)]
        generalize (gu (gu (gu (gu (gu (gu gi (m + 9) i 1) (m + 10) i p) (m + 11) i q) (m + 12) i c) (m + 13) i f) (m + 14) i s) = g1 at hO1 oA o9 o10 o11 o12 o13 o14 ⊢
        have hI1 : MInv T g1 gr m nb par kd hd li ct rk rks w h pl (gup cs i (some (kOf p q c f s))) fo pr ar co D F := hI.sc oA (fun k hk => by
          by_cases e : k = i
          · subst e
            rw [gup_same]
            refine ⟨fun z => (by cases z), fun κ hκ => ?_⟩
            cases hκ
            rw [o9, o10, o11, o12, o13, o14, if_pos rfl, if_pos rfl, if_pos rfl, if_pos rfl, if_pos rfl, if_pos rfl, eK]
            exact ⟨rfl, ep, eq, rfl, ef, es, by show jp < 24; omega, by show jq < 24; omega, by show jf < 2; omega, by show js < 4; omega⟩
          · rw [gup_ne e, o9, o10, o11, o12, o13, o14, if_neg e, if_neg e, if_neg e, if_neg e, if_neg e, if_neg e]
            exact vcs k hk)
        refine G_aload_n dMO_constrain_156 rfl ?_
        refine G_iconst (v := noI none) dMO_constrain_157 (by decide) ?_
        refine G_iconst (v := 0) dMO_constrain_158 (by decide) ?_
        refine G_callV (As := [.int (noI none), .int 0]) (rest := []) gMO_constrain_MO_solve lMO_162.1 lMO_162.2.1 lMO_162.2.2.1 lMO_162.2.2.2 dMO_constrain_159 rfl (Nat.le_of_ble_eq_true rfl) hI.1.1 ⟨by decide, by decide⟩ (cMO_solve hI1 (fun e he => by cases he)) ?_
        rintro T1 g2 r1 v1 ⟨e1, e2, hO2, hh⟩
        cases e1.symm
        cases e2.symm
        rcases hh with ⟨hcf, rfl, hI2⟩ | ⟨hcf, rfl, hI2⟩
        · refine G_st (st' := [.int 0]) rfl ?_
          refine G_if_ne dMO_constrain_162 (fun z => absurd rfl z) (fun _ => ?_)
          refine G_aload_n dMO_constrain_165 rfl ?_
          refine G_getRs fMO_39 dMO_constrain_166 hI.1.1 hI.1.r9 ?_
          refine G_iload dMO_constrain_169 rfl ?_
          refine G_iconst (v := 0) dMO_constrain_171 (by decide) ?_
          refine G_zastN dMO_constrain_172 hI.1.t9 hI.1.l9 (by decide) hi (by decide) ?_
          have hI3 := hI2.sc (gi' := gu g2 (m + 9) i 0) (cs' := cs) (fun a ha => gu_off (by omega)) (fun k hk => by
            have vk := hI2.2.2.2.2.2.2.2.2.2.2.1 k hk
            rw [gu_row, gu_off (by omega), gu_off (by omega), gu_off (by omega), gu_off (by omega), gu_off (by omega)]
            by_cases e : k = i
            · subst e
              rw [if_pos rfl]
              exact ⟨fun _ => rfl, fun κ hκ => by rw [hni] at hκ; cases hκ⟩
            · rw [if_neg e]
              rw [gup_ne e] at vk
              exact vk)
          refine G_bipush (v := -3) dMO_constrain_173 (by decide) ?_
          subst hQ
          exact G_ireturn dMO_constrain_175 rfl rfl (by decide) (by decide) ⟨rfl, rfl, MOff.gu (hO1.tr hO2) (by omega), Or.inr (Or.inr ⟨hcn, i, hi, hni, hall, Or.inr ⟨hcf, rfl, hI3⟩⟩)⟩
        · refine G_st (st' := [.int 1]) rfl ?_
          refine G_if_ne dMO_constrain_162 (fun _ => ?_) (fun z => absurd z (by decide))
          refine G_aload_n dMO_constrain_176 rfl ?_
          refine G_callV (As := []) (rest := []) gMO_constrain_MO_look lMO_93.1 lMO_93.2.1 lMO_93.2.2.1 lMO_93.2.2.2 dMO_constrain_177 rfl (Nat.le_of_ble_eq_true rfl) hI.1.1 ⟨by decide, by decide⟩ (cMO_look hI2) ?_
          rintro T9 g9 r9 _ ⟨e8, e9, rfl, hO9, hI9⟩
          cases e8.symm
          cases e9.symm
          refine G_st (st' := []) rfl ?_
          refine G_iload dMO_constrain_180 rfl ?_
          subst hQ
          exact G_ireturn dMO_constrain_182 rfl rfl (by decide) (by decide) ⟨rfl, rfl, (hO1.tr hO2).tr hO9, Or.inr (Or.inr ⟨hcn, i, hi, hni, hall, Or.inl ⟨hcf, rfl, hI9⟩⟩)⟩
      · refine G_iinc (ls' := [.ref m, .int p, .int q, .int c, .int f, .int s, .int (nI (i + 1))]) dMO_constrain_90 rfl (nI_inc i) (by decide) rfl ?_
        refine G_goto dMO_constrain_93 ?_
        refine ih (i + 1) (by omega) (fun j hj => ?_)
        by_cases e : j = i
        · subst e; exact fun z => hu ((mc_used vcs hi).mpr z)
        · exact hall j (by omega)
  exact loop 16 0 rfl (fun j hj => absurd hj (Nat.not_lt_zero _))
theorem M_remove {E : gE} {T : gT} {gi : gI} {gr : gR} {m : Nat} {nb : Nat} {par : Nat → Option Nat} {kd : Nat → Int32} {hd : Nat → Bool} {li : Nat → Bool} {ct : Nat → Int32} {rk : Nat → Nat} {rks : Nat} {w : Int32} {h : Int32} {pl : Nat → Int32} {cs : Nat → Option K5} {fo : Option Nat} {pr : Option Nat} {ar : Nat → Nat → Bool} {co : Nat → Int32} {D : Nat → Bool} {F : Nat → Int32} {x : Int32} (hI : MInv T gi gr m nb par kd hd li ct rk rks w h pl cs fo pr ar co D F) : Ct E mMO_remove [.ref m, .int x] T gi gr (fun T' gi' gr' v => T' = T ∧ gr' = gr ∧ MOff gi gi' m ∧ (¬ rmC cs x ∧ v = some (.int 0) ∧ MInv T gi' gr m nb par kd hd li ct rk rks w h pl cs fo pr ar co D F ∨ rmC cs x ∧ (cfM (rqM w h nb (gup cs (ixI x) none)) = false ∧ v = some (.int 1) ∧ MInv T gi' gr m nb par kd hd li ct rk rks w h (slP w h nb (gup cs (ixI x) none) pl none 0) (gup cs (ixI x) none) (atM par (slP w h nb (gup cs (ixI x) none) pl none 0) hd kd fo) (atM par (slP w h nb (gup cs (ixI x) none) pl none 0) hd kd pr) (lookS nb par kd hd li (slP w h nb (gup cs (ixI x) none) pl none 0) fo pr ar co D).1 (lookS nb par kd hd li (slP w h nb (gup cs (ixI x) none) pl none 0) fo pr ar co D).2.1 (lookS nb par kd hd li (slP w h nb (gup cs (ixI x) none) pl none 0) fo pr ar co D).2.2 F ∨ cfM (rqM w h nb (gup cs (ixI x) none)) = true ∧ v = some (.int 0) ∧ MInv T gi' gr m nb par kd hd li ct rk rks w h pl (gup cs (ixI x) none) (atM par pl hd kd fo) (atM par pl hd kd pr) (lookS nb par kd hd li pl fo pr ar co D).1 (lookS nb par kd hd li pl fo pr ar co D).2.1 (lookS nb par kd hd li pl fo pr ar co D).2.2 F))) := by
  generalize hQ : (fun (T' : gT) (gi' : gI) (gr' : gR) (v : Option Value) => T' = T ∧ gr' = gr ∧ MOff gi gi' m ∧ (¬ rmC cs x ∧ v = some (.int 0) ∧ MInv T gi' gr m nb par kd hd li ct rk rks w h pl cs fo pr ar co D F ∨ rmC cs x ∧ (cfM (rqM w h nb (gup cs (ixI x) none)) = false ∧ v = some (.int 1) ∧ MInv T gi' gr m nb par kd hd li ct rk rks w h (slP w h nb (gup cs (ixI x) none) pl none 0) (gup cs (ixI x) none) (atM par (slP w h nb (gup cs (ixI x) none) pl none 0) hd kd fo) (atM par (slP w h nb (gup cs (ixI x) none) pl none 0) hd kd pr) (lookS nb par kd hd li (slP w h nb (gup cs (ixI x) none) pl none 0) fo pr ar co D).1 (lookS nb par kd hd li (slP w h nb (gup cs (ixI x) none) pl none 0) fo pr ar co D).2.1 (lookS nb par kd hd li (slP w h nb (gup cs (ixI x) none) pl none 0) fo pr ar co D).2.2 F ∨ cfM (rqM w h nb (gup cs (ixI x) none)) = true ∧ v = some (.int 0) ∧ MInv T gi' gr m nb par kd hd li ct rk rks w h pl (gup cs (ixI x) none) (atM par pl hd kd fo) (atM par pl hd kd pr) (lookS nb par kd hd li pl fo pr ar co D).1 (lookS nb par kd hd li pl fo pr ar co D).2.1 (lookS nb par kd hd li pl fo pr ar co D).2.2 F))) = QQ
  have vcs := hI.2.2.2.2.2.2.2.2.2.2.1
  refine Ct_of (ls := [.ref m, .int x, .long 0]) (by decide) (gcat_cons rfl (gcat_cons rfl gcat_nil)) (Nat.le_of_ble_eq_true rfl) rfl ?_
  refine G_aload_n dMO_remove_0 rfl ?_
  refine G_iload_n dMO_remove_1 rfl ?_
  refine G_callV (As := [.int x]) (rest := []) gMO_remove_MO_isConstraint lMO_166.1 lMO_166.2.1 lMO_166.2.2.1 lMO_166.2.2.2 dMO_remove_2 rfl (Nat.le_of_ble_eq_true rfl) hI.1.1 ⟨by decide, by decide⟩ (cMO_isConstraint hI) ?_
  refine same4 ?_
  refine G_st (st' := [.int (if icM cs x then 1 else 0)]) rfl ?_
  refine G_if_ne dMO_remove_5 (fun h1 => ?_) (fun h1 => ?_)
  · have hrm : rmC cs x := by by_cases c : rmC cs x; exact c; exact absurd (if01.mpr c) h1
    obtain ⟨j, hj, rfl, -⟩ := pk_mu (L := 16) hrm.1.1 hrm.1.2 (by decide)
    refine G_aload_n dMO_remove_10 rfl ?_
    refine G_getRs fMO_39 dMO_remove_11 hI.1.1 hI.1.r9 ?_
    refine G_iload_n dMO_remove_14 rfl ?_
    refine G_iconst (v := 0) dMO_remove_15 (by decide) ?_
    refine G_zastN dMO_remove_16 hI.1.t9 hI.1.l9 (by decide) hj (by decide) ?_
    have hI1 := hI.sc (gi' := gu gi (m + 9) j 0) (cs' := gup cs j none) (fun a ha => gu_off (by omega)) (fun k hk => by
      have vk := vcs k hk
      rw [gu_row, gu_off (by omega), gu_off (by omega), gu_off (by omega), gu_off (by omega), gu_off (by omega)]
      by_cases e : k = j
      · subst e
        rw [if_pos rfl, gup_same]
        exact ⟨fun _ => rfl, fun κ hκ => by cases hκ⟩
      · rw [if_neg e, gup_ne e]
        exact vk)
    have hO1 : MOff gi (gu gi (m + 9) j 0) m := MOff.rf.gu (by omega)
    generalize gu gi (m + 9) j 0 = g1 at hI1 hO1 ⊢
    refine G_aload_n dMO_remove_17 rfl ?_
    refine G_iconst (v := noI none) dMO_remove_18 (by decide) ?_
    refine G_iconst (v := 0) dMO_remove_19 (by decide) ?_
    refine G_callV (As := [.int (noI none), .int 0]) (rest := []) gMO_remove_MO_solve lMO_162.1 lMO_162.2.1 lMO_162.2.2.1 lMO_162.2.2.2 dMO_remove_20 rfl (Nat.le_of_ble_eq_true rfl) hI.1.1 ⟨by decide, by decide⟩ (cMO_solve hI1 (fun e he => by cases he)) ?_
    rintro T1 g2 r1 v1 ⟨e1, e2, hO2, hh⟩
    cases e1.symm
    cases e2.symm
    rcases hh with ⟨hcf, rfl, hI2⟩ | ⟨hcf, rfl, hI2⟩
    · refine G_st (st' := [.int 0]) rfl ?_
      refine G_istore_n (ls' := [.ref m, .int (nI j), .int 0]) dMO_remove_23 (by decide) rfl ?_
      refine G_aload_n dMO_remove_24 rfl ?_
      refine G_callV (As := []) (rest := []) gMO_remove_MO_look lMO_93.1 lMO_93.2.1 lMO_93.2.2.1 lMO_93.2.2.2 dMO_remove_25 rfl (Nat.le_of_ble_eq_true rfl) hI.1.1 ⟨by decide, by decide⟩ (cMO_look hI2) ?_
      rintro T9 g9 r9 _ ⟨e8, e9, rfl, hO9, hI9⟩
      cases e8.symm
      cases e9.symm
      refine G_st (st' := []) rfl ?_
      refine G_iload_n dMO_remove_28 rfl ?_
      subst hQ
      exact G_ireturn dMO_remove_29 rfl (nr_z (by decide)) (by decide) (by decide) ⟨rfl, rfl, (hO1.tr hO2).tr hO9, Or.inr ⟨hrm, Or.inr (by rw [ixI_n (by omega)]; exact ⟨hcf, rfl, hI9⟩)⟩⟩
    · refine G_st (st' := [.int 1]) rfl ?_
      refine G_istore_n (ls' := [.ref m, .int (nI j), .int 1]) dMO_remove_23 (by decide) rfl ?_
      refine G_aload_n dMO_remove_24 rfl ?_
      refine G_callV (As := []) (rest := []) gMO_remove_MO_look lMO_93.1 lMO_93.2.1 lMO_93.2.2.1 lMO_93.2.2.2 dMO_remove_25 rfl (Nat.le_of_ble_eq_true rfl) hI.1.1 ⟨by decide, by decide⟩ (cMO_look hI2) ?_
      rintro T9 g9 r9 _ ⟨e8, e9, rfl, hO9, hI9⟩
      cases e8.symm
      cases e9.symm
      refine G_st (st' := []) rfl ?_
      refine G_iload_n dMO_remove_28 rfl ?_
      subst hQ
      exact G_ireturn dMO_remove_29 rfl (nr_z (by decide)) (by decide) (by decide) ⟨rfl, rfl, (hO1.tr hO2).tr hO9, Or.inr ⟨hrm, Or.inl (by rw [ixI_n (by omega)]; exact ⟨hcf, rfl, hI9⟩)⟩⟩
  · refine G_iconst (v := 0) dMO_remove_8 (by decide) ?_
    subst hQ
    exact G_ireturn dMO_remove_9 rfl (nr_z (by decide)) (by decide) (by decide) ⟨rfl, rfl, MOff.rf, Or.inl ⟨if01.mp h1, rfl, hI⟩⟩
theorem M_suggest {E : gE} {T : gT} {gi : gI} {gr : gR} {m : Nat} {nb : Nat} {par : Nat → Option Nat} {kd : Nat → Int32} {hd : Nat → Bool} {li : Nat → Bool} {ct : Nat → Int32} {rk : Nat → Nat} {rks : Nat} {w : Int32} {h : Int32} {pl : Nat → Int32} {cs : Nat → Option K5} {fo : Option Nat} {pr : Option Nat} {ar : Nat → Nat → Bool} {co : Nat → Int32} {D : Nat → Bool} {F : Nat → Int32} {e x : Int32} (hI : MInv T gi gr m nb par kd hd li ct rk rks w h pl cs fo pr ar co D F) : Ct E mMO_suggest [.ref m, .int e, .int x] T gi gr (fun T' gi' gr' v => T' = T ∧ gr' = gr ∧ MOff gi gi' m ∧ (¬ sgC nb e x ∧ v = some (.int 0) ∧ MInv T gi' gr m nb par kd hd li ct rk rks w h pl cs fo pr ar co D F ∨ sgC nb e x ∧ (cfM (rqM w h nb cs) = false ∧ v = some (.int 1) ∧ MInv T gi' gr m nb par kd hd li ct rk rks w h (slP w h nb cs pl (some (ixI e)) x) cs (atM par (slP w h nb cs pl (some (ixI e)) x) hd kd fo) (atM par (slP w h nb cs pl (some (ixI e)) x) hd kd pr) (lookS nb par kd hd li (slP w h nb cs pl (some (ixI e)) x) fo pr ar co D).1 (lookS nb par kd hd li (slP w h nb cs pl (some (ixI e)) x) fo pr ar co D).2.1 (lookS nb par kd hd li (slP w h nb cs pl (some (ixI e)) x) fo pr ar co D).2.2 F ∨ cfM (rqM w h nb cs) = true ∧ v = some (.int 0) ∧ MInv T gi' gr m nb par kd hd li ct rk rks w h pl cs (atM par pl hd kd fo) (atM par pl hd kd pr) (lookS nb par kd hd li pl fo pr ar co D).1 (lookS nb par kd hd li pl fo pr ar co D).2.1 (lookS nb par kd hd li pl fo pr ar co D).2.2 F))) := by
  have h6 : nb ≤ 6 := hI.2.2.1.1.2
  generalize hQ : (fun (T' : gT) (gi' : gI) (gr' : gR) (v : Option Value) => T' = T ∧ gr' = gr ∧ MOff gi gi' m ∧ (¬ sgC nb e x ∧ v = some (.int 0) ∧ MInv T gi' gr m nb par kd hd li ct rk rks w h pl cs fo pr ar co D F ∨ sgC nb e x ∧ (cfM (rqM w h nb cs) = false ∧ v = some (.int 1) ∧ MInv T gi' gr m nb par kd hd li ct rk rks w h (slP w h nb cs pl (some (ixI e)) x) cs (atM par (slP w h nb cs pl (some (ixI e)) x) hd kd fo) (atM par (slP w h nb cs pl (some (ixI e)) x) hd kd pr) (lookS nb par kd hd li (slP w h nb cs pl (some (ixI e)) x) fo pr ar co D).1 (lookS nb par kd hd li (slP w h nb cs pl (some (ixI e)) x) fo pr ar co D).2.1 (lookS nb par kd hd li (slP w h nb cs pl (some (ixI e)) x) fo pr ar co D).2.2 F ∨ cfM (rqM w h nb cs) = true ∧ v = some (.int 0) ∧ MInv T gi' gr m nb par kd hd li ct rk rks w h pl cs (atM par pl hd kd fo) (atM par pl hd kd pr) (lookS nb par kd hd li pl fo pr ar co D).1 (lookS nb par kd hd li pl fo pr ar co D).2.1 (lookS nb par kd hd li pl fo pr ar co D).2.2 F))) = QQ
  have no : ¬ sgC nb e x → G E mMO_suggest 20 [.ref m, .int e, .int x, .long 0] [] T gi gr 0 0 QQ := by
    intro hn
    subst hQ
    refine G_iconst (v := 0) dMO_suggest_20 (by decide) ?_
    exact G_ireturn dMO_suggest_21 rfl (nr_z (by decide)) (by decide) (by decide) ⟨rfl, rfl, MOff.rf, Or.inl ⟨hn, rfl, hI⟩⟩
  refine Ct_of (ls := [.ref m, .int e, .int x, .long 0]) (by decide) (gcat_cons rfl (gcat_cons rfl (gcat_cons rfl gcat_nil))) (Nat.le_of_ble_eq_true rfl) rfl ?_
  refine G_aload_n dMO_suggest_0 rfl ?_
  refine G_iload_n dMO_suggest_1 rfl ?_
  refine G_callV (As := [.int e]) (rest := []) gMO_suggest_MO_isEdge lMO_159.1 lMO_159.2.1 lMO_159.2.2.1 lMO_159.2.2.2 dMO_suggest_2 rfl (Nat.le_of_ble_eq_true rfl) hI.1.1 ⟨by decide, by decide⟩ (cMO_isEdge hI) ?_
  refine same4 ?_
  refine G_st (st' := [.int (if isEd nb e then 1 else 0)]) rfl ?_
  refine G_if_eq dMO_suggest_5 (fun h1 => no (fun z => (if01.mp h1) z.1)) (fun h1 => ?_)
  have k1 : isEd nb e := by by_cases c : isEd nb e; exact c; exact absurd (if01.mpr c) h1
  refine G_iload_n dMO_suggest_8 rfl ?_
  refine G_bipush (v := -99) dMO_suggest_9 (by decide) ?_
  refine G_icmp_lt dMO_suggest_11 (fun h2 => no (fun z => z.2.1 h2)) (fun h2 => ?_)
  refine G_iload_n dMO_suggest_14 rfl ?_
  refine G_bipush (v := 99) dMO_suggest_15 (by decide) ?_
  refine G_icmp_le dMO_suggest_17 (fun h3 => ?_) (fun h3 => no (fun z => z.2.2 (by rw [Int32.le_iff_toInt_le] at h3; rw [Int32.lt_iff_toInt_lt]; omega)))
  have hsg : sgC nb e x := ⟨k1, h2, fun z => by rw [Int32.le_iff_toInt_le] at h3; rw [Int32.lt_iff_toInt_lt] at z; omega⟩
  obtain ⟨j, hj, rfl⟩ := isEd_of h6 k1
  refine G_aload_n dMO_suggest_22 rfl ?_
  refine G_iload_n dMO_suggest_23 rfl ?_
  refine G_iload_n dMO_suggest_24 rfl ?_
  refine G_callV (As := [.int (noI (some j)), .int x]) (rest := []) gMO_suggest_MO_solve lMO_162.1 lMO_162.2.1 lMO_162.2.2.1 lMO_162.2.2.2 dMO_suggest_25 rfl (Nat.le_of_ble_eq_true rfl) hI.1.1 ⟨by decide, by decide⟩ (cMO_solve hI (fun e he => by cases he; omega)) ?_
  rintro T1 g2 r1 v1 ⟨e1, e2, hO2, hh⟩
  cases e1.symm
  cases e2.symm
  rcases hh with ⟨hcf, rfl, hI2⟩ | ⟨hcf, rfl, hI2⟩
  · refine G_st (st' := [.int 0]) rfl ?_
    refine G_istore_n (ls' := [.ref m, .int (nI j), .int x, .int 0]) dMO_suggest_28 (by decide) rfl ?_
    refine G_aload_n dMO_suggest_29 rfl ?_
    refine G_callV (As := []) (rest := []) gMO_suggest_MO_look lMO_93.1 lMO_93.2.1 lMO_93.2.2.1 lMO_93.2.2.2 dMO_suggest_30 rfl (Nat.le_of_ble_eq_true rfl) hI.1.1 ⟨by decide, by decide⟩ (cMO_look hI2) ?_
    rintro T9 g9 r9 _ ⟨e8, e9, rfl, hO9, hI9⟩
    cases e8.symm
    cases e9.symm
    refine G_st (st' := []) rfl ?_
    refine G_iload_n dMO_suggest_33 rfl ?_
    subst hQ
    exact G_ireturn dMO_suggest_34 rfl (nr_z (by decide)) (by decide) (by decide) ⟨rfl, rfl, hO2.tr hO9, Or.inr ⟨hsg, Or.inr ⟨hcf, rfl, hI9⟩⟩⟩
  · refine G_st (st' := [.int 1]) rfl ?_
    refine G_istore_n (ls' := [.ref m, .int (nI j), .int x, .int 1]) dMO_suggest_28 (by decide) rfl ?_
    refine G_aload_n dMO_suggest_29 rfl ?_
    refine G_callV (As := []) (rest := []) gMO_suggest_MO_look lMO_93.1 lMO_93.2.1 lMO_93.2.2.1 lMO_93.2.2.2 dMO_suggest_30 rfl (Nat.le_of_ble_eq_true rfl) hI.1.1 ⟨by decide, by decide⟩ (cMO_look hI2) ?_
    rintro T9 g9 r9 _ ⟨e8, e9, rfl, hO9, hI9⟩
    cases e8.symm
    cases e9.symm
    refine G_st (st' := []) rfl ?_
    refine G_iload_n dMO_suggest_33 rfl ?_
    subst hQ
    exact G_ireturn dMO_suggest_34 rfl (nr_z (by decide)) (by decide) (by decide) ⟨rfl, rfl, hO2.tr hO9, Or.inr ⟨hsg, Or.inl (by rw [ixI_n (by omega)]; exact ⟨hcf, rfl, hI9⟩)⟩⟩
theorem M_resize {E : gE} {T : gT} {gi : gI} {gr : gR} {m : Nat} {nb : Nat} {par : Nat → Option Nat} {kd : Nat → Int32} {hd : Nat → Bool} {li : Nat → Bool} {ct : Nat → Int32} {rk : Nat → Nat} {rks : Nat} {w : Int32} {h : Int32} {pl : Nat → Int32} {cs : Nat → Option K5} {fo : Option Nat} {pr : Option Nat} {ar : Nat → Nat → Bool} {co : Nat → Int32} {D : Nat → Bool} {F : Nat → Int32} {x y : Int32} (hI : MInv T gi gr m nb par kd hd li ct rk rks w h pl cs fo pr ar co D F) : Ct E mMO_resize [.ref m, .int x, .int y] T gi gr (fun T' gi' gr' v => T' = T ∧ gr' = gr ∧ MOff gi gi' m ∧ (¬ rzC x y ∧ v = some (.int 0) ∧ MInv T gi' gr m nb par kd hd li ct rk rks w h pl cs fo pr ar co D F ∨ rzC x y ∧ (cfM (rqM x y nb cs) = false ∧ v = some (.int 1) ∧ MInv T gi' gr m nb par kd hd li ct rk rks x y (slP x y nb cs pl none 0) cs (atM par (slP x y nb cs pl none 0) hd kd fo) (atM par (slP x y nb cs pl none 0) hd kd pr) (lookS nb par kd hd li (slP x y nb cs pl none 0) fo pr ar co D).1 (lookS nb par kd hd li (slP x y nb cs pl none 0) fo pr ar co D).2.1 (lookS nb par kd hd li (slP x y nb cs pl none 0) fo pr ar co D).2.2 F ∨ cfM (rqM x y nb cs) = true ∧ v = some (.int 0) ∧ MInv T gi' gr m nb par kd hd li ct rk rks w h pl cs (atM par pl hd kd fo) (atM par pl hd kd pr) (lookS nb par kd hd li pl fo pr ar co D).1 (lookS nb par kd hd li pl fo pr ar co D).2.1 (lookS nb par kd hd li pl fo pr ar co D).2.2 F))) := by
  have v0 := hI.2.1
  generalize hQ : (fun (T' : gT) (gi' : gI) (gr' : gR) (v : Option Value) => T' = T ∧ gr' = gr ∧ MOff gi gi' m ∧ (¬ rzC x y ∧ v = some (.int 0) ∧ MInv T gi' gr m nb par kd hd li ct rk rks w h pl cs fo pr ar co D F ∨ rzC x y ∧ (cfM (rqM x y nb cs) = false ∧ v = some (.int 1) ∧ MInv T gi' gr m nb par kd hd li ct rk rks x y (slP x y nb cs pl none 0) cs (atM par (slP x y nb cs pl none 0) hd kd fo) (atM par (slP x y nb cs pl none 0) hd kd pr) (lookS nb par kd hd li (slP x y nb cs pl none 0) fo pr ar co D).1 (lookS nb par kd hd li (slP x y nb cs pl none 0) fo pr ar co D).2.1 (lookS nb par kd hd li (slP x y nb cs pl none 0) fo pr ar co D).2.2 F ∨ cfM (rqM x y nb cs) = true ∧ v = some (.int 0) ∧ MInv T gi' gr m nb par kd hd li ct rk rks w h pl cs (atM par pl hd kd fo) (atM par pl hd kd pr) (lookS nb par kd hd li pl fo pr ar co D).1 (lookS nb par kd hd li pl fo pr ar co D).2.1 (lookS nb par kd hd li pl fo pr ar co D).2.2 F))) = QQ
  have no : ¬ rzC x y → G E mMO_resize 22 [.ref m, .int x, .int y, .long 0, .long 0, .long 0] [] T gi gr 0 0 QQ := by
    intro hn
    subst hQ
    refine G_iconst (v := 0) dMO_resize_22 (by decide) ?_
    exact G_ireturn dMO_resize_23 rfl (nr_z (by decide)) (by decide) (by decide) ⟨rfl, rfl, MOff.rf, Or.inl ⟨hn, rfl, hI⟩⟩
  refine Ct_of (ls := [.ref m, .int x, .int y, .long 0, .long 0, .long 0]) (by decide) (gcat_cons rfl (gcat_cons rfl (gcat_cons rfl gcat_nil))) (Nat.le_of_ble_eq_true rfl) rfl ?_
  refine G_iload_n dMO_resize_0 rfl ?_
  refine G_iconst (v := 1) dMO_resize_1 (by decide) ?_
  refine G_icmp_lt dMO_resize_2 (fun h1 => no (fun z => z.1 h1)) (fun h1 => ?_)
  refine G_iload_n dMO_resize_5 rfl ?_
  refine G_bipush (v := 24) dMO_resize_6 (by decide) ?_
  refine G_icmp_gt dMO_resize_8 (fun h2 => no (fun z => z.2.1 h2)) (fun h2 => ?_)
  refine G_iload_n dMO_resize_11 rfl ?_
  refine G_iconst (v := 1) dMO_resize_12 (by decide) ?_
  refine G_icmp_lt dMO_resize_13 (fun h3 => no (fun z => z.2.2.1 h3)) (fun h3 => ?_)
  refine G_iload_n dMO_resize_16 rfl ?_
  refine G_bipush (v := 16) dMO_resize_17 (by decide) ?_
  refine G_icmp_le dMO_resize_19 (fun h4 => ?_) (fun h4 => no (fun z => z.2.2.2 (by rw [Int32.le_iff_toInt_le] at h4; rw [Int32.lt_iff_toInt_lt]; omega)))
  have hrz : rzC x y := ⟨h1, h2, h3, fun z => by rw [Int32.le_iff_toInt_le] at h4; rw [Int32.lt_iff_toInt_lt] at z; omega⟩
  refine G_aload_n dMO_resize_24 rfl ?_
  refine G_getI fMO_87 dMO_resize_25 hI.1.1 ?_
  rw [v0.2.2.1]
  refine G_istore_n (ls' := [.ref m, .int x, .int y, .int w, .long 0, .long 0]) dMO_resize_28 (by decide) rfl ?_
  refine G_aload_n dMO_resize_29 rfl ?_
  refine G_getI fMO_90 dMO_resize_30 hI.1.1 ?_
  rw [v0.2.2.2.1]
  refine G_istore (ls' := [.ref m, .int x, .int y, .int w, .int h, .long 0]) dMO_resize_33 (by decide) rfl ?_
  refine G_aload_n dMO_resize_35 rfl ?_
  refine G_iload_n dMO_resize_36 rfl ?_
  refine G_putI wMO_87 (Or.inl rfl) dMO_resize_37 hI.1.1 rfl rfl ?_
  refine G_aload_n dMO_resize_40 rfl ?_
  refine G_iload_n dMO_resize_41 rfl ?_
  refine G_putI wMO_90 (Or.inl rfl) dMO_resize_42 hI.1.1 rfl rfl ?_
  have hI1 := hI.s0 (gi' := gu (gu gi m 8 x) m 9 y) (rks' := rks) (w' := x) (h' := y) (fo' := fo) (pr' := pr) (fun a ha => by rw [gu_off ha, gu_off ha]) ⟨by rw [gu_ne (by omega), gu_ne (by omega)]; exact v0.1, by rw [gu_ne (by omega), gu_ne (by omega)]; exact v0.2.1, by rw [gu_ne (by omega), gu_same], gu_same, by rw [gu_ne (by omega), gu_ne (by omega)]; exact v0.2.2.2.2.1, by rw [gu_ne (by omega), gu_ne (by omega)]; exact v0.2.2.2.2.2⟩ hI.2.2.1.2.2.1 hI.2.2.1.2.2.2
  have hO1 : MOff gi (gu (gu gi m 8 x) m 9 y) m := MOff.gu (MOff.gu MOff.rf (by omega)) (by omega)
  generalize gu (gu gi m 8 x) m 9 y = g1 at hI1 hO1 ⊢
  refine G_aload_n dMO_resize_45 rfl ?_
  refine G_iconst (v := noI none) dMO_resize_46 (by decide) ?_
  refine G_iconst (v := 0) dMO_resize_47 (by decide) ?_
  refine G_callV (As := [.int (noI none), .int 0]) (rest := []) gMO_resize_MO_solve lMO_162.1 lMO_162.2.1 lMO_162.2.2.1 lMO_162.2.2.2 dMO_resize_48 rfl (Nat.le_of_ble_eq_true rfl) hI.1.1 ⟨by decide, by decide⟩ (cMO_solve hI1 (fun e he => by cases he)) ?_
  rintro T1 g2 r1 v1 ⟨e1, e2, hO2, hh⟩
  cases e1.symm
  cases e2.symm
  rcases hh with ⟨hcf, rfl, hI2⟩ | ⟨hcf, rfl, hI2⟩
  · refine G_st (st' := [.int 0]) rfl ?_
    refine G_istore (ls' := [.ref m, .int x, .int y, .int w, .int h, .int 0]) dMO_resize_51 (by decide) rfl ?_
    refine G_iload dMO_resize_53 rfl ?_
    refine G_if_ne dMO_resize_55 (fun z => absurd rfl z) (fun _ => ?_)
    refine G_aload_n dMO_resize_58 rfl ?_
    refine G_iload_n dMO_resize_59 rfl ?_
    refine G_putI wMO_87 (Or.inl rfl) dMO_resize_60 hI.1.1 rfl rfl ?_
    refine G_aload_n dMO_resize_63 rfl ?_
    refine G_iload dMO_resize_64 rfl ?_
    refine G_putI wMO_90 (Or.inl rfl) dMO_resize_66 hI.1.1 rfl rfl ?_
    have v2 := hI2.2.1
    have hI3 := hI2.s0 (gi' := gu (gu g2 m 8 w) m 9 h) (rks' := rks) (w' := w) (h' := h) (fo' := fo) (pr' := pr) (fun a ha => by rw [gu_off ha, gu_off ha]) ⟨by rw [gu_ne (by omega), gu_ne (by omega)]; exact v2.1, by rw [gu_ne (by omega), gu_ne (by omega)]; exact v2.2.1, by rw [gu_ne (by omega), gu_same], gu_same, by rw [gu_ne (by omega), gu_ne (by omega)]; exact v2.2.2.2.2.1, by rw [gu_ne (by omega), gu_ne (by omega)]; exact v2.2.2.2.2.2⟩ hI.2.2.1.2.2.1 hI.2.2.1.2.2.2
    have hO3 : MOff gi (gu (gu g2 m 8 w) m 9 h) m := MOff.gu (MOff.gu (hO1.tr hO2) (by omega)) (by omega)
    generalize gu (gu g2 m 8 w) m 9 h = g3 at hI3 hO3 ⊢
    refine G_aload_n dMO_resize_69 rfl ?_
    refine G_callV (As := []) (rest := []) gMO_resize_MO_look lMO_93.1 lMO_93.2.1 lMO_93.2.2.1 lMO_93.2.2.2 dMO_resize_70 rfl (Nat.le_of_ble_eq_true rfl) hI.1.1 ⟨by decide, by decide⟩ (cMO_look hI3) ?_
    rintro T9 g9 r9 _ ⟨e8, e9, rfl, hO9, hI9⟩
    cases e8.symm
    cases e9.symm
    refine G_st (st' := []) rfl ?_
    refine G_iload dMO_resize_73 rfl ?_
    subst hQ
    exact G_ireturn dMO_resize_75 rfl (nr_z (by decide)) (by decide) (by decide) ⟨rfl, rfl, hO3.tr hO9, Or.inr ⟨hrz, Or.inr ⟨hcf, rfl, hI9⟩⟩⟩
  · refine G_st (st' := [.int 1]) rfl ?_
    refine G_istore (ls' := [.ref m, .int x, .int y, .int w, .int h, .int 1]) dMO_resize_51 (by decide) rfl ?_
    refine G_iload dMO_resize_53 rfl ?_
    refine G_if_ne dMO_resize_55 (fun _ => ?_) (fun z => absurd z (by decide))
    refine G_aload_n dMO_resize_69 rfl ?_
    refine G_callV (As := []) (rest := []) gMO_resize_MO_look lMO_93.1 lMO_93.2.1 lMO_93.2.2.1 lMO_93.2.2.2 dMO_resize_70 rfl (Nat.le_of_ble_eq_true rfl) hI.1.1 ⟨by decide, by decide⟩ (cMO_look hI2) ?_
    rintro T9 g9 r9 _ ⟨e8, e9, rfl, hO9, hI9⟩
    cases e8.symm
    cases e9.symm
    refine G_st (st' := []) rfl ?_
    refine G_iload dMO_resize_73 rfl ?_
    subst hQ
    exact G_ireturn dMO_resize_75 rfl (nr_z (by decide)) (by decide) (by decide) ⟨rfl, rfl, (hO1.tr hO2).tr hO9, Or.inr ⟨hrz, Or.inl ⟨hcf, rfl, hI9⟩⟩⟩
