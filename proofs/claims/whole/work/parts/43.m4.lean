def nwM (par : Nat → Option Nat) (pl : Nat → Int32) (hd : Nat → Bool) (b j : Nat) : Bool := inM par pl hd b (nI (j % 24)) (nI (j / 24))
def lkX (N A : Nat → Bool) (o0 : Bool) : Nat → Bool
  | 0 => o0
  | z + 1 => lkX N A o0 z || (A z != N z)
abbrev LK3 : Type := (Nat → Nat → Bool) × (Nat → Int32) × (Nat → Bool)
def lkU (N : Nat → Bool) (c : Int32) (b : Nat) (s : LK3) : LK3 := (gup s.1 b N, gup s.2.1 b c, fun j => s.2.2 j || N j || s.1 b j)
def lkC (N : Nat → Bool) (c : Int32) (b : Nat) (s : LK3) : Bool := lkX N (s.1 b) (decide (¬ s.2.1 b = c)) 384
def lkS (N : Nat → Nat → Bool) (c : Nat → Int32) (s : LK3) : Nat → LK3
  | 0 => s
  | b + 1 => if lkC (N b) (c b) b (lkS N c s b) = true then lkU (N b) (c b) b (lkS N c s b) else lkS N c s b
def atM (par : Nat → Option Nat) (pl : Nat → Int32) (hd : Nat → Bool) (kd : Nat → Int32) (q : Option Nat) : Option Nat := if canM par pl hd kd q = true then q else none
theorem atM_lt {par : Nat → Option Nat} {pl : Nat → Int32} {hd : Nat → Bool} {kd : Nat → Int32} {q : Option Nat} {nb : Nat} (h : ∀ i, q = some i → i < nb) : ∀ i, atM par pl hd kd q = some i → i < nb := by
  intro i hi
  unfold atM at hi
  split at hi
  · exact h i hi
  · cases hi
theorem lk_l1 {E : gE} {T : gT} {gi : gI} {gr : gR} {m : Nat} {nb : Nat} {par : Nat → Option Nat} {kd : Nat → Int32} {hd : Nat → Bool} {li : Nat → Bool} {ct : Nat → Int32} {rk : Nat → Nat} {rks : Nat} {w : Int32} {h : Int32} {pl : Nat → Int32} {cs : Nat → Option K5} {fo : Option Nat} {pr : Option Nat} {ar : Nat → Nat → Bool} {co : Nat → Int32} {D : Nat → Bool} {F : Nat → Int32} {b : Nat} {o0 : Bool} {v4 : Value} {Q : gQ} (hI : MInv T gi gr m nb par kd hd li ct rk rks w h pl cs fo pr ar co D F) (hb : b < nb) (kx : G E mMO_look 115 [.ref m, .int (nI b), .int (bI (lkX (nwM par pl hd b) (ar b) o0 384)), .int (nI 384), v4] [] T gi gr 0 0 Q) : ∀ (n z : Nat), z + n = 384 → G E mMO_look 64 [.ref m, .int (nI b), .int (bI (lkX (nwM par pl hd b) (ar b) o0 z)), .int (nI z), v4] [] T gi gr 0 0 Q := by
  have h6 : nb ≤ 6 := hI.2.2.1.1.2
  intro n
  induction n with
  | zero =>
    intro z hz
    have : z = 384 := by omega
    subst this
    refine G_iload_n dMO_look_64 rfl ?_
    refine G_sipush (v := 384) dMO_look_65 (by decide) ?_
    exact G_icmp_ge dMO_look_68 (fun _ => kx) (fun z => absurd (by decide +kernel) z)
  | succ n ih =>
    intro z hz
    have e1 : lkX (nwM par pl hd b) (ar b) o0 (z + 1) = (lkX (nwM par pl hd b) (ar b) o0 z || (ar b z != nwM par pl hd b z)) := rfl
    have nxt : ∀ v2 : Bool, v2 = lkX (nwM par pl hd b) (ar b) o0 (z + 1) → G E mMO_look 108 [.ref m, .int (nI b), .int (bI (lkX (nwM par pl hd b) (ar b) o0 z)), .int (nI z), v4] [.int (bI v2)] T gi gr 0 0 Q := by
      rintro v2 rfl
      refine G_istore_n (ls' := [.ref m, .int (nI b), .int (bI (lkX (nwM par pl hd b) (ar b) o0 (z + 1))), .int (nI z), v4]) dMO_look_108 (by decide) rfl ?_
      refine G_iinc (ls' := [.ref m, .int (nI b), .int (bI (lkX (nwM par pl hd b) (ar b) o0 (z + 1))), .int (nI (z + 1)), v4]) dMO_look_109 rfl (nI_inc z) (by decide) rfl ?_
      refine G_goto dMO_look_112 ?_
      exact ih (z + 1) (by omega)
    refine G_iload_n dMO_look_64 rfl ?_
    refine G_sipush (v := 384) dMO_look_65 (by decide) ?_
    refine G_icmp_ge dMO_look_68 (fun q => absurd q (nI_ge (b := 384) (by omega) (by decide))) (fun _ => ?_)
    refine G_iload_n dMO_look_71 rfl ?_
    refine G_if_ne dMO_look_72 (fun h1 => ?_) (fun h1 => ?_)
    · refine G_iconst (v := bI true) dMO_look_103 (by decide) ?_
      refine G_goto dMO_look_104 ?_
      exact nxt true (by rw [e1, bt h1]; rfl)
    · refine G_aload_n dMO_look_75 rfl ?_
      refine G_getRs fMO_75 dMO_look_76 hI.1.1 hI.1.r19 ?_
      refine G_sipush (v := 384) dMO_look_79 (by decide) ?_
      refine G_iload_n dMO_look_82 rfl ?_
      refine G_imul dMO_look_83 ?_
      refine G_iload_n dMO_look_84 rfl ?_
      refine G_iadd dMO_look_85 ?_
      refine G_st (st' := [.int (nI (384 * b + z)), .ref (m + 19)]) (by rw [nI_384x, nI_add]) ?_
      refine G_zaldN dMO_look_86 hI.1.t19 hI.1.l19 (by decide) (by omega) ?_
      rw [hI.2.2.2.2.2.2.2.2.2.2.2.1 b z (by omega) (by omega)]
      refine G_aload_n dMO_look_87 rfl ?_
      refine G_iload_n dMO_look_88 rfl ?_
      refine G_iload_n dMO_look_89 rfl ?_
      refine G_bipush (v := 24) dMO_look_90 (by decide) ?_
      refine G_irem dMO_look_92 (by decide) ?_
      refine G_iload_n dMO_look_93 rfl ?_
      refine G_bipush (v := 24) dMO_look_94 (by decide) ?_
      refine G_idiv dMO_look_96 (by decide) ?_
      refine G_st (st' := [.int (nI (z / 24)), .int (nI (z % 24)), .int (nI b), .ref m, .int (bI (ar b z))]) (by rw [nI_r24 (by omega), nI_d24 (by omega)]) ?_
      refine G_callV (As := [.int (nI b), .int (nI (z % 24)), .int (nI (z / 24))]) (rest := [.int (bI (ar b z))]) gMO_look_MO_inArea lMO_100.1 lMO_100.2.1 lMO_100.2.2.1 lMO_100.2.2.2 dMO_look_97 rfl (Nat.le_of_ble_eq_true rfl) hI.1.1 ⟨by decide, by decide⟩ (cMO_inArea hI hb) ?_
      refine same4 ?_
      refine G_st (st' := [.int (bI (nwM par pl hd b z)), .int (bI (ar b z))]) rfl ?_
      refine G_icmp_eq dMO_look_100 (fun h2 => ?_) (fun h2 => ?_)
      · refine G_iconst (v := bI false) dMO_look_107 (by decide) ?_
        exact nxt false (by rw [e1, bI_z.mp h1, bI_inj.mp h2]; simp)
      · refine G_iconst (v := bI true) dMO_look_103 (by decide) ?_
        refine G_goto dMO_look_104 ?_
        exact nxt true (by rw [e1, show (ar b z != nwM par pl hd b z) = true from bne_iff_ne.mpr (fun z => h2 (by rw [z])), Bool.or_true])
theorem lk_l2 {E : gE} {T : gT} {g0 : gI} {gr : gR} {m : Nat} {nb : Nat} {par : Nat → Option Nat} {kd : Nat → Int32} {hd : Nat → Bool} {li : Nat → Bool} {ct : Nat → Int32} {rk : Nat → Nat} {rks : Nat} {w : Int32} {h : Int32} {pl : Nat → Int32} {cs : Nat → Option K5} {fo : Option Nat} {pr : Option Nat} {ar : Nat → Nat → Bool} {co : Nat → Int32} {D : Nat → Bool} {F : Nat → Int32} {b : Nat} {v2 : Value} {Q : gQ} (hb : b < nb) (kx : ∀ (gi : gI) (v4 : Value), MInv T gi gr m nb par kd hd li ct rk rks w h pl cs fo pr (gup ar b (fun j => if j < 384 then nwM par pl hd b j else ar b j)) co (fun j => if j < 384 then D j || nwM par pl hd b j || ar b j else D j) F → MOff g0 gi m → G E mMO_look 217 [.ref m, .int (nI b), v2, .int (nI 384), v4] [] T gi gr 0 0 Q) : ∀ (n z : Nat), z + n = 384 → ∀ (gi : gI) (v4 : Value), MInv T gi gr m nb par kd hd li ct rk rks w h pl cs fo pr (gup ar b (fun j => if j < z then nwM par pl hd b j else ar b j)) co (fun j => if j < z then D j || nwM par pl hd b j || ar b j else D j) F → MOff g0 gi m → G E mMO_look 135 [.ref m, .int (nI b), v2, .int (nI z), v4] [] T gi gr 0 0 Q := by
  intro n
  induction n with
  | zero =>
    intro z hz gi v4 hI hO
    have : z = 384 := by omega
    subst this
    refine G_iload_n dMO_look_135 rfl ?_
    refine G_sipush (v := 384) dMO_look_136 (by decide) ?_
    exact G_icmp_ge dMO_look_139 (fun _ => kx gi v4 hI hO) (fun z => absurd (by decide +kernel) z)
  | succ n ih =>
    intro z hz gi v4 hI hO
    have h6 : nb ≤ 6 := hI.2.2.1.1.2
    refine G_iload_n dMO_look_135 rfl ?_
    refine G_sipush (v := 384) dMO_look_136 (by decide) ?_
    refine G_icmp_ge dMO_look_139 (fun q => absurd q (nI_ge (b := 384) (by omega) (by decide))) (fun _ => ?_)
    refine G_aload_n dMO_look_142 rfl ?_
    refine G_iload_n dMO_look_143 rfl ?_
    refine G_iload_n dMO_look_144 rfl ?_
    refine G_bipush (v := 24) dMO_look_145 (by decide) ?_
    refine G_irem dMO_look_147 (by decide) ?_
    refine G_iload_n dMO_look_148 rfl ?_
    refine G_bipush (v := 24) dMO_look_149 (by decide) ?_
    refine G_idiv dMO_look_151 (by decide) ?_
    refine G_st (st' := [.int (nI (z / 24)), .int (nI (z % 24)), .int (nI b), .ref m]) (by rw [nI_r24 (by omega), nI_d24 (by omega)]) ?_
    refine G_callV (As := [.int (nI b), .int (nI (z % 24)), .int (nI (z / 24))]) (rest := []) gMO_look_MO_inArea lMO_100.1 lMO_100.2.1 lMO_100.2.2.1 lMO_100.2.2.2 dMO_look_152 rfl (Nat.le_of_ble_eq_true rfl) hI.1.1 ⟨by decide, by decide⟩ (cMO_inArea hI hb) ?_
    refine same4 ?_
    refine G_st (st' := [.int (bI (nwM par pl hd b z))]) rfl ?_
    refine G_istore (ls' := [.ref m, .int (nI b), v2, .int (nI z), .int (bI (nwM par pl hd b z))]) dMO_look_155 (by decide) rfl ?_
    have nxt : ∀ q : Bool, q = (D z || nwM par pl hd b z || ar b z) → G E mMO_look 196 [.ref m, .int (nI b), v2, .int (nI z), .int (bI (nwM par pl hd b z))] [.int (bI q), .int (nI z), .ref (m + 21)] T gi gr 0 0 Q := by
      rintro q rfl
      refine G_zastN dMO_look_196 hI.1.t21 hI.1.l21 (by decide) (by omega) (bI_01 _) ?_
      have hI2 := hI.s21 (gi' := gu gi (m + 21) z (bI (D z || nwM par pl hd b z || ar b z))) (D' := (fun j => if j < (z + 1) then D j || nwM par pl hd b j || ar b j else D j)) (fun a ha => gu_off ha) (fun j hj => by
        rw [gu_row]
        by_cases e : j = z
        · subst e; (try dsimp only); rw [if_pos rfl, if_pos (by omega)]
        · rw [if_neg e, hI.2.2.2.2.2.2.2.2.2.2.2.2.2.1 j hj]
          (try dsimp only)
          by_cases c : j < z
          · rw [if_pos c, if_pos (by omega)]
          · rw [if_neg c, if_neg (by omega)])
      have hO2 := hO.gu (a := m + 21) (k := z) (x := bI (D z || nwM par pl hd b z || ar b z)) (by omega)
      generalize gu gi (m + 21) z (bI (D z || nwM par pl hd b z || ar b z)) = g2 at hI2 hO2 ⊢
      refine G_aload_n dMO_look_197 rfl ?_
      refine G_getRs fMO_75 dMO_look_198 hI.1.1 hI.1.r19 ?_
      refine G_sipush (v := 384) dMO_look_201 (by decide) ?_
      refine G_iload_n dMO_look_204 rfl ?_
      refine G_imul dMO_look_205 ?_
      refine G_iload_n dMO_look_206 rfl ?_
      refine G_iadd dMO_look_207 ?_
      refine G_st (st' := [.int (nI (384 * b + z)), .ref (m + 19)]) (by rw [nI_384x, nI_add]) ?_
      refine G_iload dMO_look_208 rfl ?_
      refine G_zastN dMO_look_210 hI.1.t19 hI.1.l19 (by decide) (by omega) (bI_01 _) ?_
      have hI3 := hI2.s19 (gi' := gu g2 (m + 19) (384 * b + z) (bI (nwM par pl hd b z))) (ar' := (gup ar b (fun j => if j < (z + 1) then nwM par pl hd b j else ar b j))) (fun a ha => gu_off ha) (fun b' z' hb' hz' => by
        rw [gu_row]
        by_cases e : b' = b
        · subst e
          rw [gup_same]
          (try dsimp only)
          by_cases e2 : z' = z
          · subst e2; rw [if_pos rfl, if_pos (by omega)]
          · rw [if_neg (by omega), hI2.2.2.2.2.2.2.2.2.2.2.2.1 b' z' hb' hz', gup_same]
            (try dsimp only)
            by_cases c : z' < z
            · rw [if_pos c, if_pos (by omega)]
            · rw [if_neg c, if_neg (by omega)]
        · rw [if_neg (by omega), hI2.2.2.2.2.2.2.2.2.2.2.2.1 b' z' hb' hz', gup_ne e, gup_ne e])
      have hO3 := hO2.gu (a := m + 19) (k := 384 * b + z) (x := bI (nwM par pl hd b z)) (by omega)
      generalize gu g2 (m + 19) (384 * b + z) (bI (nwM par pl hd b z)) = g3 at hI3 hO3 ⊢
      refine G_iinc (ls' := [.ref m, .int (nI b), v2, .int (nI (z + 1)), .int (bI (nwM par pl hd b z))]) dMO_look_211 rfl (nI_inc z) (by decide) rfl ?_
      refine G_goto dMO_look_214 ?_
      exact ih (z + 1) (by omega) g3 _ hI3 hO3
    refine G_aload_n dMO_look_157 rfl ?_
    refine G_getRs fMO_81 dMO_look_158 hI.1.1 hI.1.r21 ?_
    refine G_iload_n dMO_look_161 rfl ?_
    refine G_aload_n dMO_look_162 rfl ?_
    refine G_getRs fMO_81 dMO_look_163 hI.1.1 hI.1.r21 ?_
    refine G_iload_n dMO_look_166 rfl ?_
    refine G_zaldN dMO_look_167 hI.1.t21 hI.1.l21 (by decide) (by omega) ?_
    have ed : gi (m + 21) z = bI (D z) := by
      rw [hI.2.2.2.2.2.2.2.2.2.2.2.2.2.1 z (by omega)]
      (try dsimp only)
      rw [if_neg (Nat.lt_irrefl z)]
    rw [ed]
    refine G_if_ne dMO_look_168 (fun h1 => ?_) (fun h1 => ?_)
    · refine G_iconst (v := bI true) dMO_look_191 (by decide) ?_
      refine G_goto dMO_look_192 ?_
      exact nxt true (by rw [bt h1]; rfl)
    · refine G_iload dMO_look_171 rfl ?_
      refine G_if_ne dMO_look_173 (fun h2 => ?_) (fun h2 => ?_)
      · refine G_iconst (v := bI true) dMO_look_191 (by decide) ?_
        refine G_goto dMO_look_192 ?_
        exact nxt true (by rw [bt h2, Bool.or_true]; rfl)
      · refine G_aload_n dMO_look_176 rfl ?_
        refine G_getRs fMO_75 dMO_look_177 hI.1.1 hI.1.r19 ?_
        refine G_sipush (v := 384) dMO_look_180 (by decide) ?_
        refine G_iload_n dMO_look_183 rfl ?_
        refine G_imul dMO_look_184 ?_
        refine G_iload_n dMO_look_185 rfl ?_
        refine G_iadd dMO_look_186 ?_
        refine G_st (st' := [.int (nI (384 * b + z)), .ref (m + 19), .int (nI z), .ref (m + 21)]) (by rw [nI_384x, nI_add]) ?_
        refine G_zaldN dMO_look_187 hI.1.t19 hI.1.l19 (by decide) (by omega) ?_
        have ea : gi (m + 19) (384 * b + z) = bI (ar b z) := by
          rw [hI.2.2.2.2.2.2.2.2.2.2.2.1 b z (by omega) (by omega), gup_same]
          (try dsimp only)
          rw [if_neg (Nat.lt_irrefl z)]
        rw [ea]
        refine G_if_eq dMO_look_188 (fun h3 => ?_) (fun h3 => ?_)
        · refine G_iconst (v := bI false) dMO_look_195 (by decide) ?_
          exact nxt false (by rw [bI_z.mp h1, bI_z.mp h2, bI_z.mp h3]; rfl)
        · refine G_iconst (v := bI true) dMO_look_191 (by decide) ?_
          refine G_goto dMO_look_192 ?_
          exact nxt true (by rw [bt h3, Bool.or_true])
theorem MInv.eq {T : gT} {gi : gI} {gr : gR} {m : Nat} {nb : Nat} {par : Nat → Option Nat} {kd : Nat → Int32} {hd : Nat → Bool} {li : Nat → Bool} {ct : Nat → Int32} {rk : Nat → Nat} {rks : Nat} {w : Int32} {h : Int32} {pl : Nat → Int32} {cs : Nat → Option K5} {fo : Option Nat} {pr : Option Nat} {ar : Nat → Nat → Bool} {co : Nat → Int32} {D : Nat → Bool} {F : Nat → Int32} {ar' : Nat → Nat → Bool} {D' : Nat → Bool} (hI : MInv T gi gr m nb par kd hd li ct rk rks w h pl cs fo pr ar co D F) (h1 : ∀ b z, b < 6 → z < 384 → ar b z = ar' b z) (h2 : ∀ z, z < 384 → D z = D' z) : MInv T gi gr m nb par kd hd li ct rk rks w h pl cs fo pr ar' co D' F := by
  have h3 := hI.s19 (gi' := gi) (ar' := ar') (fun _ _ => rfl) (fun b z hb hz => by rw [hI.2.2.2.2.2.2.2.2.2.2.2.1 b z hb hz, h1 b z hb hz])
  exact h3.s21 (gi' := gi) (D' := D') (fun _ _ => rfl) (fun z hz => by rw [hI.2.2.2.2.2.2.2.2.2.2.2.2.2.1 z hz, h2 z hz])
theorem lk_out {E : gE} {T : gT} {g0 : gI} {gr : gR} {m : Nat} {nb : Nat} {par : Nat → Option Nat} {kd : Nat → Int32} {hd : Nat → Bool} {li : Nat → Bool} {ct : Nat → Int32} {rk : Nat → Nat} {rks : Nat} {w : Int32} {h : Int32} {pl : Nat → Int32} {cs : Nat → Option K5} {fo : Option Nat} {pr : Option Nat} {ar : Nat → Nat → Bool} {co : Nat → Int32} {D : Nat → Bool} {F : Nat → Int32} {Q : gQ} (kx : ∀ gi : gI, MInv T gi gr m nb par kd hd li ct rk rks w h pl cs fo pr (lkS (nwM par pl hd) (colM kd li fo pr) (ar, co, D) nb).1 (lkS (nwM par pl hd) (colM kd li fo pr) (ar, co, D) nb).2.1 (lkS (nwM par pl hd) (colM kd li fo pr) (ar, co, D) nb).2.2 F → MOff g0 gi m → Q T gi gr none) : ∀ (n b : Nat), b + n = nb → ∀ (gi : gI) (v2 v3 v4 : Value), MInv T gi gr m nb par kd hd li ct rk rks w h pl cs fo pr (lkS (nwM par pl hd) (colM kd li fo pr) (ar, co, D) b).1 (lkS (nwM par pl hd) (colM kd li fo pr) (ar, co, D) b).2.1 (lkS (nwM par pl hd) (colM kd li fo pr) (ar, co, D) b).2.2 F → MOff g0 gi m → G E mMO_look 34 [.ref m, .int (nI b), v2, v3, v4] [] T gi gr 0 0 Q := by
  intro n
  induction n with
  | zero =>
    intro b hb gi v2 v3 v4 hI hO
    have h6 : nb ≤ 6 := hI.2.2.1.1.2
    have : b = nb := by omega
    subst this
    refine G_iload_n dMO_look_34 rfl ?_
    refine G_aload_n dMO_look_35 rfl ?_
    refine G_getI fMO_7 dMO_look_36 hI.1.1 ?_
    rw [hI.2.1.1]
    refine G_icmp_ge dMO_look_39 (fun _ => ?_) (fun z => absurd (nI_le (Nat.le_refl _) (by omega)) z)
    exact G_return dMO_look_223 rfl (by decide) (by decide) (kx gi hI hO)
  | succ n ih =>
    intro b hb gi v2 v3 v4 hI hO
    have h6 : nb ≤ 6 := hI.2.2.1.1.2
    have hbn : b < nb := by omega
    have e1 : lkS (nwM par pl hd) (colM kd li fo pr) (ar, co, D) (b + 1) = if lkC (nwM par pl hd b) (colM kd li fo pr b) b (lkS (nwM par pl hd) (colM kd li fo pr) (ar, co, D) b) = true then lkU (nwM par pl hd b) (colM kd li fo pr b) b (lkS (nwM par pl hd) (colM kd li fo pr) (ar, co, D) b) else (lkS (nwM par pl hd) (colM kd li fo pr) (ar, co, D) b) := rfl
    generalize hs : (lkS (nwM par pl hd) (colM kd li fo pr) (ar, co, D) b) = s at hI e1
    have nxt : ∀ (gi : gI) (v2 v3 v4 : Value), MInv T gi gr m nb par kd hd li ct rk rks w h pl cs fo pr (lkS (nwM par pl hd) (colM kd li fo pr) (ar, co, D) (b + 1)).1 (lkS (nwM par pl hd) (colM kd li fo pr) (ar, co, D) (b + 1)).2.1 (lkS (nwM par pl hd) (colM kd li fo pr) (ar, co, D) (b + 1)).2.2 F → MOff g0 gi m → G E mMO_look 217 [.ref m, .int (nI b), v2, v3, v4] [] T gi gr 0 0 Q := by
      intro gi v2 v3 v4 hI hO
      refine G_iinc (ls' := [.ref m, .int (nI (b + 1)), v2, v3, v4]) dMO_look_217 rfl (nI_inc b) (by decide) rfl ?_
      refine G_goto dMO_look_220 ?_
      exact ih (b + 1) (by omega) gi v2 v3 v4 hI hO
    refine G_iload_n dMO_look_34 rfl ?_
    refine G_aload_n dMO_look_35 rfl ?_
    refine G_getI fMO_7 dMO_look_36 hI.1.1 ?_
    rw [hI.2.1.1]
    refine G_icmp_ge dMO_look_39 (fun z => absurd z (nI_ge hbn (by omega))) (fun _ => ?_)
    refine G_aload_n dMO_look_42 rfl ?_
    refine G_getRs fMO_78 dMO_look_43 hI.1.1 hI.1.r20 ?_
    refine G_iload_n dMO_look_46 rfl ?_
    refine G_ialdN dMO_look_47 hI.1.t20 hI.1.l20 (by decide) (by omega) ?_
    rw [hI.2.2.2.2.2.2.2.2.2.2.2.2.1 b (by omega)]
    refine G_aload_n dMO_look_48 rfl ?_
    refine G_iload_n dMO_look_49 rfl ?_
    refine G_callV (As := [.int (nI b)]) (rest := [.int (s.2.1 b)]) gMO_look_MO_colour lMO_110.1 lMO_110.2.1 lMO_110.2.2.1 lMO_110.2.2.2 dMO_look_50 rfl (Nat.le_of_ble_eq_true rfl) hI.1.1 ⟨by decide, by decide⟩ (cMO_colour hI hbn) ?_
    refine same4 ?_
    refine G_st (st' := [.int (colM kd li fo pr b), .int (s.2.1 b)]) rfl ?_
    have go : ∀ o0 : Bool, o0 = decide (¬ s.2.1 b = colM kd li fo pr b) → G E mMO_look 61 [.ref m, .int (nI b), v2, v3, v4] [.int (bI o0)] T gi gr 0 0 Q := by
      rintro o0 rfl
      refine G_istore_n (ls' := [.ref m, .int (nI b), .int (bI (decide (¬ s.2.1 b = colM kd li fo pr b))), v3, v4]) dMO_look_61 (by decide) rfl ?_
      refine G_iconst (v := nI 0) dMO_look_62 (by decide +kernel) ?_
      refine G_istore_n (ls' := [.ref m, .int (nI b), .int (bI (lkX (nwM par pl hd b) (s.1 b) (decide (¬ s.2.1 b = colM kd li fo pr b)) 0)), .int (nI 0), v4]) dMO_look_63 (by decide) rfl ?_
      refine lk_l1 hI hbn ?_ 384 0 rfl
      refine G_iload_n dMO_look_115 rfl ?_
      refine G_if_ne dMO_look_116 (fun h2 => ?_) (fun h2 => ?_)
      · have hC : lkC (nwM par pl hd b) (colM kd li fo pr b) b s = true := bt h2
        rw [if_pos hC] at e1
        refine G_aload_n dMO_look_122 rfl ?_
        refine G_getRs fMO_78 dMO_look_123 hI.1.1 hI.1.r20 ?_
        refine G_iload_n dMO_look_126 rfl ?_
        refine G_aload_n dMO_look_127 rfl ?_
        refine G_iload_n dMO_look_128 rfl ?_
        refine G_callV (As := [.int (nI b)]) (rest := [.int (nI b), .ref (m + 20)]) gMO_look_MO_colour lMO_110.1 lMO_110.2.1 lMO_110.2.2.1 lMO_110.2.2.2 dMO_look_129 rfl (Nat.le_of_ble_eq_true rfl) hI.1.1 ⟨by decide, by decide⟩ (cMO_colour hI hbn) ?_
        refine same4 ?_
        refine G_st (st' := [.int (colM kd li fo pr b), .int (nI b), .ref (m + 20)]) rfl ?_
        refine G_iastN dMO_look_132 hI.1.t20 hI.1.l20 (by decide) (by omega) ?_
        have hI2 := hI.s20 (gi' := gu gi (m + 20) b (colM kd li fo pr b)) (co' := gup s.2.1 b (colM kd li fo pr b)) (fun a ha => gu_off ha) (fun j hj => by
          rw [gu_row]
          by_cases e : j = b
          · subst e; rw [if_pos rfl, gup_same]
          · rw [if_neg e, gup_ne e]; exact hI.2.2.2.2.2.2.2.2.2.2.2.2.1 j hj)
        have hO2 := hO.gu (a := m + 20) (k := b) (x := colM kd li fo pr b) (by omega)
        generalize gu gi (m + 20) b (colM kd li fo pr b) = g2 at hI2 hO2 ⊢
        refine G_iconst (v := nI 0) dMO_look_133 (by decide +kernel) ?_
        refine G_istore_n (ls' := [.ref m, .int (nI b), .int (bI (lkX (nwM par pl hd b) (s.1 b) (decide (¬ s.2.1 b = colM kd li fo pr b)) 384)), .int (nI 0), v4]) dMO_look_134 (by decide) rfl ?_
        refine lk_l2 (par := par) (kd := kd) (hd := hd) (li := li) (ct := ct) (rk := rk) (rks := rks) (w := w) (h := h) (pl := pl) (cs := cs) (fo := fo) (pr := pr) (F := F) (ar := s.1) (D := s.2.2) (co := gup s.2.1 b (colM kd li fo pr b)) hbn (fun g3 w4 hI3 hO3 => nxt g3 _ _ _ ?_ hO3) 384 0 rfl g2 _ ?_ hO2
        · rw [e1]
          refine hI3.eq (fun b' z hb' hz => ?_) (fun z hz => ?_)
          · show _ = gup s.1 b (nwM par pl hd b) b' z
            by_cases e : b' = b
            · subst e; rw [gup_same, gup_same]; (try dsimp only); rw [if_pos hz]
            · rw [gup_ne e, gup_ne e]
          · (try dsimp only); rw [if_pos hz]; rfl
        · refine hI2.eq (fun b' z hb' hz => ?_) (fun z hz => ?_)
          · by_cases e : b' = b
            · subst e; rw [gup_same]; (try dsimp only); rw [if_neg (by omega)]
            · rw [gup_ne e]
          · (try dsimp only); rw [if_neg (by omega)]
      · have hC : ¬ lkC (nwM par pl hd b) (colM kd li fo pr b) b s = true := by
          have := bI_z.mp h2
          show ¬ lkX (nwM par pl hd b) (s.1 b) (decide (¬ s.2.1 b = colM kd li fo pr b)) 384 = true
          rw [this]; decide
        rw [if_neg hC] at e1
        refine G_goto dMO_look_119 ?_
        exact nxt gi _ _ _ (by rw [e1]; exact hI) hO
    refine G_icmp_eq dMO_look_53 (fun h1 => ?_) (fun h1 => ?_)
    · refine G_iconst (v := bI false) dMO_look_60 (by decide) ?_
      exact go false (decide_eq_false (fun z => z h1)).symm
    · refine G_iconst (v := bI true) dMO_look_56 (by decide) ?_
      refine G_goto dMO_look_57 ?_
      exact go true (decide_eq_true (show ¬ s.2.1 b = colM kd li fo pr b from h1)).symm
def lookS (nb : Nat) (par : Nat → Option Nat) (kd : Nat → Int32) (hd li : Nat → Bool) (pl : Nat → Int32) (fo pr : Option Nat) (ar : Nat → Nat → Bool) (co : Nat → Int32) (D : Nat → Bool) : LK3 := lkS (nwM par pl hd) (colM kd li (atM par pl hd kd fo) (atM par pl hd kd pr)) (ar, co, D) nb
theorem cMO_look {E : gE} {T : gT} {gi : gI} {gr : gR} {m : Nat} {nb : Nat} {par : Nat → Option Nat} {kd : Nat → Int32} {hd : Nat → Bool} {li : Nat → Bool} {ct : Nat → Int32} {rk : Nat → Nat} {rks : Nat} {w : Int32} {h : Int32} {pl : Nat → Int32} {cs : Nat → Option K5} {fo : Option Nat} {pr : Option Nat} {ar : Nat → Nat → Bool} {co : Nat → Int32} {D : Nat → Bool} {F : Nat → Int32} (hI : MInv T gi gr m nb par kd hd li ct rk rks w h pl cs fo pr ar co D F) : Ct E mMO_look [.ref m] T gi gr (fun T' gi' gr' v => T' = T ∧ gr' = gr ∧ v = none ∧ MOff gi gi' m ∧ MInv T gi' gr m nb par kd hd li ct rk rks w h pl cs (atM par pl hd kd fo) (atM par pl hd kd pr) (lookS nb par kd hd li pl fo pr ar co D).1 (lookS nb par kd hd li pl fo pr ar co D).2.1 (lookS nb par kd hd li pl fo pr ar co D).2.2 F) := by
  have h6 : nb ≤ 6 := hI.2.2.1.1.2
  refine Ct_of (ls := [.ref m, .long 0, .long 0, .long 0, .long 0]) (by decide) (gcat_cons rfl gcat_nil) (Nat.le_of_ble_eq_true rfl) rfl ?_
  have s3 : ∀ g2, MInv T g2 gr m nb par kd hd li ct rk rks w h pl cs (atM par pl hd kd fo) (atM par pl hd kd pr) ar co D F → MOff gi g2 m → G E mMO_look 32 [.ref m, .long 0, .long 0, .long 0, .long 0] [] T g2 gr 0 0 (fun T' gi' gr' v => T' = T ∧ gr' = gr ∧ v = none ∧ MOff gi gi' m ∧ MInv T gi' gr m nb par kd hd li ct rk rks w h pl cs (atM par pl hd kd fo) (atM par pl hd kd pr) (lookS nb par kd hd li pl fo pr ar co D).1 (lookS nb par kd hd li pl fo pr ar co D).2.1 (lookS nb par kd hd li pl fo pr ar co D).2.2 F) := by
    intro g2 hI2 hO2
    refine G_iconst (v := nI 0) dMO_look_32 (by decide +kernel) ?_
    refine G_istore_n (ls' := [.ref m, .int (nI 0), .long 0, .long 0, .long 0]) dMO_look_33 (by decide) rfl ?_
    exact lk_out (ar := ar) (co := co) (D := D) (g0 := gi) (fun g3 hI3 hO3 => ⟨rfl, rfl, rfl, hO3, hI3⟩) nb 0 (by omega) g2 _ _ _ hI2 hO2
  have s2 : ∀ g2, MInv T g2 gr m nb par kd hd li ct rk rks w h pl cs (atM par pl hd kd fo) pr ar co D F → MOff gi g2 m → G E mMO_look 16 [.ref m, .long 0, .long 0, .long 0, .long 0] [] T g2 gr 0 0 (fun T' gi' gr' v => T' = T ∧ gr' = gr ∧ v = none ∧ MOff gi gi' m ∧ MInv T gi' gr m nb par kd hd li ct rk rks w h pl cs (atM par pl hd kd fo) (atM par pl hd kd pr) (lookS nb par kd hd li pl fo pr ar co D).1 (lookS nb par kd hd li pl fo pr ar co D).2.1 (lookS nb par kd hd li pl fo pr ar co D).2.2 F) := by
    intro g2 hI2 hO2
    have v0 := hI2.2.1
    refine G_aload_n dMO_look_16 rfl ?_
    refine G_aload_n dMO_look_17 rfl ?_
    refine G_getI fMO_72 dMO_look_18 hI2.1.1 ?_
    rw [v0.2.2.2.2.2]
    refine G_callV (As := [.int (noI pr)]) (rest := []) gMO_look_MO_can lMO_107.1 lMO_107.2.1 lMO_107.2.2.1 lMO_107.2.2.2 dMO_look_21 rfl (Nat.le_of_ble_eq_true rfl) hI2.1.1 ⟨by decide, by decide⟩ (cMO_can hI2 hI.2.2.1.2.2.2) ?_
    refine same4 ?_
    refine G_st (st' := [.int (bI (canM par pl hd kd pr))]) rfl ?_
    refine G_if_ne dMO_look_24 (fun h1 => s3 g2 ?_ hO2) (fun h1 => ?_)
    · have e : atM par pl hd kd pr = pr := by unfold atM; rw [if_pos (bt h1)]
      rw [e]; exact hI2
    · have e : atM par pl hd kd pr = none := by unfold atM; rw [if_neg (by rw [bI_z.mp h1]; decide)]
      refine G_aload_n dMO_look_27 rfl ?_
      refine G_iconst (v := noI none) dMO_look_28 (by decide) ?_
      refine G_putI wMO_72 (Or.inl rfl) dMO_look_29 hI2.1.1 rfl rfl ?_
      refine s3 _ ?_ (hO2.gu (by omega))
      refine hI2.s0 (fun a ha => gu_off ha) ⟨?_, ?_, ?_, ?_, ?_, ?_⟩ hI2.2.2.1.2.2.1 (atM_lt hI.2.2.1.2.2.2)
      · rw [gu_ne (by omega)]; exact v0.1
      · rw [gu_ne (by omega)]; exact v0.2.1
      · rw [gu_ne (by omega)]; exact v0.2.2.1
      · rw [gu_ne (by omega)]; exact v0.2.2.2.1
      · rw [gu_ne (by omega)]; exact v0.2.2.2.2.1
      · rw [gu_same, e]
  have v0 := hI.2.1
  refine G_aload_n dMO_look_0 rfl ?_
  refine G_aload_n dMO_look_1 rfl ?_
  refine G_getI fMO_69 dMO_look_2 hI.1.1 ?_
  rw [v0.2.2.2.2.1]
  refine G_callV (As := [.int (noI fo)]) (rest := []) gMO_look_MO_can lMO_107.1 lMO_107.2.1 lMO_107.2.2.1 lMO_107.2.2.2 dMO_look_5 rfl (Nat.le_of_ble_eq_true rfl) hI.1.1 ⟨by decide, by decide⟩ (cMO_can hI hI.2.2.1.2.2.1) ?_
  refine same4 ?_
  refine G_st (st' := [.int (bI (canM par pl hd kd fo))]) rfl ?_
  refine G_if_ne dMO_look_8 (fun h1 => s2 gi ?_ MOff.rf) (fun h1 => ?_)
  · have e : atM par pl hd kd fo = fo := by unfold atM; rw [if_pos (bt h1)]
    rw [e]; exact hI
  · have e : atM par pl hd kd fo = none := by unfold atM; rw [if_neg (by rw [bI_z.mp h1]; decide)]
    refine G_aload_n dMO_look_11 rfl ?_
    refine G_iconst (v := noI none) dMO_look_12 (by decide) ?_
    refine G_putI wMO_69 (Or.inl rfl) dMO_look_13 hI.1.1 rfl rfl ?_
    refine s2 _ ?_ (MOff.rf.gu (by omega))
    refine hI.s0 (fun a ha => gu_off ha) ⟨?_, ?_, ?_, ?_, ?_, ?_⟩ (atM_lt hI.2.2.1.2.2.1) hI.2.2.1.2.2.2
    · rw [gu_ne (by omega)]; exact v0.1
    · rw [gu_ne (by omega)]; exact v0.2.1
    · rw [gu_ne (by omega)]; exact v0.2.2.1
    · rw [gu_ne (by omega)]; exact v0.2.2.2.1
    · rw [gu_same, e]
    · rw [gu_ne (by omega)]; exact v0.2.2.2.2.2
