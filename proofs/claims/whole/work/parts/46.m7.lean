def ogN (e : Nat) : Nat := if e % 4 < 2 then 0 else 2
theorem og_dec : ∀ e, e < 24 → ogM (nI e) = nI (ogN e) := by decide +kernel
theorem ogN_lt (e : Nat) : ogN e < 24 := by unfold ogN; split <;> omega
def mcS (S : RS) (cs : Nat → Option K5) (s : Nat) : Nat → RS
  | 0 => S
  | i + 1 => match cs i with
    | some κ => if κ.2.2.2.2 = s then sfM (mcS S cs s i) κ else mcS S cs s i
    | none => mcS S cs s i
def msS (S : RS) (cs : Nat → Option K5) : Nat → RS
  | 0 => S
  | k + 1 => mcS (msS S cs k) cs (k + 1) 16
def meS (S : RS) (pl : Nat → Int32) : Nat → RS
  | 0 => S
  | e + 1 => stS2 (meS S pl e) e (ogN e) (pl e)
def meD (S : RS) (pl : Nat → Int32) (e : Nat) : Int32 := stD (meS S pl e) e (ogN e) (pl e)
def slS0 (w h : Int32) (nb : Nat) (cs : Nat → Option K5) (q : Option Nat) (x : Int32) : RS := match q with
  | none => rqM w h nb cs
  | some e => stS2 (rqM w h nb cs) e (ogN e) x
def slP (w h : Int32) (nb : Nat) (cs : Nat → Option K5) (pl : Nat → Int32) (q : Option Nat) (x : Int32) : Nat → Int32 := fun j => if j < 4 * nb then meD (msS (slS0 w h nb cs q x) cs 3) pl j else pl j
theorem sfM_len {S : RS} {κ : K5} : (sfM S κ).1 ≤ S.1 + 2 := by
  unfold sfM
  split
  · exact Nat.le_refl _
  · exact Nat.le_succ _
theorem mcS_len {S : RS} {cs : Nat → Option K5} {s : Nat} : ∀ i, (mcS S cs s i).1 ≤ S.1 + 2 * cnS cs s i
  | 0 => Nat.le_refl _
  | i + 1 => by
    have ih := mcS_len (S := S) (cs := cs) (s := s) i
    unfold mcS cnS
    cases hc : cs i with
    | none => dsimp only; omega
    | some κ =>
      dsimp only
      by_cases a0 : κ.2.2.2.2 = s
      · rw [if_pos a0, if_pos a0]; have := sfM_len (S := mcS S cs s i) (κ := κ); omega
      · rw [if_neg a0, if_neg a0]; omega
theorem meS_len {S : RS} {pl : Nat → Int32} : ∀ e, (meS S pl e).1 = S.1 + 2 * e
  | 0 => rfl
  | e + 1 => by
    show (meS S pl e).1 + 1 + 1 = _
    rw [meS_len e]; omega
theorem rqM_len {w h : Int32} {nb : Nat} {cs : Nat → Option K5} : (rqM w h nb cs).1 ≤ 4 + 2 * nb + 2 * cnS cs 0 16 := by
  have h1 := rqC_len (S := rqB (rq0 w h) nb) (cs := cs) 16
  have h2 := rqB_len (S := rq0 w h) nb
  have h3 : (rq0 w h).1 = 4 := rfl
  unfold rqM
  omega
theorem slS0_len {w h : Int32} {nb : Nat} {cs : Nat → Option K5} {q : Option Nat} {x : Int32} : (slS0 w h nb cs q x).1 ≤ 6 + 2 * nb + 2 * cnS cs 0 16 := by
  have h1 := rqM_len (w := w) (h := h) (nb := nb) (cs := cs)
  cases q with
  | none => show (rqM w h nb cs).1 ≤ _; omega
  | some e => show (rqM w h nb cs).1 + 1 + 1 ≤ _; omega
theorem sv_con {E : gE} {T : gT} {g0 : gI} {gr : gR} {m : Nat} {nb : Nat} {par : Nat → Option Nat} {kd : Nat → Int32} {hd : Nat → Bool} {li : Nat → Bool} {ct : Nat → Int32} {rk : Nat → Nat} {rks : Nat} {w : Int32} {h : Int32} {pl : Nat → Int32} {cs : Nat → Option K5} {fo : Option Nat} {pr : Option Nat} {ar : Nat → Nat → Bool} {co : Nat → Int32} {D : Nat → Bool} {F : Nat → Int32} {S : RS} {k : Nat} {v1 v2 : Value} {Q : gQ} (hI : MInv T g0 gr m nb par kd hd li ct rk rks w h pl cs fo pr ar co D F) (hr : S.1 + 2 * cnS cs (k + 1) 16 ≤ 118) (hk : k < 3) (kx : ∀ gi : gI, SOff g0 gi m → RwIs gi m (mcS S cs (k + 1) 16) → G E mMO_solve 78 [.ref m, v1, v2, .int (nI (k + 1)), .int (nI 16)] [] T gi gr 0 0 Q) : ∀ (n i : Nat), i + n = 16 → ∀ gi : gI, SOff g0 gi m → RwIs gi m (mcS S cs (k + 1) i) → G E mMO_solve 38 [.ref m, v1, v2, .int (nI (k + 1)), .int (nI i)] [] T gi gr 0 0 Q := by
  intro n
  induction n with
  | zero =>
    intro i hi gi hO hR
    have : i = 16 := by omega
    subst this
    refine G_iload dMO_solve_38 rfl ?_
    refine G_bipush (v := 16) dMO_solve_40 (by decide) ?_
    exact G_icmp_ge dMO_solve_42 (fun _ => kx gi hO hR) (fun z => absurd (by decide +kernel) z)
  | succ n ih =>
    intro i hi gi hO hR
    have hi16 : i < 16 := by omega
    have hl := mcS_len (S := S) (cs := cs) (s := k + 1) i
    have hI1 := hI.so hO
    have vc := hI1.2.2.2.2.2.2.2.2.2.2.1
    have nxt : ∀ gi : gI, SOff g0 gi m → RwIs gi m (mcS S cs (k + 1) (i + 1)) → G E mMO_solve 72 [.ref m, v1, v2, .int (nI (k + 1)), .int (nI i)] [] T gi gr 0 0 Q := by
      intro gi hO hR
      refine G_iinc (ls' := [.ref m, v1, v2, .int (nI (k + 1)), .int (nI (i + 1))]) dMO_solve_72 rfl (nI_inc i) (by decide) rfl ?_
      refine G_goto dMO_solve_75 ?_
      exact ih (i + 1) (by omega) gi hO hR
    have e0 : mcS S cs (k + 1) (i + 1) = match cs i with | some κ => if κ.2.2.2.2 = k + 1 then sfM (mcS S cs (k + 1) i) κ else mcS S cs (k + 1) i | none => mcS S cs (k + 1) i := rfl
    refine G_iload dMO_solve_38 rfl ?_
    refine G_bipush (v := 16) dMO_solve_40 (by decide) ?_
    refine G_icmp_ge dMO_solve_42 (fun q => absurd q (nI_ge (b := 16) hi16 (by decide))) (fun _ => ?_)
    refine G_aload_n dMO_solve_45 rfl ?_
    refine G_getRs fMO_39 dMO_solve_46 hI.1.1 hI.1.r9 ?_
    refine G_iload dMO_solve_49 rfl ?_
    refine G_zaldN dMO_solve_51 hI.1.t9 hI.1.l9 (by decide) hi16 ?_
    cases hc : cs i with
    | none =>
      rw [hc] at e0
      dsimp only at e0
      exact G_if_eq dMO_solve_52 (fun _ => nxt gi hO (by rw [e0]; exact hR)) (fun z => absurd ((vc i hi16).1 hc) z)
    | some κ =>
      rw [hc] at e0
      dsimp only at e0
      obtain ⟨c0, c1, c2, c3, c4, c5, c6⟩ := (vc i hi16).2 κ hc
      have k4 := c6.2.2.2
      refine G_if_eq dMO_solve_52 (fun z => absurd (c0.symm.trans z) (by decide)) (fun _ => ?_)
      refine G_aload_n dMO_solve_55 rfl ?_
      refine G_getRs fMO_54 dMO_solve_56 hI.1.1 hI.1.r14 ?_
      refine G_iload dMO_solve_59 rfl ?_
      refine G_ialdN dMO_solve_61 hI.1.t14 hI.1.l14 (by decide) hi16 ?_
      rw [c5]
      refine G_iload_n dMO_solve_62 rfl ?_
      refine G_icmp_ne dMO_solve_63 (fun h1 => ?_) (fun h1 => ?_)
      · rw [if_neg (fun z => h1 (by rw [z]))] at e0
        exact nxt gi hO (by rw [e0]; exact hR)
      · have hz : κ.2.2.2.2 = k + 1 := (nI_eq (by omega) (by omega)).mp h1
        rw [if_pos hz] at e0
        have hcn : cnS cs (k + 1) (i + 1) = cnS cs (k + 1) i + 1 := by
          show cnS cs (k + 1) i + (match cs i with | some κ => if κ.2.2.2.2 = k + 1 then 1 else 0 | none => 0) = _
          rw [hc]; dsimp only; rw [if_pos hz]
        have hle := cnS_le (cs := cs) (s := k + 1) (i := i + 1) (16 - (i + 1))
        rw [show i + 1 + (16 - (i + 1)) = 16 by omega] at hle
        refine G_aload_n dMO_solve_66 rfl ?_
        refine G_iload dMO_solve_67 rfl ?_
        refine G_callV (As := [.int (nI i)]) (rest := []) gMO_solve_MO_soft lMO_149.1 lMO_149.2.1 lMO_149.2.2.1 lMO_149.2.2.2 dMO_solve_69 rfl (Nat.le_of_ble_eq_true rfl) hI.1.1 ⟨by decide, by decide⟩ (cMO_soft hI1 hR (by omega) hi16 hc) ?_
        rintro T1 g1 r1 _ ⟨e1, e2, rfl, h3, h4⟩
        cases e1.symm
        cases e2.symm
        refine G_st (st' := []) rfl ?_
        exact nxt g1 (hO.tr h3) (by rw [e0]; exact h4)
theorem sv_str {E : gE} {T : gT} {g0 : gI} {gr : gR} {m : Nat} {nb : Nat} {par : Nat → Option Nat} {kd : Nat → Int32} {hd : Nat → Bool} {li : Nat → Bool} {ct : Nat → Int32} {rk : Nat → Nat} {rks : Nat} {w : Int32} {h : Int32} {pl : Nat → Int32} {cs : Nat → Option K5} {fo : Option Nat} {pr : Option Nat} {ar : Nat → Nat → Bool} {co : Nat → Int32} {D : Nat → Bool} {F : Nat → Int32} {S : RS} {v1 v2 : Value} {Q : gQ} (hI : MInv T g0 gr m nb par kd hd li ct rk rks w h pl cs fo pr ar co D F) (hr : S.1 + 2 * cnS cs 1 16 + 2 * cnS cs 2 16 + 2 * cnS cs 3 16 ≤ 118) (kx : ∀ (gi : gI) (v4 : Value), SOff g0 gi m → RwIs gi m (msS S cs 3) → G E mMO_solve 84 [.ref m, v1, v2, .int (nI 4), v4] [] T gi gr 0 0 Q) : ∀ (n k : Nat), k + n = 3 → ∀ (gi : gI) (v4 : Value), SOff g0 gi m → RwIs gi m (msS S cs k) → G E mMO_solve 30 [.ref m, v1, v2, .int (nI (k + 1)), v4] [] T gi gr 0 0 Q := by
  have l1 : (msS S cs 1).1 ≤ S.1 + 2 * cnS cs 1 16 := mcS_len (S := S) (cs := cs) (s := 1) 16
  have l2 : (msS S cs 2).1 ≤ (msS S cs 1).1 + 2 * cnS cs 2 16 := mcS_len (S := msS S cs 1) (cs := cs) (s := 2) 16
  intro n
  induction n with
  | zero =>
    intro k hk gi v4 hO hR
    have : k = 3 := by omega
    subst this
    refine G_iload_n dMO_solve_30 rfl ?_
    refine G_iconst (v := 4) dMO_solve_31 (by decide) ?_
    exact G_icmp_ge dMO_solve_32 (fun _ => kx gi v4 hO hR) (fun z => absurd (by decide +kernel) z)
  | succ n ih =>
    intro k hk gi v4 hO hR
    refine G_iload_n dMO_solve_30 rfl ?_
    refine G_iconst (v := nI 4) dMO_solve_31 (by decide +kernel) ?_
    refine G_icmp_ge dMO_solve_32 (fun q => absurd q (nI_ge (by omega) (by decide))) (fun _ => ?_)
    refine G_iconst (v := nI 0) dMO_solve_35 (by decide +kernel) ?_
    refine G_istore (ls' := [.ref m, v1, v2, .int (nI (k + 1)), .int (nI 0)]) dMO_solve_36 (by decide) rfl ?_
    refine sv_con (S := msS S cs k) hI ?_ (by omega) (fun g1 h1 h2 => ?_) 16 0 rfl gi hO hR
    · have : k = 0 ∨ k = 1 ∨ k = 2 := by omega
      rcases this with rfl | rfl | rfl
      · show S.1 + 2 * cnS cs 1 16 ≤ 118; omega
      · show (msS S cs 1).1 + 2 * cnS cs 2 16 ≤ 118; omega
      · show (msS S cs 2).1 + 2 * cnS cs 3 16 ≤ 118; omega
    · refine G_iinc (ls' := [.ref m, v1, v2, .int (nI (k + 1 + 1)), .int (nI 16)]) dMO_solve_78 rfl (nI_inc (k + 1)) (by decide) rfl ?_
      refine G_goto dMO_solve_81 ?_
      exact ih (k + 1) (by omega) g1 _ h1 h2
theorem sv_fnd {E : gE} {T : gT} {g0 : gI} {gr : gR} {m : Nat} {nb : Nat} {par : Nat → Option Nat} {kd : Nat → Int32} {hd : Nat → Bool} {li : Nat → Bool} {ct : Nat → Int32} {rk : Nat → Nat} {rks : Nat} {w : Int32} {h : Int32} {pl : Nat → Int32} {cs : Nat → Option K5} {fo : Option Nat} {pr : Option Nat} {ar : Nat → Nat → Bool} {co : Nat → Int32} {D : Nat → Bool} {F : Nat → Int32} {S : RS} {v1 v2 : Value} {Q : gQ} (hI : MInv T g0 gr m nb par kd hd li ct rk rks w h pl cs fo pr ar co D F) (hr : S.1 ≤ 70) (kx : ∀ (gi : gI) (v4 : Value), MOff g0 gi m → MInv T gi gr m nb par kd hd li ct rk rks w h pl cs fo pr ar co D F → (∀ j, j < 4 * nb → gi (m + 8) j = meD S pl j) → G E mMO_solve 123 [.ref m, v1, v2, .int (nI (4 * nb)), v4] [] T gi gr 0 0 Q) : ∀ (n e : Nat), e + n = 4 * nb → ∀ (gi : gI) (v4 : Value), MOff g0 gi m → MInv T gi gr m nb par kd hd li ct rk rks w h pl cs fo pr ar co D F → RwIs gi m (meS S pl e) → (∀ j, j < e → gi (m + 8) j = meD S pl j) → G E mMO_solve 86 [.ref m, v1, v2, .int (nI e), v4] [] T gi gr 0 0 Q := by
  have h6 : nb ≤ 6 := hI.2.2.1.1.2
  intro n
  induction n with
  | zero =>
    intro e he gi v4 hO hI1 hR hF
    have : e = 4 * nb := by omega
    subst this
    have v0 := hI1.2.1
    refine G_iload_n dMO_solve_86 rfl ?_
    refine G_iconst (v := 4) dMO_solve_87 (by decide) ?_
    refine G_aload_n dMO_solve_88 rfl ?_
    refine G_getI fMO_7 dMO_solve_89 hI.1.1 ?_
    rw [v0.1]
    refine G_imul dMO_solve_92 ?_
    rw [nI_4x]
    exact G_icmp_ge dMO_solve_93 (fun _ => kx gi v4 hO hI1 hF) (fun z => absurd (nI_le (Nat.le_refl _) (by omega)) z)
  | succ n ih =>
    intro e he gi v4 hO hI1 hR hF
    have hl := meS_len (S := S) (pl := pl) e
    have v0 := hI1.2.1
    refine G_iload_n dMO_solve_86 rfl ?_
    refine G_iconst (v := 4) dMO_solve_87 (by decide) ?_
    refine G_aload_n dMO_solve_88 rfl ?_
    refine G_getI fMO_7 dMO_solve_89 hI.1.1 ?_
    rw [v0.1]
    refine G_imul dMO_solve_92 ?_
    rw [nI_4x]
    refine G_icmp_ge dMO_solve_93 (fun q => absurd q (nI_ge (by omega) (by omega))) (fun _ => ?_)
    refine G_aload_n dMO_solve_96 rfl ?_
    refine G_getRs fMO_36 dMO_solve_97 hI.1.1 hI.1.r8 ?_
    refine G_iload_n dMO_solve_100 rfl ?_
    refine G_aload_n dMO_solve_101 rfl ?_
    refine G_iload_n dMO_solve_102 rfl ?_
    refine G_iload_n dMO_solve_103 rfl ?_
    refine G_callS (As := [.int (nI e)]) (rest := [.int (nI e), .ref m, .int (nI e), .ref (m + 8)]) gMO_solve_MO_origin lMO_146.1 lMO_146.2 dMO_solve_104 rfl (Nat.le_of_ble_eq_true rfl) ⟨by decide, by decide⟩ cMO_origin ?_
    refine same4 ?_
    refine G_st (st' := [.int (nI (ogN e)), .int (nI e), .ref m, .int (nI e), .ref (m + 8)]) (by rw [og_dec e (by omega)]; rfl) ?_
    refine G_aload_n dMO_solve_107 rfl ?_
    refine G_getRs fMO_33 dMO_solve_108 hI.1.1 hI.1.r7 ?_
    refine G_iload_n dMO_solve_111 rfl ?_
    refine G_ialdN dMO_solve_112 hI.1.t7 hI.1.l7 (by decide) (by omega) ?_
    rw [hI1.2.2.2.2.2.2.2.2.2.1 e (by omega)]
    refine G_callV (As := [.int (nI e), .int (nI (ogN e)), .int (pl e)]) (rest := [.int (nI e), .ref (m + 8)]) gMO_solve_MO_settle lMO_136.1 lMO_136.2.1 lMO_136.2.2.1 lMO_136.2.2.2 dMO_solve_113 rfl (Nat.le_of_ble_eq_true rfl) hI.1.1 ⟨by decide, by decide⟩ (cMO_settle hI1 hR (by omega) (by omega) (ogN_lt e)) ?_
    rintro T1 g1 r1 _ ⟨e1, e2, rfl, h3, h4⟩
    cases e1.symm
    cases e2.symm
    refine G_st (st' := [.int (meD S pl e), .int (nI e), .ref (m + 8)]) rfl ?_
    refine G_iastN dMO_solve_116 hI.1.t8 hI.1.l8 (by decide) (by omega) ?_
    refine G_iinc (ls' := [.ref m, v1, v2, .int (nI (e + 1)), v4]) dMO_solve_117 rfl (nI_inc e) (by decide) rfl ?_
    refine G_goto dMO_solve_120 ?_
    have hI2 := hI1.so h3
    refine ih (e + 1) (by omega) _ v4 (MOff.gu (hO.tr h3.mo) (by omega)) (hI2.sx (fun a h1 h2 _ => gu_off h2) (fun k _ => by rw [gu_off (by omega)])) ⟨by rw [gu_off (by omega)]; exact h4.1, h4.2.1, fun k hk => by rw [gu_off (by omega), gu_off (by omega), gu_off (by omega)]; exact h4.2.2 k hk⟩ (fun j hj => ?_)
    rw [gu_row]
    by_cases c : j = e
    · subst c; rw [if_pos rfl]
    · rw [if_neg c, h3.1 (m + 8) (by omega) (by omega)]; exact hF j (by omega)
theorem sv_cpy {E : gE} {T : gT} {g0 : gI} {gr : gR} {m : Nat} {nb : Nat} {par : Nat → Option Nat} {kd : Nat → Int32} {hd : Nat → Bool} {li : Nat → Bool} {ct : Nat → Int32} {rk : Nat → Nat} {rks : Nat} {w : Int32} {h : Int32} {pl : Nat → Int32} {cs : Nat → Option K5} {fo : Option Nat} {pr : Option Nat} {ar : Nat → Nat → Bool} {co : Nat → Int32} {D : Nat → Bool} {F : Nat → Int32} {P : Nat → Int32} {v1 v2 v4 : Value} {Q : gQ} (hk0 : MOk T gr m) (h6 : nb ≤ 6) (kx : ∀ gi : gI, MOff g0 gi m → MInv T gi gr m nb par kd hd li ct rk rks w h (fun j => if j < 4 * nb then P j else pl j) cs fo pr ar co D F → Q T gi gr (some (.int 1))) : ∀ (n e : Nat), e + n = 4 * nb → ∀ gi : gI, MOff g0 gi m → MInv T gi gr m nb par kd hd li ct rk rks w h (fun j => if j < e then P j else pl j) cs fo pr ar co D F → (∀ j, j < 4 * nb → gi (m + 8) j = P j) → G E mMO_solve 125 [.ref m, v1, v2, .int (nI e), v4] [] T gi gr 0 0 Q := by
  intro n
  induction n with
  | zero =>
    intro e he gi hO hI hF
    have : e = 4 * nb := by omega
    subst this
    refine G_iload_n dMO_solve_125 rfl ?_
    refine G_iconst (v := 4) dMO_solve_126 (by decide) ?_
    refine G_aload_n dMO_solve_127 rfl ?_
    refine G_getI fMO_7 dMO_solve_128 hI.1.1 ?_
    rw [hI.2.1.1]
    refine G_imul dMO_solve_131 ?_
    rw [nI_4x]
    refine G_icmp_ge dMO_solve_132 (fun _ => ?_) (fun z => absurd (nI_le (Nat.le_refl _) (by omega)) z)
    refine G_iconst (v := 1) dMO_solve_153 (by decide) ?_
    exact G_ireturn dMO_solve_154 rfl (nr_z (by decide)) (by decide) (by decide) (kx gi hO hI)
  | succ n ih =>
    intro e he gi hO hI hF
    refine G_iload_n dMO_solve_125 rfl ?_
    refine G_iconst (v := 4) dMO_solve_126 (by decide) ?_
    refine G_aload_n dMO_solve_127 rfl ?_
    refine G_getI fMO_7 dMO_solve_128 hI.1.1 ?_
    rw [hI.2.1.1]
    refine G_imul dMO_solve_131 ?_
    rw [nI_4x]
    refine G_icmp_ge dMO_solve_132 (fun q => absurd q (nI_ge (by omega) (by omega))) (fun _ => ?_)
    refine G_aload_n dMO_solve_135 rfl ?_
    refine G_getRs fMO_33 dMO_solve_136 hI.1.1 hI.1.r7 ?_
    refine G_iload_n dMO_solve_139 rfl ?_
    refine G_aload_n dMO_solve_140 rfl ?_
    refine G_getRs fMO_36 dMO_solve_141 hI.1.1 hI.1.r8 ?_
    refine G_iload_n dMO_solve_144 rfl ?_
    refine G_ialdN dMO_solve_145 hI.1.t8 hI.1.l8 (by decide) (by omega) ?_
    rw [hF e (by omega)]
    refine G_iastN dMO_solve_146 hI.1.t7 hI.1.l7 (by decide) (by omega) ?_
    refine G_iinc (ls' := [.ref m, v1, v2, .int (nI (e + 1)), v4]) dMO_solve_147 rfl (nI_inc e) (by decide) rfl ?_
    refine G_goto dMO_solve_150 ?_
    refine ih (e + 1) (by omega) _ (hO.gu (by omega)) (hI.s7 (fun a ha => gu_off ha) (fun j hj => ?_)) (fun j hj => by rw [gu_off (by omega)]; exact hF j hj)
    rw [gu_row]
    by_cases c : j = e
    · subst c; rw [if_pos rfl, if_pos (by omega)]
    · rw [if_neg c, hI.2.2.2.2.2.2.2.2.2.1 j hj]
      dsimp only
      by_cases d : j < e
      · rw [if_pos d, if_pos (by omega)]
      · rw [if_neg d, if_neg (by omega)]
theorem cMO_solve {E : gE} {T : gT} {gi : gI} {gr : gR} {m : Nat} {nb : Nat} {par : Nat → Option Nat} {kd : Nat → Int32} {hd : Nat → Bool} {li : Nat → Bool} {ct : Nat → Int32} {rk : Nat → Nat} {rks : Nat} {w : Int32} {h : Int32} {pl : Nat → Int32} {cs : Nat → Option K5} {fo : Option Nat} {pr : Option Nat} {ar : Nat → Nat → Bool} {co : Nat → Int32} {D : Nat → Bool} {F : Nat → Int32} {q : Option Nat} {x : Int32} (hI : MInv T gi gr m nb par kd hd li ct rk rks w h pl cs fo pr ar co D F) (hq : ∀ e, q = some e → e < 24) : Ct E mMO_solve [.ref m, .int (noI q), .int x] T gi gr (fun T' gi' gr' v => T' = T ∧ gr' = gr ∧ MOff gi gi' m ∧ (cfM (rqM w h nb cs) = true ∧ v = some (.int 0) ∧ MInv T gi' gr m nb par kd hd li ct rk rks w h pl cs fo pr ar co D F ∨ cfM (rqM w h nb cs) = false ∧ v = some (.int 1) ∧ MInv T gi' gr m nb par kd hd li ct rk rks w h (slP w h nb cs pl q x) cs fo pr ar co D F)) := by
  have h6 : nb ≤ 6 := hI.2.2.1.1.2
  have hcn := cnS_sum (cs := cs) 16
  have hl0 := slS0_len (w := w) (h := h) (nb := nb) (cs := cs) (q := q) (x := x)
  have hlr := rqM_len (w := w) (h := h) (nb := nb) (cs := cs)
  generalize hQ : (fun (T' : gT) (gi' : gI) (gr' : gR) (v : Option Value) => T' = T ∧ gr' = gr ∧ MOff gi gi' m ∧ (cfM (rqM w h nb cs) = true ∧ v = some (.int 0) ∧ MInv T gi' gr m nb par kd hd li ct rk rks w h pl cs fo pr ar co D F ∨ cfM (rqM w h nb cs) = false ∧ v = some (.int 1) ∧ MInv T gi' gr m nb par kd hd li ct rk rks w h (slP w h nb cs pl q x) cs fo pr ar co D F)) = QQ
  refine Ct_of (ls := [.ref m, .int (noI q), .int x, .long 0, .long 0]) (by decide) (gcat_cons rfl (gcat_cons rfl (gcat_cons rfl gcat_nil))) (Nat.le_of_ble_eq_true rfl) rfl ?_
  refine G_aload_n dMO_solve_0 rfl ?_
  refine G_callV (As := []) (rest := []) gMO_solve_MO_required lMO_140.1 lMO_140.2.1 lMO_140.2.2.1 lMO_140.2.2.2 dMO_solve_1 rfl (Nat.le_of_ble_eq_true rfl) hI.1.1 ⟨by decide, by decide⟩ (cMO_required hI) ?_
  rintro T1 g1 r1 _ ⟨e1, e2, rfl, h1, h2⟩
  cases e1.symm
  cases e2.symm
  refine G_st (st' := []) rfl ?_
  have hI1 := hI.so h1
  refine G_aload_n dMO_solve_4 rfl ?_
  refine G_callV (As := []) (rest := []) gMO_solve_MO_conflict lMO_143.1 lMO_143.2.1 lMO_143.2.2.1 lMO_143.2.2.2 dMO_solve_5 rfl (Nat.le_of_ble_eq_true rfl) hI.1.1 ⟨by decide, by decide⟩ (cMO_conflict hI1 h2) ?_
  rintro T1 g2 r1 _ ⟨e1, e2, rfl, h3, h4⟩
  cases e1.symm
  cases e2.symm
  refine G_st (st' := [.int (bI (cfM (rqM w h nb cs)))]) rfl ?_
  have hO2 := h1.tr h3
  have hI2 := hI.so hO2
  refine G_if_eq dMO_solve_8 (fun h5 => ?_) (fun h5 => ?_)
  · have hcf := bI_z.mp h5
    have rest : ∀ g3, SOff gi g3 m → RwIs g3 m (slS0 w h nb cs q x) → G E mMO_solve 28 [.ref m, .int (noI q), .int x, .long 0, .long 0] [] T g3 gr 0 0 QQ := by
      intro g3 hO3 hR3
      refine G_iconst (v := nI 1) dMO_solve_28 (by decide +kernel) ?_
      refine G_istore_n (ls' := [.ref m, .int (noI q), .int x, .int (nI (0 + 1)), .long 0]) dMO_solve_29 (by decide) rfl ?_
      refine sv_str (S := slS0 w h nb cs q x) hI (by omega) (fun g4 v4 hO4 hR4 => ?_) 3 0 rfl g3 _ hO3 hR3
      have l1 : (msS (slS0 w h nb cs q x) cs 1).1 ≤ (slS0 w h nb cs q x).1 + 2 * cnS cs 1 16 := mcS_len (S := slS0 w h nb cs q x) (cs := cs) (s := 1) 16
      have l2 : (msS (slS0 w h nb cs q x) cs 2).1 ≤ (msS (slS0 w h nb cs q x) cs 1).1 + 2 * cnS cs 2 16 := mcS_len (S := msS (slS0 w h nb cs q x) cs 1) (cs := cs) (s := 2) 16
      have l3 : (msS (slS0 w h nb cs q x) cs 3).1 ≤ (msS (slS0 w h nb cs q x) cs 2).1 + 2 * cnS cs 3 16 := mcS_len (S := msS (slS0 w h nb cs q x) cs 2) (cs := cs) (s := 3) 16
      refine G_iconst (v := nI 0) dMO_solve_84 (by decide +kernel) ?_
      refine G_istore_n (ls' := [.ref m, .int (noI q), .int x, .int (nI 0), v4]) dMO_solve_85 (by decide) rfl ?_
      refine sv_fnd (S := msS (slS0 w h nb cs q x) cs 3) hI (by omega) (fun g5 w4 hO5 hI5 hF5 => ?_) (4 * nb) 0 (by omega) g4 _ hO4.mo (hI.so hO4) hR4 (fun j hj => absurd hj (Nat.not_lt_zero _))
      refine G_iconst (v := nI 0) dMO_solve_123 (by decide +kernel) ?_
      refine G_istore_n (ls' := [.ref m, .int (noI q), .int x, .int (nI 0), w4]) dMO_solve_124 (by decide) rfl ?_
      refine sv_cpy (par := par) (kd := kd) (hd := hd) (li := li) (ct := ct) (rk := rk) (rks := rks) (w := w) (h := h) (pl := pl) (cs := cs) (fo := fo) (pr := pr) (ar := ar) (co := co) (D := D) (F := F) (P := meD (msS (slS0 w h nb cs q x) cs 3) pl) hI.1 h6 (fun g6 hO6 hI6 => ?_) (4 * nb) 0 (by omega) g5 hO5 ?_ hF5
      · subst hQ
        exact ⟨rfl, rfl, hO6, Or.inr ⟨hcf, rfl, hI6⟩⟩
      · refine hI5.s7 (fun _ _ => rfl) (fun j hj => ?_)
        rw [hI5.2.2.2.2.2.2.2.2.2.1 j hj]
        (try dsimp only)
        rw [if_neg (by omega)]
    refine G_iload_n dMO_solve_13 rfl ?_
    cases q with
    | none =>
      exact G_if_lt dMO_solve_14 (fun _ => rest g2 hO2 h4) (fun z => absurd noI_neg z)
    | some e =>
      have he := hq e rfl
      refine G_if_lt dMO_solve_14 (fun z => absurd z (nI_pos (by omega))) (fun _ => ?_)
      refine G_aload_n dMO_solve_17 rfl ?_
      refine G_iload_n dMO_solve_18 rfl ?_
      refine G_iload_n dMO_solve_19 rfl ?_
      refine G_callS (As := [.int (nI e)]) (rest := [.int (nI e), .ref m]) gMO_solve_MO_origin lMO_146.1 lMO_146.2 dMO_solve_20 rfl (Nat.le_of_ble_eq_true rfl) ⟨by decide, by decide⟩ cMO_origin ?_
      refine same4 ?_
      refine G_st (st' := [.int (nI (ogN e)), .int (nI e), .ref m]) (by rw [og_dec e (by omega)]; rfl) ?_
      refine G_iload_n dMO_solve_23 rfl ?_
      refine G_callV (As := [.int (nI e), .int (nI (ogN e)), .int x]) (rest := []) gMO_solve_MO_settle lMO_136.1 lMO_136.2.1 lMO_136.2.2.1 lMO_136.2.2.2 dMO_solve_24 rfl (Nat.le_of_ble_eq_true rfl) hI.1.1 ⟨by decide, by decide⟩ (cMO_settle hI2 h4 (by omega) (by omega) (ogN_lt e)) ?_
      rintro T1 g3 r1 _ ⟨e1, e2, rfl, h7, h8⟩
      cases e1.symm
      cases e2.symm
      refine G_st (st' := [.int (stD (rqM w h nb cs) e (ogN e) x)]) rfl ?_
      refine G_pop dMO_solve_27 rfl ?_
      exact rest g3 (hO2.tr h7) h8
  · refine G_iconst (v := 0) dMO_solve_11 (by decide) ?_
    subst hQ
    exact G_ireturn dMO_solve_12 rfl (nr_z (by decide)) (by decide) (by decide) ⟨rfl, rfl, hO2.mo, Or.inl ⟨bt h5, rfl, hI2⟩⟩
