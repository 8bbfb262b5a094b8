def stD (S : RS) (p q : Nat) (c : Int32) : Int32 := nearI c (-(mostM S p q)) (mostM S q p)
def stS2 (S : RS) (p q : Nat) (c : Int32) : RS := exA S p q (stD S p q c)
theorem cMO_settle {E : gE} {T : gT} {gi : gI} {gr : gR} {m : Nat} {nb : Nat} {par : Nat → Option Nat} {kd : Nat → Int32} {hd : Nat → Bool} {li : Nat → Bool} {ct : Nat → Int32} {rk : Nat → Nat} {rks : Nat} {w : Int32} {h : Int32} {pl : Nat → Int32} {cs : Nat → Option K5} {fo : Option Nat} {pr : Option Nat} {ar : Nat → Nat → Bool} {co : Nat → Int32} {D : Nat → Bool} {F : Nat → Int32} {S : RS} {p q : Nat} {x : Int32} (hI : MInv T gi gr m nb par kd hd li ct rk rks w h pl cs fo pr ar co D F) (hR : RwIs gi m S) (hr : S.1 + 1 < 120) (hp : p < 24) (hq : q < 24) : Ct E mMO_settle [.ref m, .int (nI p), .int (nI q), .int x] T gi gr (fun T' gi' gr' v => T' = T ∧ gr' = gr ∧ v = some (.int (stD S p q x)) ∧ SOff gi gi' m ∧ RwIs gi' m (stS2 S p q x)) := by
  refine Ct_of (ls := [.ref m, .int (nI p), .int (nI q), .int x, .long 0, .long 0, .long 0]) (by decide) (gcat_cons rfl (gcat_cons rfl (gcat_cons rfl (gcat_cons rfl gcat_nil)))) (Nat.le_of_ble_eq_true rfl) rfl ?_
  refine G_aload_n dMO_settle_0 rfl ?_
  refine G_iload_n dMO_settle_1 rfl ?_
  refine G_iload_n dMO_settle_2 rfl ?_
  refine G_callV (As := [.int (nI q), .int (nI p)]) (rest := []) gMO_settle_MO_most lMO_129.1 lMO_129.2.1 lMO_129.2.2.1 lMO_129.2.2.2 dMO_settle_3 rfl (Nat.le_of_ble_eq_true rfl) hI.1.1 ⟨by decide, by decide⟩ (cMO_most hI hR hq hp) ?_
  rintro T1 g1 r1 _ ⟨e1, e2, rfl, h1, h2⟩
  cases e1.symm
  cases e2.symm
  refine G_st (st' := [.int (mostM S q p)]) rfl ?_
  refine G_istore (ls' := [.ref m, .int (nI p), .int (nI q), .int x, .int (mostM S q p), .long 0, .long 0]) dMO_settle_6 (by decide) rfl ?_
  refine G_aload_n dMO_settle_8 rfl ?_
  refine G_iload_n dMO_settle_9 rfl ?_
  refine G_iload_n dMO_settle_10 rfl ?_
  refine G_callV (As := [.int (nI p), .int (nI q)]) (rest := []) gMO_settle_MO_most lMO_129.1 lMO_129.2.1 lMO_129.2.2.1 lMO_129.2.2.2 dMO_settle_11 rfl (Nat.le_of_ble_eq_true rfl) hI.1.1 ⟨by decide, by decide⟩ (cMO_most (hI.so h1) h2 hp hq) ?_
  rintro T1 g2 r1 _ ⟨e1, e2, rfl, h3, h4⟩
  cases e1.symm
  cases e2.symm
  refine G_st (st' := [.int (mostM S p q)]) rfl ?_
  refine G_ineg dMO_settle_14 ?_
  refine G_istore (ls' := [.ref m, .int (nI p), .int (nI q), .int x, .int (mostM S q p), .int (-(mostM S p q)), .long 0]) dMO_settle_15 (by decide) rfl ?_
  have fin : ∀ d, d = stD S p q x → G E mMO_settle 40 [.ref m, .int (nI p), .int (nI q), .int x, .int (mostM S q p), .int (-(mostM S p q)), .long 0] [.int d] T g2 gr 0 0 (fun T' gi' gr' v => T' = T ∧ gr' = gr ∧ v = some (.int (stD S p q x)) ∧ SOff gi gi' m ∧ RwIs gi' m (stS2 S p q x)) := by
    rintro d rfl
    refine G_istore (ls' := [.ref m, .int (nI p), .int (nI q), .int x, .int (mostM S q p), .int (-(mostM S p q)), .int (stD S p q x)]) dMO_settle_40 (by decide) rfl ?_
    refine G_aload_n dMO_settle_42 rfl ?_
    refine G_iload_n dMO_settle_43 rfl ?_
    refine G_iload_n dMO_settle_44 rfl ?_
    refine G_iload dMO_settle_45 rfl ?_
    refine G_callV (As := [.int (nI p), .int (nI q), .int (stD S p q x)]) (rest := []) gMO_settle_MO_exactly lMO_133.1 lMO_133.2.1 lMO_133.2.2.1 lMO_133.2.2.2 dMO_settle_47 rfl (Nat.le_of_ble_eq_true rfl) hI.1.1 ⟨by decide, by decide⟩ (cMO_exactly (hI.so (h1.tr h3)) h4 hr hp hq) ?_
    rintro T1 g3 r1 _ ⟨e1, e2, rfl, h5, h6⟩
    cases e1.symm
    cases e2.symm
    refine G_st (st' := []) rfl ?_
    refine G_iload dMO_settle_50 rfl ?_
    exact G_ireturn dMO_settle_52 rfl rfl (by decide) (by decide) ⟨rfl, rfl, rfl, (h1.tr h3).tr h5, h6⟩
  refine G_iload_n dMO_settle_17 rfl ?_
  refine G_iload dMO_settle_18 rfl ?_
  refine G_icmp_ge dMO_settle_20 (fun h5 => ?_) (fun h5 => ?_)
  · refine G_iload_n dMO_settle_28 rfl ?_
    refine G_iload dMO_settle_29 rfl ?_
    refine G_icmp_le dMO_settle_31 (fun h6 => ?_) (fun h6 => ?_)
    · refine G_iload_n dMO_settle_39 rfl ?_
      exact fin _ (by unfold stD nearI; rw [if_pos h5, if_pos h6])
    · refine G_iload dMO_settle_34 rfl ?_
      refine G_goto dMO_settle_36 ?_
      exact fin _ (by unfold stD nearI; rw [if_pos h5, if_neg h6])
  · refine G_iload dMO_settle_23 rfl ?_
    refine G_goto dMO_settle_25 ?_
    exact fin _ (by unfold stD nearI; rw [if_neg h5])
def sfE (S : RS) (κ : K5) : Int32 := if κ.2.2.1 ≤ mostM S κ.2.1 κ.1 then κ.2.2.1 else mostM S κ.2.1 κ.1
def sfM (S : RS) (κ : K5) : RS := if κ.2.2.2.1 = 0 then stS2 S κ.1 κ.2.1 κ.2.2.1 else atL S κ.1 κ.2.1 (sfE S κ)
theorem cMO_soft {E : gE} {T : gT} {gi : gI} {gr : gR} {m : Nat} {nb : Nat} {par : Nat → Option Nat} {kd : Nat → Int32} {hd : Nat → Bool} {li : Nat → Bool} {ct : Nat → Int32} {rk : Nat → Nat} {rks : Nat} {w : Int32} {h : Int32} {pl : Nat → Int32} {cs : Nat → Option K5} {fo : Option Nat} {pr : Option Nat} {ar : Nat → Nat → Bool} {co : Nat → Int32} {D : Nat → Bool} {F : Nat → Int32} {S : RS} {i : Nat} {κ : K5} (hI : MInv T gi gr m nb par kd hd li ct rk rks w h pl cs fo pr ar co D F) (hR : RwIs gi m S) (hr : S.1 + 1 < 120) (hi : i < 16) (hc : cs i = some κ) : Ct E mMO_soft [.ref m, .int (nI i)] T gi gr (fun T' gi' gr' v => T' = T ∧ gr' = gr ∧ v = none ∧ SOff gi gi' m ∧ RwIs gi' m (sfM S κ)) := by
  obtain ⟨-, c1, c2, c3, c4, c5, c6⟩ := (hI.2.2.2.2.2.2.2.2.2.2.1 i hi).2 κ hc
  have k1 := c6.1
  have k2 := c6.2.1
  have k3 := c6.2.2.1
  refine Ct_of (ls := [.ref m, .int (nI i), .long 0]) (by decide) (gcat_cons rfl (gcat_cons rfl gcat_nil)) (Nat.le_of_ble_eq_true rfl) rfl ?_
  refine G_aload_n dMO_soft_0 rfl ?_
  refine G_aload_n dMO_soft_1 rfl ?_
  refine G_getRs fMO_45 dMO_soft_2 hI.1.1 hI.1.r11 ?_
  refine G_iload_n dMO_soft_5 rfl ?_
  refine G_ialdN dMO_soft_6 hI.1.t11 hI.1.l11 (by decide) (by omega) ?_
  rw [c2]
  refine G_aload_n dMO_soft_7 rfl ?_
  refine G_getRs fMO_42 dMO_soft_8 hI.1.1 hI.1.r10 ?_
  refine G_iload_n dMO_soft_11 rfl ?_
  refine G_ialdN dMO_soft_12 hI.1.t10 hI.1.l10 (by decide) (by omega) ?_
  rw [c1]
  refine G_callV (As := [.int (nI κ.2.1), .int (nI κ.1)]) (rest := []) gMO_soft_MO_most lMO_129.1 lMO_129.2.1 lMO_129.2.2.1 lMO_129.2.2.2 dMO_soft_13 rfl (Nat.le_of_ble_eq_true rfl) hI.1.1 ⟨by decide, by decide⟩ (cMO_most hI hR k2 k1) ?_
  rintro T1 g1 r1 _ ⟨e1, e2, rfl, h1, h2⟩
  cases e1.symm
  cases e2.symm
  have hI1 := hI.so h1
  obtain ⟨-, c1, c2, c3, c4, c5, c6⟩ := (hI1.2.2.2.2.2.2.2.2.2.2.1 i hi).2 κ hc
  refine G_st (st' := [.int (mostM S κ.2.1 κ.1)]) rfl ?_
  refine G_istore_n (ls' := [.ref m, .int (nI i), .int (mostM S κ.2.1 κ.1)]) dMO_soft_16 (by decide) rfl ?_
  refine G_aload_n dMO_soft_17 rfl ?_
  refine G_getRs fMO_51 dMO_soft_18 hI.1.1 hI.1.r13 ?_
  refine G_iload_n dMO_soft_21 rfl ?_
  refine G_ialdN dMO_soft_22 hI.1.t13 hI.1.l13 (by decide) (by omega) ?_
  rw [c4]
  refine G_if_ne dMO_soft_23 (fun h3 => ?_) (fun h3 => ?_)
  · have hf : ¬ κ.2.2.2.1 = 0 := fun z => h3 ((nI_z (by omega)).mpr z)
    have fin : ∀ d, d = sfE S κ → G E mMO_soft 85 [.ref m, .int (nI i), .int (mostM S κ.2.1 κ.1)] [.int d, .int (nI κ.2.1), .int (nI κ.1), .ref m] T g1 gr 0 0 (fun T' gi' gr' v => T' = T ∧ gr' = gr ∧ v = none ∧ SOff gi gi' m ∧ RwIs gi' m (sfM S κ)) := by
      rintro d rfl
      refine G_callV (As := [.int (nI κ.1), .int (nI κ.2.1), .int (sfE S κ)]) (rest := []) gMO_soft_MO_atLeast lMO_121.1 lMO_121.2.1 lMO_121.2.2.1 lMO_121.2.2.2 dMO_soft_85 rfl (Nat.le_of_ble_eq_true rfl) hI.1.1 ⟨by decide, by decide⟩ (cMO_atLeast hI1 h2 (by omega) k1 k2) ?_
      rintro T1 g3 r1 _ ⟨e1, e2, rfl, h5, h6⟩
      cases e1.symm
      cases e2.symm
      refine G_st (st' := []) rfl ?_
      exact G_return dMO_soft_88 rfl (by decide) (by decide) ⟨rfl, rfl, rfl, h1.tr h5, by unfold sfM; rw [if_neg hf]; exact h6⟩
    refine G_aload_n dMO_soft_52 rfl ?_
    refine G_aload_n dMO_soft_53 rfl ?_
    refine G_getRs fMO_42 dMO_soft_54 hI.1.1 hI.1.r10 ?_
    refine G_iload_n dMO_soft_57 rfl ?_
    refine G_ialdN dMO_soft_58 hI.1.t10 hI.1.l10 (by decide) (by omega) ?_
    rw [c1]
    refine G_aload_n dMO_soft_59 rfl ?_
    refine G_getRs fMO_45 dMO_soft_60 hI.1.1 hI.1.r11 ?_
    refine G_iload_n dMO_soft_63 rfl ?_
    refine G_ialdN dMO_soft_64 hI.1.t11 hI.1.l11 (by decide) (by omega) ?_
    rw [c2]
    refine G_aload_n dMO_soft_65 rfl ?_
    refine G_getRs fMO_48 dMO_soft_66 hI.1.1 hI.1.r12 ?_
    refine G_iload_n dMO_soft_69 rfl ?_
    refine G_ialdN dMO_soft_70 hI.1.t12 hI.1.l12 (by decide) (by omega) ?_
    rw [c3]
    refine G_iload_n dMO_soft_71 rfl ?_
    refine G_icmp_le dMO_soft_72 (fun h4 => ?_) (fun h4 => ?_)
    · refine G_aload_n dMO_soft_79 rfl ?_
      refine G_getRs fMO_48 dMO_soft_80 hI.1.1 hI.1.r12 ?_
      refine G_iload_n dMO_soft_83 rfl ?_
      refine G_ialdN dMO_soft_84 hI.1.t12 hI.1.l12 (by decide) (by omega) ?_
      rw [c3]
      exact fin _ (by unfold sfE; rw [if_pos h4])
    · refine G_iload_n dMO_soft_75 rfl ?_
      refine G_goto dMO_soft_76 ?_
      exact fin _ (by unfold sfE; rw [if_neg h4])
  · have hf : κ.2.2.2.1 = 0 := (nI_z (by omega)).mp h3
    refine G_aload_n dMO_soft_26 rfl ?_
    refine G_aload_n dMO_soft_27 rfl ?_
    refine G_getRs fMO_42 dMO_soft_28 hI.1.1 hI.1.r10 ?_
    refine G_iload_n dMO_soft_31 rfl ?_
    refine G_ialdN dMO_soft_32 hI.1.t10 hI.1.l10 (by decide) (by omega) ?_
    rw [c1]
    refine G_aload_n dMO_soft_33 rfl ?_
    refine G_getRs fMO_45 dMO_soft_34 hI.1.1 hI.1.r11 ?_
    refine G_iload_n dMO_soft_37 rfl ?_
    refine G_ialdN dMO_soft_38 hI.1.t11 hI.1.l11 (by decide) (by omega) ?_
    rw [c2]
    refine G_aload_n dMO_soft_39 rfl ?_
    refine G_getRs fMO_48 dMO_soft_40 hI.1.1 hI.1.r12 ?_
    refine G_iload_n dMO_soft_43 rfl ?_
    refine G_ialdN dMO_soft_44 hI.1.t12 hI.1.l12 (by decide) (by omega) ?_
    rw [c3]
    refine G_callV (As := [.int (nI κ.1), .int (nI κ.2.1), .int κ.2.2.1]) (rest := []) gMO_soft_MO_settle lMO_136.1 lMO_136.2.1 lMO_136.2.2.1 lMO_136.2.2.2 dMO_soft_45 rfl (Nat.le_of_ble_eq_true rfl) hI.1.1 ⟨by decide, by decide⟩ (cMO_settle hI1 h2 hr k1 k2) ?_
    rintro T1 g3 r1 _ ⟨e1, e2, rfl, h5, h6⟩
    cases e1.symm
    cases e2.symm
    refine G_st (st' := [.int (stD S κ.1 κ.2.1 κ.2.2.1)]) rfl ?_
    refine G_pop dMO_soft_48 rfl ?_
    refine G_goto dMO_soft_49 ?_
    exact G_return dMO_soft_88 rfl (by decide) (by decide) ⟨rfl, rfl, rfl, h1.tr h5, by unfold sfM; rw [if_pos hf]; exact h6⟩
def rq0 (w h : Int32) : RS := exA (exA (0, fun _ => 0, fun _ => 0, fun _ => 0) 1 0 w) 3 2 h
def rqB (S : RS) : Nat → RS
  | 0 => S
  | b + 1 => atL (atL (rqB S b) (4 * b + 1) (4 * b) 0) (4 * b + 3) (4 * b + 2) 0
def rqK (S : RS) (κ : K5) : RS := if κ.2.2.2.1 = 0 then exA S κ.1 κ.2.1 κ.2.2.1 else atL S κ.1 κ.2.1 κ.2.2.1
def rqC (S : RS) (cs : Nat → Option K5) : Nat → RS
  | 0 => S
  | i + 1 => match cs i with
    | some κ => if κ.2.2.2.2 = 0 then rqK (rqC S cs i) κ else rqC S cs i
    | none => rqC S cs i
def rqM (w h : Int32) (nb : Nat) (cs : Nat → Option K5) : RS := rqC (rqB (rq0 w h) nb) cs 16
def cnS (cs : Nat → Option K5) (s : Nat) : Nat → Nat
  | 0 => 0
  | i + 1 => cnS cs s i + (match cs i with | some κ => if κ.2.2.2.2 = s then 1 else 0 | none => 0)
theorem cnS_sum {cs : Nat → Option K5} : ∀ i, cnS cs 0 i + cnS cs 1 i + cnS cs 2 i + cnS cs 3 i ≤ i
  | 0 => Nat.le_refl _
  | i + 1 => by
    have ih := cnS_sum (cs := cs) i
    unfold cnS
    cases hc : cs i with
    | none => dsimp only; omega
    | some κ =>
      dsimp only
      by_cases a0 : κ.2.2.2.2 = 0
      · rw [if_pos a0, if_neg (by omega), if_neg (by omega), if_neg (by omega)]; omega
      · rw [if_neg a0]
        by_cases a1 : κ.2.2.2.2 = 1
        · rw [if_pos a1, if_neg (by omega), if_neg (by omega)]; omega
        · rw [if_neg a1]
          by_cases a2 : κ.2.2.2.2 = 2
          · rw [if_pos a2, if_neg (by omega)]; omega
          · rw [if_neg a2]; split <;> omega
theorem cnS_le {cs : Nat → Option K5} {s i : Nat} : ∀ d, cnS cs s i ≤ cnS cs s (i + d)
  | 0 => Nat.le_refl _
  | d + 1 => by
    have ih := cnS_le (cs := cs) (s := s) (i := i) d
    have e : cnS cs s (i + (d + 1)) = cnS cs s (i + d) + (match cs (i + d) with | some κ => if κ.2.2.2.2 = s then 1 else 0 | none => 0) := rfl
    omega
theorem rqB_len {S : RS} : ∀ b, (rqB S b).1 = S.1 + 2 * b
  | 0 => rfl
  | b + 1 => by
    show (rqB S b).1 + 1 + 1 = _
    rw [rqB_len b]; omega
theorem rqK_len {S : RS} {κ : K5} : (rqK S κ).1 ≤ S.1 + 2 := by
  unfold rqK
  split
  · exact Nat.le_refl _
  · exact Nat.le_succ _
theorem rqC_len {S : RS} {cs : Nat → Option K5} : ∀ i, (rqC S cs i).1 ≤ S.1 + 2 * cnS cs 0 i
  | 0 => Nat.le_refl _
  | i + 1 => by
    have ih := rqC_len (S := S) (cs := cs) i
    unfold rqC cnS
    cases hc : cs i with
    | none => dsimp only; omega
    | some κ =>
      dsimp only
      by_cases a0 : κ.2.2.2.2 = 0
      · rw [if_pos a0, if_pos a0]; have := rqK_len (S := rqC S cs i) (κ := κ); omega
      · rw [if_neg a0, if_neg a0]; omega
theorem rq_box {E : gE} {T : gT} {g0 : gI} {gr : gR} {m : Nat} {nb : Nat} {par : Nat → Option Nat} {kd : Nat → Int32} {hd : Nat → Bool} {li : Nat → Bool} {ct : Nat → Int32} {rk : Nat → Nat} {rks : Nat} {w : Int32} {h : Int32} {pl : Nat → Int32} {cs : Nat → Option K5} {fo : Option Nat} {pr : Option Nat} {ar : Nat → Nat → Bool} {co : Nat → Int32} {D : Nat → Bool} {F : Nat → Int32} {S : RS} {Q : gQ} (hI : MInv T g0 gr m nb par kd hd li ct rk rks w h pl cs fo pr ar co D F) (hr : S.1 ≤ 4) (kx : ∀ gi : gI, SOff g0 gi m → RwIs gi m (rqB S nb) → G E mMO_required 69 [.ref m, .int (nI nb)] [] T gi gr 0 0 Q) : ∀ (n b : Nat), b + n = nb → ∀ gi : gI, SOff g0 gi m → RwIs gi m (rqB S b) → G E mMO_required 27 [.ref m, .int (nI b)] [] T gi gr 0 0 Q := by
  have h6 : nb ≤ 6 := hI.2.2.1.1.2
  intro n
  induction n with
  | zero =>
    intro b hb gi hO hR
    have : b = nb := by omega
    subst this
    have v0 := (hI.so hO).2.1
    refine G_iload_n dMO_required_27 rfl ?_
    refine G_aload_n dMO_required_28 rfl ?_
    refine G_getI fMO_7 dMO_required_29 hI.1.1 ?_
    rw [v0.1]
    exact G_icmp_ge dMO_required_32 (fun _ => kx gi hO hR) (fun z => absurd (nI_le (Nat.le_refl _) (by omega)) z)
  | succ n ih =>
    intro b hb gi hO hR
    have hl := rqB_len (S := S) b
    have hI1 := hI.so hO
    have v0 := hI1.2.1
    refine G_iload_n dMO_required_27 rfl ?_
    refine G_aload_n dMO_required_28 rfl ?_
    refine G_getI fMO_7 dMO_required_29 hI.1.1 ?_
    rw [v0.1]
    refine G_icmp_ge dMO_required_32 (fun z => absurd z (nI_ge (by omega) (by omega))) (fun _ => ?_)
    refine G_aload_n dMO_required_35 rfl ?_
    refine G_iconst (v := 4) dMO_required_36 (by decide) ?_
    refine G_iload_n dMO_required_37 rfl ?_
    refine G_imul dMO_required_38 ?_
    refine G_iconst (v := 1) dMO_required_39 (by decide) ?_
    refine G_iadd dMO_required_40 ?_
    refine G_iconst (v := 4) dMO_required_41 (by decide) ?_
    refine G_iload_n dMO_required_42 rfl ?_
    refine G_imul dMO_required_43 ?_
    refine G_iconst (v := 0) dMO_required_44 (by decide) ?_
    refine G_st (st' := [.int 0, .int (nI (4 * b)), .int (nI (4 * b + 1)), .ref m]) (by rw [nI_4x, nI_p1]) ?_
    refine G_callV (As := [.int (nI (4 * b + 1)), .int (nI (4 * b)), .int 0]) (rest := []) gMO_required_MO_atLeast lMO_121.1 lMO_121.2.1 lMO_121.2.2.1 lMO_121.2.2.2 dMO_required_45 rfl (Nat.le_of_ble_eq_true rfl) hI.1.1 ⟨by decide, by decide⟩ (cMO_atLeast hI1 hR (by omega) (by omega) (by omega)) ?_
    rintro T1 g1 r1 _ ⟨e1, e2, rfl, h1, h2⟩
    cases e1.symm
    cases e2.symm
    refine G_st (st' := []) rfl ?_
    refine G_aload_n dMO_required_48 rfl ?_
    refine G_iconst (v := 4) dMO_required_49 (by decide) ?_
    refine G_iload_n dMO_required_50 rfl ?_
    refine G_imul dMO_required_51 ?_
    refine G_iconst (v := 3) dMO_required_52 (by decide) ?_
    refine G_iadd dMO_required_53 ?_
    refine G_iconst (v := 4) dMO_required_54 (by decide) ?_
    refine G_iload_n dMO_required_55 rfl ?_
    refine G_imul dMO_required_56 ?_
    refine G_iconst (v := 2) dMO_required_57 (by decide) ?_
    refine G_iadd dMO_required_58 ?_
    refine G_iconst (v := 0) dMO_required_59 (by decide) ?_
    refine G_st (st' := [.int 0, .int (nI (4 * b + 2)), .int (nI (4 * b + 3)), .ref m]) (by rw [nI_4x, nI_p2, nI_p3]) ?_
    refine G_callV (As := [.int (nI (4 * b + 3)), .int (nI (4 * b + 2)), .int 0]) (rest := []) gMO_required_MO_atLeast lMO_121.1 lMO_121.2.1 lMO_121.2.2.1 lMO_121.2.2.2 dMO_required_60 rfl (Nat.le_of_ble_eq_true rfl) hI.1.1 ⟨by decide, by decide⟩ (cMO_atLeast (hI1.so h1) h2 (show (rqB S b).1 + 1 < 120 by omega) (by omega) (by omega)) ?_
    rintro T1 g2 r1 _ ⟨e1, e2, rfl, h3, h4⟩
    cases e1.symm
    cases e2.symm
    refine G_st (st' := []) rfl ?_
    refine G_iinc (ls' := [.ref m, .int (nI (b + 1))]) dMO_required_63 rfl (nI_inc b) (by decide) rfl ?_
    refine G_goto dMO_required_66 ?_
    exact ih (b + 1) (by omega) g2 ((hO.tr h1).tr h3) h4
theorem rq_con {E : gE} {T : gT} {g0 : gI} {gr : gR} {m : Nat} {nb : Nat} {par : Nat → Option Nat} {kd : Nat → Int32} {hd : Nat → Bool} {li : Nat → Bool} {ct : Nat → Int32} {rk : Nat → Nat} {rks : Nat} {w : Int32} {h : Int32} {pl : Nat → Int32} {cs : Nat → Option K5} {fo : Option Nat} {pr : Option Nat} {ar : Nat → Nat → Bool} {co : Nat → Int32} {D : Nat → Bool} {F : Nat → Int32} {S : RS} {Q : gQ} (hI : MInv T g0 gr m nb par kd hd li ct rk rks w h pl cs fo pr ar co D F) (hr : S.1 ≤ 16) (kx : ∀ gi : gI, SOff g0 gi m → RwIs gi m (rqC S cs 16) → Q T gi gr none) : ∀ (n i : Nat), i + n = 16 → ∀ gi : gI, SOff g0 gi m → RwIs gi m (rqC S cs i) → G E mMO_required 71 [.ref m, .int (nI i)] [] T gi gr 0 0 Q := by
  intro n
  induction n with
  | zero =>
    intro i hi gi hO hR
    have : i = 16 := by omega
    subst this
    refine G_iload_n dMO_required_71 rfl ?_
    refine G_bipush (v := 16) dMO_required_72 (by decide) ?_
    refine G_icmp_ge dMO_required_74 (fun _ => ?_) (fun z => absurd (by decide +kernel) z)
    exact G_return dMO_required_160 rfl (by decide) (by decide) (kx gi hO hR)
  | succ n ih =>
    intro i hi gi hO hR
    have hi16 : i < 16 := by omega
    have hl := rqC_len (S := S) (cs := cs) i
    have hs := cnS_sum (cs := cs) i
    have hI1 := hI.so hO
    have vc := hI1.2.2.2.2.2.2.2.2.2.2.1
    have nxt : ∀ gi : gI, SOff g0 gi m → RwIs gi m (rqC S cs (i + 1)) → G E mMO_required 154 [.ref m, .int (nI i)] [] T gi gr 0 0 Q := by
      intro gi hO hR
      refine G_iinc (ls' := [.ref m, .int (nI (i + 1))]) dMO_required_154 rfl (nI_inc i) (by decide) rfl ?_
      refine G_goto dMO_required_157 ?_
      exact ih (i + 1) (by omega) gi hO hR
    have e0 : rqC S cs (i + 1) = match cs i with | some κ => if κ.2.2.2.2 = 0 then rqK (rqC S cs i) κ else rqC S cs i | none => rqC S cs i := rfl
    refine G_iload_n dMO_required_71 rfl ?_
    refine G_bipush (v := 16) dMO_required_72 (by decide) ?_
    refine G_icmp_ge dMO_required_74 (fun q => absurd q (nI_ge (b := 16) hi16 (by decide))) (fun _ => ?_)
    refine G_aload_n dMO_required_77 rfl ?_
    refine G_getRs fMO_39 dMO_required_78 hI.1.1 hI.1.r9 ?_
    refine G_iload_n dMO_required_81 rfl ?_
    refine G_zaldN dMO_required_82 hI.1.t9 hI.1.l9 (by decide) hi16 ?_
    cases hc : cs i with
    | none =>
      rw [hc] at e0
      dsimp only at e0
      exact G_if_eq dMO_required_83 (fun _ => nxt gi hO (by rw [e0]; exact hR)) (fun z => absurd ((vc i hi16).1 hc) z)
    | some κ =>
      rw [hc] at e0
      dsimp only at e0
      obtain ⟨c0, c1, c2, c3, c4, c5, c6⟩ := (vc i hi16).2 κ hc
      have k1 := c6.1
      have k2 := c6.2.1
      have k3 := c6.2.2.1
      have k4 := c6.2.2.2
      refine G_if_eq dMO_required_83 (fun z => absurd (c0.symm.trans z) (by decide)) (fun _ => ?_)
      refine G_aload_n dMO_required_86 rfl ?_
      refine G_getRs fMO_54 dMO_required_87 hI.1.1 hI.1.r14 ?_
      refine G_iload_n dMO_required_90 rfl ?_
      refine G_ialdN dMO_required_91 hI.1.t14 hI.1.l14 (by decide) hi16 ?_
      rw [c5]
      refine G_if_eq dMO_required_92 (fun h1 => ?_) (fun h1 => ?_)
      · have hz := (nI_z (by omega)).mp h1
        rw [if_pos hz] at e0
        refine G_aload_n dMO_required_98 rfl ?_
        refine G_getRs fMO_51 dMO_required_99 hI.1.1 hI.1.r13 ?_
        refine G_iload_n dMO_required_102 rfl ?_
        refine G_ialdN dMO_required_103 hI.1.t13 hI.1.l13 (by decide) hi16 ?_
        rw [c4]
        refine G_if_ne dMO_required_104 (fun h2 => ?_) (fun h2 => ?_)
        · have hf : ¬ κ.2.2.2.1 = 0 := fun z => h2 ((nI_z (by omega)).mpr z)
          refine G_aload_n dMO_required_132 rfl ?_
          refine G_aload_n dMO_required_133 rfl ?_
          refine G_getRs fMO_42 dMO_required_134 hI.1.1 hI.1.r10 ?_
          refine G_iload_n dMO_required_137 rfl ?_
          refine G_ialdN dMO_required_138 hI.1.t10 hI.1.l10 (by decide) hi16 ?_
          rw [c1]
          refine G_aload_n dMO_required_139 rfl ?_
          refine G_getRs fMO_45 dMO_required_140 hI.1.1 hI.1.r11 ?_
          refine G_iload_n dMO_required_143 rfl ?_
          refine G_ialdN dMO_required_144 hI.1.t11 hI.1.l11 (by decide) hi16 ?_
          rw [c2]
          refine G_aload_n dMO_required_145 rfl ?_
          refine G_getRs fMO_48 dMO_required_146 hI.1.1 hI.1.r12 ?_
          refine G_iload_n dMO_required_149 rfl ?_
          refine G_ialdN dMO_required_150 hI.1.t12 hI.1.l12 (by decide) hi16 ?_
          rw [c3]
          refine G_callV (As := [.int (nI κ.1), .int (nI κ.2.1), .int κ.2.2.1]) (rest := []) gMO_required_MO_atLeast lMO_121.1 lMO_121.2.1 lMO_121.2.2.1 lMO_121.2.2.2 dMO_required_151 rfl (Nat.le_of_ble_eq_true rfl) hI.1.1 ⟨by decide, by decide⟩ (cMO_atLeast hI1 hR (by omega) k1 k2) ?_
          rintro T1 g1 r1 _ ⟨e1, e2, rfl, h3, h4⟩
          cases e1.symm
          cases e2.symm
          refine G_st (st' := []) rfl ?_
          exact nxt g1 (hO.tr h3) (by rw [e0]; unfold rqK; rw [if_neg hf]; exact h4)
        · have hf : κ.2.2.2.1 = 0 := (nI_z (by omega)).mp h2
          refine G_aload_n dMO_required_107 rfl ?_
          refine G_aload_n dMO_required_108 rfl ?_
          refine G_getRs fMO_42 dMO_required_109 hI.1.1 hI.1.r10 ?_
          refine G_iload_n dMO_required_112 rfl ?_
          refine G_ialdN dMO_required_113 hI.1.t10 hI.1.l10 (by decide) hi16 ?_
          rw [c1]
          refine G_aload_n dMO_required_114 rfl ?_
          refine G_getRs fMO_45 dMO_required_115 hI.1.1 hI.1.r11 ?_
          refine G_iload_n dMO_required_118 rfl ?_
          refine G_ialdN dMO_required_119 hI.1.t11 hI.1.l11 (by decide) hi16 ?_
          rw [c2]
          refine G_aload_n dMO_required_120 rfl ?_
          refine G_getRs fMO_48 dMO_required_121 hI.1.1 hI.1.r12 ?_
          refine G_iload_n dMO_required_124 rfl ?_
          refine G_ialdN dMO_required_125 hI.1.t12 hI.1.l12 (by decide) hi16 ?_
          rw [c3]
          refine G_callV (As := [.int (nI κ.1), .int (nI κ.2.1), .int κ.2.2.1]) (rest := []) gMO_required_MO_exactly lMO_133.1 lMO_133.2.1 lMO_133.2.2.1 lMO_133.2.2.2 dMO_required_126 rfl (Nat.le_of_ble_eq_true rfl) hI.1.1 ⟨by decide, by decide⟩ (cMO_exactly hI1 hR (by omega) k1 k2) ?_
          rintro T1 g1 r1 _ ⟨e1, e2, rfl, h3, h4⟩
          cases e1.symm
          cases e2.symm
          refine G_st (st' := []) rfl ?_
          refine G_goto dMO_required_129 ?_
          exact nxt g1 (hO.tr h3) (by rw [e0]; unfold rqK; rw [if_pos hf]; exact h4)
      · have hz : ¬ κ.2.2.2.2 = 0 := fun z => h1 ((nI_z (by omega)).mpr z)
        rw [if_neg hz] at e0
        refine G_goto dMO_required_95 ?_
        exact nxt gi hO (by rw [e0]; exact hR)
theorem cMO_required {E : gE} {T : gT} {gi : gI} {gr : gR} {m : Nat} {nb : Nat} {par : Nat → Option Nat} {kd : Nat → Int32} {hd : Nat → Bool} {li : Nat → Bool} {ct : Nat → Int32} {rk : Nat → Nat} {rks : Nat} {w : Int32} {h : Int32} {pl : Nat → Int32} {cs : Nat → Option K5} {fo : Option Nat} {pr : Option Nat} {ar : Nat → Nat → Bool} {co : Nat → Int32} {D : Nat → Bool} {F : Nat → Int32} (hI : MInv T gi gr m nb par kd hd li ct rk rks w h pl cs fo pr ar co D F) : Ct E mMO_required [.ref m] T gi gr (fun T' gi' gr' v => T' = T ∧ gr' = gr ∧ v = none ∧ SOff gi gi' m ∧ RwIs gi' m (rqM w h nb cs)) := by
  have h6 : nb ≤ 6 := hI.2.2.1.1.2
  refine Ct_of (ls := [.ref m, .long 0]) (by decide) (gcat_cons rfl gcat_nil) (Nat.le_of_ble_eq_true rfl) rfl ?_
  refine G_aload_n dMO_required_0 rfl ?_
  refine G_iconst (v := nI 0) dMO_required_1 (by decide +kernel) ?_
  refine G_putI wMO_114 (Or.inl rfl) dMO_required_2 hI.1.1 rfl rfl ?_
  have hO1 : SOff gi (gu gi m 18 (nI 0)) m := SOff.g0 SOff.rf
  have hR1 : RwIs (gu gi m 18 (nI 0)) m (0, fun _ => 0, fun _ => 0, fun _ => 0) := ⟨gu_same, Nat.zero_le _, fun k hk => absurd hk (Nat.not_lt_zero _)⟩
  generalize gu gi m 18 (nI 0) = g1 at hO1 hR1 ⊢
  have hI1 := hI.so hO1
  have v0 := hI1.2.1
  refine G_aload_n dMO_required_5 rfl ?_
  refine G_iconst (v := nI 1) dMO_required_6 (by decide +kernel) ?_
  refine G_iconst (v := nI 0) dMO_required_7 (by decide +kernel) ?_
  refine G_aload_n dMO_required_8 rfl ?_
  refine G_getI fMO_87 dMO_required_9 hI.1.1 ?_
  rw [v0.2.2.1]
  refine G_callV (As := [.int (nI 1), .int (nI 0), .int w]) (rest := []) gMO_required_MO_exactly lMO_133.1 lMO_133.2.1 lMO_133.2.2.1 lMO_133.2.2.2 dMO_required_12 rfl (Nat.le_of_ble_eq_true rfl) hI.1.1 ⟨by decide, by decide⟩ (cMO_exactly hI1 hR1 (by decide) (by decide) (by decide)) ?_
  rintro T1 g2 r1 _ ⟨e1, e2, rfl, h3, h4⟩
  cases e1.symm
  cases e2.symm
  refine G_st (st' := []) rfl ?_
  have hI2 := hI1.so h3
  have v02 := hI2.2.1
  refine G_aload_n dMO_required_15 rfl ?_
  refine G_iconst (v := nI 3) dMO_required_16 (by decide +kernel) ?_
  refine G_iconst (v := nI 2) dMO_required_17 (by decide +kernel) ?_
  refine G_aload_n dMO_required_18 rfl ?_
  refine G_getI fMO_90 dMO_required_19 hI.1.1 ?_
  rw [v02.2.2.2.1]
  refine G_callV (As := [.int (nI 3), .int (nI 2), .int h]) (rest := []) gMO_required_MO_exactly lMO_133.1 lMO_133.2.1 lMO_133.2.2.1 lMO_133.2.2.2 dMO_required_22 rfl (Nat.le_of_ble_eq_true rfl) hI.1.1 ⟨by decide, by decide⟩ (cMO_exactly hI2 h4 (show 0 + 1 + 1 + 1 < 120 by decide) (by decide) (by decide)) ?_
  rintro T1 g3 r1 _ ⟨e1, e2, rfl, h5, h6'⟩
  cases e1.symm
  cases e2.symm
  refine G_st (st' := []) rfl ?_
  refine G_iconst (v := nI 0) dMO_required_25 (by decide +kernel) ?_
  refine G_istore_n (ls' := [.ref m, .int (nI 0)]) dMO_required_26 (by decide) rfl ?_
  refine rq_box (S := rq0 w h) hI (Nat.le_refl _) (fun g4 hO4 hR4 => ?_) nb 0 (by omega) g3 ((hO1.tr h3).tr h5) h6'
  refine G_iconst (v := nI 0) dMO_required_69 (by decide +kernel) ?_
  refine G_istore_n (ls' := [.ref m, .int (nI 0)]) dMO_required_70 (by decide) rfl ?_
  have hl := rqB_len (S := rq0 w h) nb
  have hl0 : (rq0 w h).1 = 4 := rfl
  exact rq_con (S := rqB (rq0 w h) nb) hI (by omega) (fun g5 h7 h8 => ⟨rfl, rfl, rfl, h7, h8⟩) 16 0 rfl g4 hO4 hR4
