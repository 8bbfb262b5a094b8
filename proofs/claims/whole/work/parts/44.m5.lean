abbrev RS : Type := Nat × (Nat → Nat) × (Nat → Nat) × (Nat → Int32)
def RwIs (gi : gI) (m : Nat) (S : RS) : Prop := gi m 18 = nI S.1 ∧ S.1 ≤ 120 ∧ ∀ k, k < S.1 → gi (m + 15) k = nI (S.2.1 k) ∧ gi (m + 16) k = nI (S.2.2.1 k) ∧ gi (m + 17) k = S.2.2.2 k ∧ S.2.1 k < 24 ∧ S.2.2.1 k < 24
def SOff (gi gi' : gI) (m : Nat) : Prop := (∀ a, a ≠ m → ¬ (m + 15 ≤ a ∧ a ≤ m + 18) → gi' a = gi a) ∧ ∀ k, k ≠ 18 → gi' m k = gi m k
theorem SOff.rf {gi : gI} {m : Nat} : SOff gi gi m := ⟨fun _ _ _ => rfl, fun _ _ => rfl⟩
theorem SOff.tr {g1 g2 g3 : gI} {m : Nat} (h : SOff g1 g2 m) (h' : SOff g2 g3 m) : SOff g1 g3 m := ⟨fun a h1 h2 => (h'.1 a h1 h2).trans (h.1 a h1 h2), fun k hk => (h'.2 k hk).trans (h.2 k hk)⟩
theorem SOff.pu {g1 g2 : gI} {m a k : Nat} {x : Int32} (h : SOff g1 g2 m) (ha : m + 15 ≤ a ∧ a ≤ m + 18) : SOff g1 (gu g2 a k x) m := ⟨fun q h1 h2 => (gu_off (fun e => h2 (by rw [e]; exact ha))).trans (h.1 q h1 h2), fun j hj => by rw [gu_off (by omega)]; exact h.2 j hj⟩
theorem SOff.g0 {g1 g2 : gI} {m : Nat} {x : Int32} (h : SOff g1 g2 m) : SOff g1 (gu g2 m 18 x) m := ⟨fun q h1 h2 => (gu_off h1).trans (h.1 q h1 h2), fun j hj => by rw [gu_ne (Or.inr hj)]; exact h.2 j hj⟩
theorem SOff.mo {g1 g2 : gI} {m : Nat} (h : SOff g1 g2 m) : MOff g1 g2 m := fun a ha => h.1 a (by omega) (by omega)
theorem MInv.so {T : gT} {gi gi' : gI} {gr : gR} {m : Nat} {nb : Nat} {par : Nat → Option Nat} {kd : Nat → Int32} {hd : Nat → Bool} {li : Nat → Bool} {ct : Nat → Int32} {rk : Nat → Nat} {rks : Nat} {w : Int32} {h : Int32} {pl : Nat → Int32} {cs : Nat → Option K5} {fo : Option Nat} {pr : Option Nat} {ar : Nat → Nat → Bool} {co : Nat → Int32} {D : Nat → Bool} {F : Nat → Int32} (hI : MInv T gi gr m nb par kd hd li ct rk rks w h pl cs fo pr ar co D F) (h1 : SOff gi gi' m) : MInv T gi' gr m nb par kd hd li ct rk rks w h pl cs fo pr ar co D F := hI.sx (fun a h2 _ h3 => h1.1 a h2 h3) h1.2
def rwA (S : RS) (p q : Nat) (x : Int32) : RS := (S.1 + 1, gup S.2.1 S.1 p, gup S.2.2.1 S.1 q, gup S.2.2.2 S.1 x)
def atL (S : RS) (p q : Nat) (c : Int32) : RS := rwA S p q (-c)
def exA (S : RS) (p q : Nat) (c : Int32) : RS := atL (atL S p q c) q p (-c)
theorem rw_put (gi : gI) (m r : Nat) (x y z t : Int32) (j : Nat) : gu (gu (gu (gu gi (m + 15) r x) (m + 16) r y) (m + 17) r z) m 18 t (m + 15) j = (if j = r then x else gi (m + 15) j) ∧ gu (gu (gu (gu gi (m + 15) r x) (m + 16) r y) (m + 17) r z) m 18 t (m + 16) j = (if j = r then y else gi (m + 16) j) ∧ gu (gu (gu (gu gi (m + 15) r x) (m + 16) r y) (m + 17) r z) m 18 t (m + 17) j = (if j = r then z else gi (m + 17) j) := by
  refine ⟨?_, ?_, ?_⟩
  · rw [gu_off (show m + 15 ≠ m by omega), gu_off (show m + 15 ≠ m + 17 by omega), gu_off (show m + 15 ≠ m + 16 by omega), gu_row]
  · rw [gu_off (show m + 16 ≠ m by omega), gu_off (show m + 16 ≠ m + 17 by omega), gu_row, gu_off (show m + 16 ≠ m + 15 by omega)]
  · rw [gu_off (show m + 17 ≠ m by omega), gu_row, gu_off (show m + 17 ≠ m + 16 by omega), gu_off (show m + 17 ≠ m + 15 by omega)]
theorem cMO_row {E : gE} {T : gT} {gi : gI} {gr : gR} {m : Nat} {nb : Nat} {par : Nat → Option Nat} {kd : Nat → Int32} {hd : Nat → Bool} {li : Nat → Bool} {ct : Nat → Int32} {rk : Nat → Nat} {rks : Nat} {w : Int32} {h : Int32} {pl : Nat → Int32} {cs : Nat → Option K5} {fo : Option Nat} {pr : Option Nat} {ar : Nat → Nat → Bool} {co : Nat → Int32} {D : Nat → Bool} {F : Nat → Int32} {S : RS} {p q : Nat} {x : Int32} (hI : MInv T gi gr m nb par kd hd li ct rk rks w h pl cs fo pr ar co D F) (hR : RwIs gi m S) (hr : S.1 < 120) (hp : p < 24) (hq : q < 24) : Ct E mMO_row [.ref m, .int (nI p), .int (nI q), .int x] T gi gr (fun T' gi' gr' v => T' = T ∧ gr' = gr ∧ v = none ∧ SOff gi gi' m ∧ RwIs gi' m (rwA S p q x)) := by
  refine Ct_of (ls := [.ref m, .int (nI p), .int (nI q), .int x]) (by decide) (gcat_cons rfl (gcat_cons rfl (gcat_cons rfl (gcat_cons rfl gcat_nil)))) (Nat.le_of_ble_eq_true rfl) rfl ?_
  refine G_aload_n dMO_row_0 rfl ?_
  refine G_getRs fMO_57 dMO_row_1 hI.1.1 hI.1.r15 ?_
  refine G_aload_n dMO_row_4 rfl ?_
  refine G_getI fMO_114 dMO_row_5 hI.1.1 ?_
  rw [hR.1]
  refine G_iload_n dMO_row_8 rfl ?_
  refine G_iastN dMO_row_9 hI.1.t15 hI.1.l15 (by decide) hr ?_
  refine G_aload_n dMO_row_10 rfl ?_
  refine G_getRs fMO_60 dMO_row_11 hI.1.1 hI.1.r16 ?_
  refine G_aload_n dMO_row_14 rfl ?_
  refine G_getI fMO_114 dMO_row_15 hI.1.1 ?_
  rw [gu_ne (Or.inl (by omega)), hR.1]
  refine G_iload_n dMO_row_18 rfl ?_
  refine G_iastN dMO_row_19 hI.1.t16 hI.1.l16 (by decide) hr ?_
  refine G_aload_n dMO_row_20 rfl ?_
  refine G_getRs fMO_63 dMO_row_21 hI.1.1 hI.1.r17 ?_
  refine G_aload_n dMO_row_24 rfl ?_
  refine G_getI fMO_114 dMO_row_25 hI.1.1 ?_
  rw [gu_ne (Or.inl (by omega)), gu_ne (Or.inl (by omega)), hR.1]
  refine G_iload_n dMO_row_28 rfl ?_
  refine G_iastN dMO_row_29 hI.1.t17 hI.1.l17 (by decide) hr ?_
  refine G_aload_n dMO_row_30 rfl ?_
  refine G_dup dMO_row_31 rfl ?_
  refine G_getI fMO_114 dMO_row_32 hI.1.1 ?_
  rw [gu_ne (Or.inl (by omega)), gu_ne (Or.inl (by omega)), gu_ne (Or.inl (by omega)), hR.1]
  refine G_iconst (v := 1) dMO_row_35 (by decide) ?_
  refine G_iadd dMO_row_36 ?_
  rw [nI_1]
  refine G_putI wMO_114 (Or.inl rfl) dMO_row_37 hI.1.1 rfl rfl ?_
  refine G_return dMO_row_40 rfl (by decide) (by decide) ⟨rfl, rfl, rfl, SOff.g0 (SOff.pu (a := m + 17) (SOff.pu (a := m + 16) (SOff.pu (a := m + 15) SOff.rf (by omega)) (by omega)) (by omega)), gu_same, hr, fun k hk => ?_⟩
  have hk' : k < S.1 + 1 := hk
  show _ = nI (gup S.2.1 S.1 p k) ∧ _ = nI (gup S.2.2.1 S.1 q k) ∧ _ = gup S.2.2.2 S.1 x k ∧ gup S.2.1 S.1 p k < 24 ∧ gup S.2.2.1 S.1 q k < 24
  obtain ⟨y1, y2, y3⟩ := rw_put gi m S.1 (nI p) (nI q) x (nI (S.1 + 1)) k
  rw [y1, y2, y3]
  by_cases e : k = S.1
  · subst e
    rw [if_pos rfl, if_pos rfl, if_pos rfl, gup_same, gup_same, gup_same]
    exact ⟨rfl, rfl, rfl, hp, hq⟩
  · rw [if_neg e, if_neg e, if_neg e, gup_ne e, gup_ne e, gup_ne e]
    exact hR.2.2 k (by omega)
theorem cMO_atLeast {E : gE} {T : gT} {gi : gI} {gr : gR} {m : Nat} {nb : Nat} {par : Nat → Option Nat} {kd : Nat → Int32} {hd : Nat → Bool} {li : Nat → Bool} {ct : Nat → Int32} {rk : Nat → Nat} {rks : Nat} {w : Int32} {h : Int32} {pl : Nat → Int32} {cs : Nat → Option K5} {fo : Option Nat} {pr : Option Nat} {ar : Nat → Nat → Bool} {co : Nat → Int32} {D : Nat → Bool} {F : Nat → Int32} {S : RS} {p q : Nat} {x : Int32} (hI : MInv T gi gr m nb par kd hd li ct rk rks w h pl cs fo pr ar co D F) (hR : RwIs gi m S) (hr : S.1 < 120) (hp : p < 24) (hq : q < 24) : Ct E mMO_atLeast [.ref m, .int (nI p), .int (nI q), .int x] T gi gr (fun T' gi' gr' v => T' = T ∧ gr' = gr ∧ v = none ∧ SOff gi gi' m ∧ RwIs gi' m (atL S p q x)) := by
  refine Ct_of (ls := [.ref m, .int (nI p), .int (nI q), .int x]) (by decide) (gcat_cons rfl (gcat_cons rfl (gcat_cons rfl (gcat_cons rfl gcat_nil)))) (Nat.le_of_ble_eq_true rfl) rfl ?_
  refine G_aload_n dMO_atLeast_0 rfl ?_
  refine G_iload_n dMO_atLeast_1 rfl ?_
  refine G_iload_n dMO_atLeast_2 rfl ?_
  refine G_iload_n dMO_atLeast_3 rfl ?_
  refine G_ineg dMO_atLeast_4 ?_
  refine G_callV (As := [.int (nI p), .int (nI q), .int (-x)]) (rest := []) gMO_atLeast_MO_row lMO_117.1 lMO_117.2.1 lMO_117.2.2.1 lMO_117.2.2.2 dMO_atLeast_5 rfl (Nat.le_of_ble_eq_true rfl) hI.1.1 ⟨by decide, by decide⟩ (cMO_row hI hR hr hp hq) ?_
  rintro T1 g1 r1 _ ⟨e1, e2, rfl, h1, h2⟩
  cases e1.symm
  cases e2.symm
  refine G_st (st' := []) rfl ?_
  exact G_return dMO_atLeast_8 rfl (by decide) (by decide) ⟨rfl, rfl, rfl, h1, h2⟩
theorem cMO_exactly {E : gE} {T : gT} {gi : gI} {gr : gR} {m : Nat} {nb : Nat} {par : Nat → Option Nat} {kd : Nat → Int32} {hd : Nat → Bool} {li : Nat → Bool} {ct : Nat → Int32} {rk : Nat → Nat} {rks : Nat} {w : Int32} {h : Int32} {pl : Nat → Int32} {cs : Nat → Option K5} {fo : Option Nat} {pr : Option Nat} {ar : Nat → Nat → Bool} {co : Nat → Int32} {D : Nat → Bool} {F : Nat → Int32} {S : RS} {p q : Nat} {x : Int32} (hI : MInv T gi gr m nb par kd hd li ct rk rks w h pl cs fo pr ar co D F) (hR : RwIs gi m S) (hr : S.1 + 1 < 120) (hp : p < 24) (hq : q < 24) : Ct E mMO_exactly [.ref m, .int (nI p), .int (nI q), .int x] T gi gr (fun T' gi' gr' v => T' = T ∧ gr' = gr ∧ v = none ∧ SOff gi gi' m ∧ RwIs gi' m (exA S p q x)) := by
  refine Ct_of (ls := [.ref m, .int (nI p), .int (nI q), .int x]) (by decide) (gcat_cons rfl (gcat_cons rfl (gcat_cons rfl (gcat_cons rfl gcat_nil)))) (Nat.le_of_ble_eq_true rfl) rfl ?_
  refine G_aload_n dMO_exactly_0 rfl ?_
  refine G_iload_n dMO_exactly_1 rfl ?_
  refine G_iload_n dMO_exactly_2 rfl ?_
  refine G_iload_n dMO_exactly_3 rfl ?_
  refine G_callV (As := [.int (nI p), .int (nI q), .int x]) (rest := []) gMO_exactly_MO_atLeast lMO_121.1 lMO_121.2.1 lMO_121.2.2.1 lMO_121.2.2.2 dMO_exactly_4 rfl (Nat.le_of_ble_eq_true rfl) hI.1.1 ⟨by decide, by decide⟩ (cMO_atLeast hI hR (by omega) hp hq) ?_
  rintro T1 g1 r1 _ ⟨e1, e2, rfl, h1, h2⟩
  cases e1.symm
  cases e2.symm
  refine G_st (st' := []) rfl ?_
  refine G_aload_n dMO_exactly_7 rfl ?_
  refine G_iload_n dMO_exactly_8 rfl ?_
  refine G_iload_n dMO_exactly_9 rfl ?_
  refine G_iload_n dMO_exactly_10 rfl ?_
  refine G_ineg dMO_exactly_11 ?_
  refine G_callV (As := [.int (nI q), .int (nI p), .int (-x)]) (rest := []) gMO_exactly_MO_atLeast lMO_121.1 lMO_121.2.1 lMO_121.2.2.1 lMO_121.2.2.2 dMO_exactly_12 rfl (Nat.le_of_ble_eq_true rfl) hI.1.1 ⟨by decide, by decide⟩ (cMO_atLeast (hI.so h1) h2 hr hq hp) ?_
  rintro T1 g2 r1 _ ⟨e1, e2, rfl, h3, h4⟩
  cases e1.symm
  cases e2.symm
  refine G_st (st' := []) rfl ?_
  exact G_return dMO_exactly_15 rfl (by decide) (by decide) ⟨rfl, rfl, rfl, h1.tr h3, h4⟩
def RcIs (gi : gI) (m : Nat) (f : Nat → Int32) : Prop := ∀ j, j < 24 → gi (m + 18) j = f j
abbrev lwC (S : RS) (f : Nat → Int32) (k : Nat) : Prop := ¬ 268435456 ≤ f (S.2.1 k) ∧ ¬ f (S.2.2.1 k) ≤ f (S.2.1 k) + S.2.2.2 k
def lwP (S : RS) (f : Nat → Int32) : Nat → (Nat → Int32) × Bool
  | 0 => (f, false)
  | k + 1 => if lwC S (lwP S f k).1 k then (gup (lwP S f k).1 (S.2.2.1 k) ((lwP S f k).1 (S.2.1 k) + S.2.2.2 k), true) else lwP S f k
theorem lwP_fix {S : RS} {f : Nat → Int32} : ∀ k, (lwP S f k).2 = false → (lwP S f k).1 = f
  | 0, _ => rfl
  | k + 1, h => by
    unfold lwP at h ⊢
    by_cases c : lwC S (lwP S f k).1 k
    · rw [if_pos c] at h; cases h
    · rw [if_neg c] at h ⊢; exact lwP_fix k h
def lwR (S : RS) (f : Nat → Int32) : Nat → Nat → Int32
  | 0 => f
  | k + 1 => (lwP S (lwR S f k) S.1).1
def lwB (S : RS) (f : Nat → Int32) (k : Nat) : Bool := (lwP S (lwR S f k) S.1).2
theorem lwR_fix {S : RS} {f : Nat → Int32} {k : Nat} (h : lwB S f k = false) : ∀ d, lwR S f (k + d) = lwR S f k ∧ lwB S f (k + d) = false
  | 0 => ⟨rfl, h⟩
  | d + 1 => by
    obtain ⟨h1, h2⟩ := lwR_fix h d
    have e : lwR S f (k + (d + 1)) = lwR S f k := by
      show (lwP S (lwR S f (k + d)) S.1).1 = _
      rw [lwP_fix S.1 h2]; exact h1
    exact ⟨e, by unfold lwB; rw [e]; exact h⟩
theorem lw_loop {E : gE} {T : gT} {g0 : gI} {gr : gR} {m : Nat} {nb : Nat} {par : Nat → Option Nat} {kd : Nat → Int32} {hd : Nat → Bool} {li : Nat → Bool} {ct : Nat → Int32} {rk : Nat → Nat} {rks : Nat} {w : Int32} {h : Int32} {pl : Nat → Int32} {cs : Nat → Option K5} {fo : Option Nat} {pr : Option Nat} {ar : Nat → Nat → Bool} {co : Nat → Int32} {D : Nat → Bool} {F : Nat → Int32} {S : RS} {f : Nat → Int32} {Q : gQ} (hI : MInv T g0 gr m nb par kd hd li ct rk rks w h pl cs fo pr ar co D F) (hR0 : RwIs g0 m S) (kx : ∀ gi : gI, SOff g0 gi m → RwIs gi m S → RcIs gi m (lwP S f S.1).1 → Q T gi gr (some (.int (bI (lwP S f S.1).2)))) : ∀ (n k : Nat), k + n = S.1 → ∀ (gi : gI) (v3 : Value), SOff g0 gi m → RwIs gi m S → RcIs gi m (lwP S f k).1 → G E mMO_lower 4 [.ref m, .int (bI (lwP S f k).2), .int (nI k), v3] [] T gi gr 0 0 Q := by
  have h120 := hR0.2.1
  intro n
  induction n with
  | zero =>
    intro k hk gi v3 hO hR hC
    have : k = S.1 := by omega
    subst this
    refine G_iload_n dMO_lower_4 rfl ?_
    refine G_aload_n dMO_lower_5 rfl ?_
    refine G_getI fMO_114 dMO_lower_6 hI.1.1 ?_
    rw [hR.1]
    refine G_icmp_ge dMO_lower_9 (fun _ => ?_) (fun z => absurd (nI_le (Nat.le_refl _) (by omega)) z)
    refine G_iload_n dMO_lower_82 rfl ?_
    exact G_ireturn dMO_lower_83 rfl (nr_z (bI_01 _)) (by decide) (by decide) (kx gi hO hR hC)
  | succ n ih =>
    intro k hk gi v3 hO hR hC
    have hkl : k < S.1 := by omega
    obtain ⟨c1, c2, c3, c4, c5⟩ := hR.2.2 k hkl
    have e1 : lwP S f (k + 1) = if lwC S (lwP S f k).1 k then (gup (lwP S f k).1 (S.2.2.1 k) ((lwP S f k).1 (S.2.1 k) + S.2.2.2 k), true) else lwP S f k := rfl
    generalize lwP S f k = s at hC e1
    have nxt : ∀ (gi : gI) (l : Bool) (v3 : Value), l = (lwP S f (k + 1)).2 → SOff g0 gi m → RwIs gi m S → RcIs gi m (lwP S f (k + 1)).1 → G E mMO_lower 76 [.ref m, .int (bI l), .int (nI k), v3] [] T gi gr 0 0 Q := by
      rintro gi l v3 rfl hO hR hC
      refine G_iinc (ls' := [.ref m, .int (bI (lwP S f (k + 1)).2), .int (nI (k + 1)), v3]) dMO_lower_76 rfl (nI_inc k) (by decide) rfl ?_
      refine G_goto dMO_lower_79 ?_
      exact ih (k + 1) (by omega) gi v3 hO hR hC
    refine G_iload_n dMO_lower_4 rfl ?_
    refine G_aload_n dMO_lower_5 rfl ?_
    refine G_getI fMO_114 dMO_lower_6 hI.1.1 ?_
    rw [hR.1]
    refine G_icmp_ge dMO_lower_9 (fun z => absurd z (nI_ge hkl (by omega))) (fun _ => ?_)
    refine G_aload_n dMO_lower_12 rfl ?_
    refine G_getRs fMO_66 dMO_lower_13 hI.1.1 hI.1.r18 ?_
    refine G_aload_n dMO_lower_16 rfl ?_
    refine G_getRs fMO_57 dMO_lower_17 hI.1.1 hI.1.r15 ?_
    refine G_iload_n dMO_lower_20 rfl ?_
    refine G_ialdN dMO_lower_21 hI.1.t15 hI.1.l15 (by decide) (by omega) ?_
    rw [c1]
    refine G_ialdN dMO_lower_22 hI.1.t18 hI.1.l18 (by decide) c4 ?_
    rw [hC _ c4]
    refine G_aload_n dMO_lower_23 rfl ?_
    refine G_getRs fMO_63 dMO_lower_24 hI.1.1 hI.1.r17 ?_
    refine G_iload_n dMO_lower_27 rfl ?_
    refine G_ialdN dMO_lower_28 hI.1.t17 hI.1.l17 (by decide) (by omega) ?_
    rw [c3]
    refine G_iadd dMO_lower_29 ?_
    refine G_istore_n (ls' := [.ref m, .int (bI s.2), .int (nI k), .int (s.1 (S.2.1 k) + S.2.2.2 k)]) dMO_lower_30 (by decide) rfl ?_
    refine G_aload_n dMO_lower_31 rfl ?_
    refine G_getRs fMO_66 dMO_lower_32 hI.1.1 hI.1.r18 ?_
    refine G_aload_n dMO_lower_35 rfl ?_
    refine G_getRs fMO_57 dMO_lower_36 hI.1.1 hI.1.r15 ?_
    refine G_iload_n dMO_lower_39 rfl ?_
    refine G_ialdN dMO_lower_40 hI.1.t15 hI.1.l15 (by decide) (by omega) ?_
    rw [c1]
    refine G_ialdN dMO_lower_41 hI.1.t18 hI.1.l18 (by decide) c4 ?_
    rw [hC _ c4]
    refine G_ldc (v := 268435456) dMO_lower_42 kMO_124 ?_
    refine G_icmp_ge dMO_lower_44 (fun h1 => ?_) (fun h1 => ?_)
    · rw [if_neg (fun z => z.1 h1)] at e1
      exact nxt gi _ _ (by rw [e1]) hO hR (by rw [e1]; exact hC)
    · refine G_iload_n dMO_lower_47 rfl ?_
      refine G_aload_n dMO_lower_48 rfl ?_
      refine G_getRs fMO_66 dMO_lower_49 hI.1.1 hI.1.r18 ?_
      refine G_aload_n dMO_lower_52 rfl ?_
      refine G_getRs fMO_60 dMO_lower_53 hI.1.1 hI.1.r16 ?_
      refine G_iload_n dMO_lower_56 rfl ?_
      refine G_ialdN dMO_lower_57 hI.1.t16 hI.1.l16 (by decide) (by omega) ?_
      rw [c2]
      refine G_ialdN dMO_lower_58 hI.1.t18 hI.1.l18 (by decide) c5 ?_
      rw [hC _ c5]
      refine G_icmp_ge dMO_lower_59 (fun h2 => ?_) (fun h2 => ?_)
      · rw [if_neg (fun z => z.2 h2)] at e1
        exact nxt gi _ _ (by rw [e1]) hO hR (by rw [e1]; exact hC)
      · rw [if_pos ⟨h1, h2⟩] at e1
        refine G_aload_n dMO_lower_62 rfl ?_
        refine G_getRs fMO_66 dMO_lower_63 hI.1.1 hI.1.r18 ?_
        refine G_aload_n dMO_lower_66 rfl ?_
        refine G_getRs fMO_60 dMO_lower_67 hI.1.1 hI.1.r16 ?_
        refine G_iload_n dMO_lower_70 rfl ?_
        refine G_ialdN dMO_lower_71 hI.1.t16 hI.1.l16 (by decide) (by omega) ?_
        rw [c2]
        refine G_iload_n dMO_lower_72 rfl ?_
        refine G_iastN dMO_lower_73 hI.1.t18 hI.1.l18 (by decide) c5 ?_
        refine G_iconst (v := bI true) dMO_lower_74 (by decide) ?_
        refine G_istore_n (ls' := [.ref m, .int (bI true), .int (nI k), .int (s.1 (S.2.1 k) + S.2.2.2 k)]) dMO_lower_75 (by decide) rfl ?_
        refine nxt _ true _ (by rw [e1]) (hO.pu (a := m + 18) (by omega)) ⟨by rw [gu_off (by omega)]; exact hR.1, hR.2.1, fun j hj => by rw [gu_off (by omega), gu_off (by omega), gu_off (by omega)]; exact hR.2.2 j hj⟩ (fun j hj => ?_)
        rw [e1, gu_row]
        dsimp only
        by_cases e : j = S.2.2.1 k
        · subst e; rw [if_pos rfl, gup_same]
        · rw [if_neg e, gup_ne e]; exact hC j hj
theorem cMO_lower {E : gE} {T : gT} {gi : gI} {gr : gR} {m : Nat} {nb : Nat} {par : Nat → Option Nat} {kd : Nat → Int32} {hd : Nat → Bool} {li : Nat → Bool} {ct : Nat → Int32} {rk : Nat → Nat} {rks : Nat} {w : Int32} {h : Int32} {pl : Nat → Int32} {cs : Nat → Option K5} {fo : Option Nat} {pr : Option Nat} {ar : Nat → Nat → Bool} {co : Nat → Int32} {D : Nat → Bool} {F : Nat → Int32} {S : RS} {f : Nat → Int32} (hI : MInv T gi gr m nb par kd hd li ct rk rks w h pl cs fo pr ar co D F) (hR : RwIs gi m S) (hC : RcIs gi m f) : Ct E mMO_lower [.ref m] T gi gr (fun T' gi' gr' v => T' = T ∧ gr' = gr ∧ v = some (.int (bI (lwP S f S.1).2)) ∧ SOff gi gi' m ∧ RwIs gi' m S ∧ RcIs gi' m (lwP S f S.1).1) := by
  refine Ct_of (ls := [.ref m, .long 0, .long 0, .long 0]) (by decide) (gcat_cons rfl gcat_nil) (Nat.le_of_ble_eq_true rfl) rfl ?_
  refine G_iconst (v := bI false) dMO_lower_0 (by decide) ?_
  refine G_istore_n (ls' := [.ref m, .int (bI false), .long 0, .long 0]) dMO_lower_1 (by decide) rfl ?_
  refine G_iconst (v := nI 0) dMO_lower_2 (by decide +kernel) ?_
  refine G_istore_n (ls' := [.ref m, .int (bI false), .int (nI 0), .long 0]) dMO_lower_3 (by decide) rfl ?_
  exact lw_loop (f := f) hI hR (fun g2 h1 h2 h3 => ⟨rfl, rfl, rfl, h1, h2, h3⟩) S.1 0 (by omega) gi _ SOff.rf hR hC
def cfM (S : RS) : Bool := lwB S (fun _ => 0) 24
theorem cf_fill {E : gE} {T : gT} {g0 : gI} {gr : gR} {m : Nat} {nb : Nat} {par : Nat → Option Nat} {kd : Nat → Int32} {hd : Nat → Bool} {li : Nat → Bool} {ct : Nat → Int32} {rk : Nat → Nat} {rks : Nat} {w : Int32} {h : Int32} {pl : Nat → Int32} {cs : Nat → Option K5} {fo : Option Nat} {pr : Option Nat} {ar : Nat → Nat → Bool} {co : Nat → Int32} {D : Nat → Bool} {F : Nat → Int32} {S : RS} {Q : gQ} (hI : MInv T g0 gr m nb par kd hd li ct rk rks w h pl cs fo pr ar co D F) (kx : ∀ gi : gI, SOff g0 gi m → RwIs gi m S → RcIs gi m (fun _ => 0) → G E mMO_conflict 21 [.ref m, .int (nI 24), .long 0] [] T gi gr 0 0 Q) : ∀ (n e : Nat), e + n = 24 → ∀ gi : gI, SOff g0 gi m → RwIs gi m S → (∀ j, j < e → gi (m + 18) j = 0) → G E mMO_conflict 2 [.ref m, .int (nI e), .long 0] [] T gi gr 0 0 Q := by
  intro n
  induction n with
  | zero =>
    intro e he gi hO hR hC
    have : e = 24 := by omega
    subst this
    refine G_iload_n dMO_conflict_2 rfl ?_
    refine G_bipush (v := 24) dMO_conflict_3 (by decide) ?_
    exact G_icmp_ge dMO_conflict_5 (fun _ => kx gi hO hR hC) (fun z => absurd (by decide +kernel) z)
  | succ n ih =>
    intro e he gi hO hR hC
    refine G_iload_n dMO_conflict_2 rfl ?_
    refine G_bipush (v := 24) dMO_conflict_3 (by decide) ?_
    refine G_icmp_ge dMO_conflict_5 (fun q => absurd q (nI_ge (b := 24) (by omega) (by decide))) (fun _ => ?_)
    refine G_aload_n dMO_conflict_8 rfl ?_
    refine G_getRs fMO_66 dMO_conflict_9 hI.1.1 hI.1.r18 ?_
    refine G_iload_n dMO_conflict_12 rfl ?_
    refine G_iconst (v := 0) dMO_conflict_13 (by decide) ?_
    refine G_iastN dMO_conflict_14 hI.1.t18 hI.1.l18 (by decide) (by omega) ?_
    refine G_iinc (ls' := [.ref m, .int (nI (e + 1)), .long 0]) dMO_conflict_15 rfl (nI_inc e) (by decide) rfl ?_
    refine G_goto dMO_conflict_18 ?_
    refine ih (e + 1) (by omega) _ (hO.pu (a := m + 18) (by omega)) ⟨by rw [gu_off (by omega)]; exact hR.1, hR.2.1, fun j hj => by rw [gu_off (by omega), gu_off (by omega), gu_off (by omega)]; exact hR.2.2 j hj⟩ (fun j hj => ?_)
    rw [gu_row]
    by_cases c : j = e
    · rw [if_pos c]
    · rw [if_neg c]; exact hC j (by omega)
theorem cf_loop {E : gE} {T : gT} {g0 : gI} {gr : gR} {m : Nat} {nb : Nat} {par : Nat → Option Nat} {kd : Nat → Int32} {hd : Nat → Bool} {li : Nat → Bool} {ct : Nat → Int32} {rk : Nat → Nat} {rks : Nat} {w : Int32} {h : Int32} {pl : Nat → Int32} {cs : Nat → Option K5} {fo : Option Nat} {pr : Option Nat} {ar : Nat → Nat → Bool} {co : Nat → Int32} {D : Nat → Bool} {F : Nat → Int32} {S : RS} {Q : gQ} (hI : MInv T g0 gr m nb par kd hd li ct rk rks w h pl cs fo pr ar co D F) (kx : ∀ gi : gI, SOff g0 gi m → RwIs gi m S → Q T gi gr (some (.int (bI (cfM S))))) : ∀ (n k : Nat), k + n = 25 → ∀ (gi : gI) (l : Bool), (k = 0 ∧ l = true ∨ ∃ k', k = k' + 1 ∧ l = lwB S (fun _ => 0) k') → SOff g0 gi m → RwIs gi m S → RcIs gi m (lwR S (fun _ => 0) k) → G E mMO_conflict 25 [.ref m, .int (bI l), .int (nI k)] [] T gi gr 0 0 Q := by
  intro n
  induction n with
  | zero =>
    intro k hk gi l hl hO hR hC
    have : k = 25 := by omega
    subst this
    refine G_iload_n dMO_conflict_25 rfl ?_
    refine G_bipush (v := 25) dMO_conflict_26 (by decide) ?_
    refine G_icmp_ge dMO_conflict_28 (fun _ => ?_) (fun z => absurd (by decide +kernel) z)
    refine G_iload_n dMO_conflict_46 rfl ?_
    have e : l = cfM S := by
      rcases hl with ⟨h, -⟩ | ⟨k', h, rfl⟩
      · omega
      · have : k' = 24 := by omega
        subst this; rfl
    subst e
    exact G_ireturn dMO_conflict_47 rfl (nr_z (bI_01 _)) (by decide) (by decide) (kx gi hO hR)
  | succ n ih =>
    intro k hk gi l hl hO hR hC
    refine G_iload_n dMO_conflict_25 rfl ?_
    refine G_bipush (v := 25) dMO_conflict_26 (by decide) ?_
    refine G_icmp_ge dMO_conflict_28 (fun q => absurd q (nI_ge (b := 25) (by omega) (by decide))) (fun _ => ?_)
    refine G_iload_n dMO_conflict_31 rfl ?_
    refine G_if_eq dMO_conflict_32 (fun h1 => ?_) (fun h1 => ?_)
    · refine G_iload_n dMO_conflict_46 rfl ?_
      have h1' := bI_z.mp h1
      have e : l = cfM S := by
        rcases hl with ⟨-, h⟩ | ⟨k', h, e⟩
        · rw [h] at h1'; cases h1'
        · rw [h1']
          rw [h1'] at e
          have := (lwR_fix e.symm (24 - k')).2
          rw [show k' + (24 - k') = 24 by omega] at this
          exact this.symm
      subst e
      exact G_ireturn dMO_conflict_47 rfl (nr_z (bI_01 _)) (by decide) (by decide) (kx gi hO hR)
    · refine G_aload_n dMO_conflict_35 rfl ?_
      have hI2 := hI.so hO
      refine G_callV (As := []) (rest := []) gMO_conflict_MO_lower lMO_125.1 lMO_125.2.1 lMO_125.2.2.1 lMO_125.2.2.2 dMO_conflict_36 rfl (Nat.le_of_ble_eq_true rfl) hI.1.1 ⟨by decide, by decide⟩ (cMO_lower hI2 hR hC) ?_
      rintro T1 g1 r1 _ ⟨e1, e2, rfl, h3, h4, h5⟩
      cases e1.symm
      cases e2.symm
      refine G_st (st' := [.int (bI (lwB S (fun _ => 0) k))]) rfl ?_
      refine G_istore_n (ls' := [.ref m, .int (bI (lwB S (fun _ => 0) k)), .int (nI k)]) dMO_conflict_39 (by decide) rfl ?_
      refine G_iinc (ls' := [.ref m, .int (bI (lwB S (fun _ => 0) k)), .int (nI (k + 1))]) dMO_conflict_40 rfl (nI_inc k) (by decide) rfl ?_
      refine G_goto dMO_conflict_43 ?_
      exact ih (k + 1) (by omega) g1 _ (Or.inr ⟨k, rfl, rfl⟩) (hO.tr h3) h4 h5
theorem cMO_conflict {E : gE} {T : gT} {gi : gI} {gr : gR} {m : Nat} {nb : Nat} {par : Nat → Option Nat} {kd : Nat → Int32} {hd : Nat → Bool} {li : Nat → Bool} {ct : Nat → Int32} {rk : Nat → Nat} {rks : Nat} {w : Int32} {h : Int32} {pl : Nat → Int32} {cs : Nat → Option K5} {fo : Option Nat} {pr : Option Nat} {ar : Nat → Nat → Bool} {co : Nat → Int32} {D : Nat → Bool} {F : Nat → Int32} {S : RS} (hI : MInv T gi gr m nb par kd hd li ct rk rks w h pl cs fo pr ar co D F) (hR : RwIs gi m S) : Ct E mMO_conflict [.ref m] T gi gr (fun T' gi' gr' v => T' = T ∧ gr' = gr ∧ v = some (.int (bI (cfM S))) ∧ SOff gi gi' m ∧ RwIs gi' m (S)) := by
  refine Ct_of (ls := [.ref m, .long 0, .long 0]) (by decide) (gcat_cons rfl gcat_nil) (Nat.le_of_ble_eq_true rfl) rfl ?_
  refine G_iconst (v := nI 0) dMO_conflict_0 (by decide +kernel) ?_
  refine G_istore_n (ls' := [.ref m, .int (nI 0), .long 0]) dMO_conflict_1 (by decide) rfl ?_
  refine cf_fill hI (fun g1 hO hR1 hC => ?_) 24 0 rfl gi SOff.rf hR (fun j hj => absurd hj (Nat.not_lt_zero _))
  refine G_iconst (v := bI true) dMO_conflict_21 (by decide) ?_
  refine G_istore_n (ls' := [.ref m, .int (bI true), .long 0]) dMO_conflict_22 (by decide) rfl ?_
  refine G_iconst (v := nI 0) dMO_conflict_23 (by decide +kernel) ?_
  refine G_istore_n (ls' := [.ref m, .int (bI true), .int (nI 0)]) dMO_conflict_24 (by decide) rfl ?_
  exact cf_loop hI (fun g2 h1 h2 => ⟨rfl, rfl, rfl, h1, h2⟩) 25 0 rfl g1 true (Or.inl ⟨rfl, rfl⟩) hO hR1 hC
def moF (p : Nat) : Nat → Int32 := gup (fun _ => 268435456) p 0
def mostM (S : RS) (p q : Nat) : Int32 := lwR S (moF p) 25 q
theorem mo_fill {E : gE} {T : gT} {g0 : gI} {gr : gR} {m : Nat} {nb : Nat} {par : Nat → Option Nat} {kd : Nat → Int32} {hd : Nat → Bool} {li : Nat → Bool} {ct : Nat → Int32} {rk : Nat → Nat} {rks : Nat} {w : Int32} {h : Int32} {pl : Nat → Int32} {cs : Nat → Option K5} {fo : Option Nat} {pr : Option Nat} {ar : Nat → Nat → Bool} {co : Nat → Int32} {D : Nat → Bool} {F : Nat → Int32} {S : RS} {p q : Nat} {Q : gQ} (hI : MInv T g0 gr m nb par kd hd li ct rk rks w h pl cs fo pr ar co D F) (kx : ∀ gi : gI, SOff g0 gi m → RwIs gi m S → RcIs gi m (fun _ => 268435456) → G E mMO_most 22 [.ref m, .int (nI p), .int (nI q), .int (nI 24), .long 0] [] T gi gr 0 0 Q) : ∀ (n e : Nat), e + n = 24 → ∀ gi : gI, SOff g0 gi m → RwIs gi m S → (∀ j, j < e → gi (m + 18) j = 268435456) → G E mMO_most 2 [.ref m, .int (nI p), .int (nI q), .int (nI e), .long 0] [] T gi gr 0 0 Q := by
  intro n
  induction n with
  | zero =>
    intro e he gi hO hR hC
    have : e = 24 := by omega
    subst this
    refine G_iload_n dMO_most_2 rfl ?_
    refine G_bipush (v := 24) dMO_most_3 (by decide) ?_
    exact G_icmp_ge dMO_most_5 (fun _ => kx gi hO hR hC) (fun z => absurd (by decide +kernel) z)
  | succ n ih =>
    intro e he gi hO hR hC
    refine G_iload_n dMO_most_2 rfl ?_
    refine G_bipush (v := 24) dMO_most_3 (by decide) ?_
    refine G_icmp_ge dMO_most_5 (fun q => absurd q (nI_ge (b := 24) (by omega) (by decide))) (fun _ => ?_)
    refine G_aload_n dMO_most_8 rfl ?_
    refine G_getRs fMO_66 dMO_most_9 hI.1.1 hI.1.r18 ?_
    refine G_iload_n dMO_most_12 rfl ?_
    refine G_ldc (v := 268435456) dMO_most_13 kMO_124 ?_
    refine G_iastN dMO_most_15 hI.1.t18 hI.1.l18 (by decide) (by omega) ?_
    refine G_iinc (ls' := [.ref m, .int (nI p), .int (nI q), .int (nI (e + 1)), .long 0]) dMO_most_16 rfl (nI_inc e) (by decide) rfl ?_
    refine G_goto dMO_most_19 ?_
    refine ih (e + 1) (by omega) _ (hO.pu (a := m + 18) (by omega)) ⟨by rw [gu_off (by omega)]; exact hR.1, hR.2.1, fun j hj => by rw [gu_off (by omega), gu_off (by omega), gu_off (by omega)]; exact hR.2.2 j hj⟩ (fun j hj => ?_)
    rw [gu_row]
    by_cases c : j = e
    · rw [if_pos c]
    · rw [if_neg c]; exact hC j (by omega)
theorem mo_loop {E : gE} {T : gT} {g0 : gI} {gr : gR} {m : Nat} {nb : Nat} {par : Nat → Option Nat} {kd : Nat → Int32} {hd : Nat → Bool} {li : Nat → Bool} {ct : Nat → Int32} {rk : Nat → Nat} {rks : Nat} {w : Int32} {h : Int32} {pl : Nat → Int32} {cs : Nat → Option K5} {fo : Option Nat} {pr : Option Nat} {ar : Nat → Nat → Bool} {co : Nat → Int32} {D : Nat → Bool} {F : Nat → Int32} {S : RS} {p q : Nat} {Q : gQ} (hI : MInv T g0 gr m nb par kd hd li ct rk rks w h pl cs fo pr ar co D F) (hq : q < 24) (kx : ∀ gi : gI, SOff g0 gi m → RwIs gi m S → Q T gi gr (some (.int (mostM S p q)))) : ∀ (n k : Nat), k + n = 25 → ∀ (gi : gI) (l : Bool), (k = 0 ∧ l = true ∨ ∃ k', k = k' + 1 ∧ l = lwB S (moF p) k') → SOff g0 gi m → RwIs gi m S → RcIs gi m (lwR S (moF p) k) → G E mMO_most 34 [.ref m, .int (nI p), .int (nI q), .int (bI l), .int (nI k)] [] T gi gr 0 0 Q := by
  have fin : ∀ (gi : gI) (l k : Value), SOff g0 gi m → RwIs gi m S → RcIs gi m (lwR S (moF p) 25) → G E mMO_most 56 [.ref m, .int (nI p), .int (nI q), l, k] [] T gi gr 0 0 Q := by
    intro gi l k hO hR hC
    refine G_aload_n dMO_most_56 rfl ?_
    refine G_getRs fMO_66 dMO_most_57 hI.1.1 hI.1.r18 ?_
    refine G_iload_n dMO_most_60 rfl ?_
    refine G_ialdN dMO_most_61 hI.1.t18 hI.1.l18 (by decide) hq ?_
    rw [hC q hq]
    exact G_ireturn dMO_most_62 rfl rfl (by decide) (by decide) (kx gi hO hR)
  intro n
  induction n with
  | zero =>
    intro k hk gi l hl hO hR hC
    have : k = 25 := by omega
    subst this
    refine G_iload dMO_most_34 rfl ?_
    refine G_bipush (v := 25) dMO_most_36 (by decide) ?_
    exact G_icmp_ge dMO_most_38 (fun _ => fin gi _ _ hO hR hC) (fun z => absurd (by decide +kernel) z)
  | succ n ih =>
    intro k hk gi l hl hO hR hC
    refine G_iload dMO_most_34 rfl ?_
    refine G_bipush (v := 25) dMO_most_36 (by decide) ?_
    refine G_icmp_ge dMO_most_38 (fun q => absurd q (nI_ge (b := 25) (by omega) (by decide))) (fun _ => ?_)
    refine G_iload_n dMO_most_41 rfl ?_
    refine G_if_eq dMO_most_42 (fun h1 => fin gi _ _ hO hR ?_) (fun h1 => ?_)
    · have h1' := bI_z.mp h1
      have e : lwR S (moF p) 25 = lwR S (moF p) k := by
        rcases hl with ⟨-, h⟩ | ⟨k', rfl, e⟩
        · rw [h] at h1'; cases h1'
        · rw [h1'] at e
          have i1 := (lwR_fix e.symm (25 - k')).1
          have i2 := (lwR_fix e.symm 1).1
          rw [show k' + (25 - k') = 25 by omega] at i1
          rw [i1, i2]
      rw [e]; exact hC
    · refine G_aload_n dMO_most_45 rfl ?_
      have hI2 := hI.so hO
      refine G_callV (As := []) (rest := []) gMO_most_MO_lower lMO_125.1 lMO_125.2.1 lMO_125.2.2.1 lMO_125.2.2.2 dMO_most_46 rfl (Nat.le_of_ble_eq_true rfl) hI.1.1 ⟨by decide, by decide⟩ (cMO_lower hI2 hR hC) ?_
      rintro T1 g1 r1 _ ⟨e1, e2, rfl, h3, h4, h5⟩
      cases e1.symm
      cases e2.symm
      refine G_st (st' := [.int (bI (lwB S (moF p) k))]) rfl ?_
      refine G_istore_n (ls' := [.ref m, .int (nI p), .int (nI q), .int (bI (lwB S (moF p) k)), .int (nI k)]) dMO_most_49 (by decide) rfl ?_
      refine G_iinc (ls' := [.ref m, .int (nI p), .int (nI q), .int (bI (lwB S (moF p) k)), .int (nI (k + 1))]) dMO_most_50 rfl (nI_inc k) (by decide) rfl ?_
      refine G_goto dMO_most_53 ?_
      exact ih (k + 1) (by omega) g1 _ (Or.inr ⟨k, rfl, rfl⟩) (hO.tr h3) h4 h5
theorem cMO_most {E : gE} {T : gT} {gi : gI} {gr : gR} {m : Nat} {nb : Nat} {par : Nat → Option Nat} {kd : Nat → Int32} {hd : Nat → Bool} {li : Nat → Bool} {ct : Nat → Int32} {rk : Nat → Nat} {rks : Nat} {w : Int32} {h : Int32} {pl : Nat → Int32} {cs : Nat → Option K5} {fo : Option Nat} {pr : Option Nat} {ar : Nat → Nat → Bool} {co : Nat → Int32} {D : Nat → Bool} {F : Nat → Int32} {S : RS} {p q : Nat} (hI : MInv T gi gr m nb par kd hd li ct rk rks w h pl cs fo pr ar co D F) (hR : RwIs gi m S) (hp : p < 24) (hq : q < 24) : Ct E mMO_most [.ref m, .int (nI p), .int (nI q)] T gi gr (fun T' gi' gr' v => T' = T ∧ gr' = gr ∧ v = some (.int (mostM S p q)) ∧ SOff gi gi' m ∧ RwIs gi' m (S)) := by
  refine Ct_of (ls := [.ref m, .int (nI p), .int (nI q), .long 0, .long 0]) (by decide) (gcat_cons rfl (gcat_cons rfl (gcat_cons rfl gcat_nil))) (Nat.le_of_ble_eq_true rfl) rfl ?_
  refine G_iconst (v := nI 0) dMO_most_0 (by decide +kernel) ?_
  refine G_istore_n (ls' := [.ref m, .int (nI p), .int (nI q), .int (nI 0), .long 0]) dMO_most_1 (by decide) rfl ?_
  refine mo_fill hI (fun g1 hO hR1 hC => ?_) 24 0 rfl gi SOff.rf hR (fun j hj => absurd hj (Nat.not_lt_zero _))
  refine G_aload_n dMO_most_22 rfl ?_
  refine G_getRs fMO_66 dMO_most_23 hI.1.1 hI.1.r18 ?_
  refine G_iload_n dMO_most_26 rfl ?_
  refine G_iconst (v := 0) dMO_most_27 (by decide) ?_
  refine G_iastN dMO_most_28 hI.1.t18 hI.1.l18 (by decide) hp ?_
  refine G_iconst (v := bI true) dMO_most_29 (by decide) ?_
  refine G_istore_n (ls' := [.ref m, .int (nI p), .int (nI q), .int (bI true), .long 0]) dMO_most_30 (by decide) rfl ?_
  refine G_iconst (v := nI 0) dMO_most_31 (by decide +kernel) ?_
  refine G_istore (ls' := [.ref m, .int (nI p), .int (nI q), .int (bI true), .int (nI 0)]) dMO_most_32 (by decide) rfl ?_
  refine mo_loop (p := p) hI hq (fun g2 h1 h2 => ⟨rfl, rfl, rfl, h1, h2⟩) 25 0 rfl _ true (Or.inl ⟨rfl, rfl⟩) (hO.pu (a := m + 18) (by omega)) ⟨by rw [gu_off (by omega)]; exact hR1.1, hR1.2.1, fun j hj => by rw [gu_off (by omega), gu_off (by omega), gu_off (by omega)]; exact hR1.2.2 j hj⟩ (fun j hj => ?_)
  rw [gu_row]
  show _ = moF p j
  unfold moF
  by_cases c : j = p
  · subst c; rw [if_pos rfl, gup_same]
  · rw [if_neg c, gup_ne c]; exact hC j hj
