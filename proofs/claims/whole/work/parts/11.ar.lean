abbrev A4 : Type := Int32 × Int32 × Int32 × Int32
def ArIs (gi : gI) (a : Nat) (q : A4) : Prop := gi a 0 = q.1 ∧ gi a 1 = q.2.1 ∧ gi a 2 = q.2.2.1 ∧ gi a 3 = q.2.2.2
def Off1 (gi gi' : gI) (a : Nat) : Prop := ∀ q, q ≠ a → gi' q = gi q
def A0 : A4 := (0, 0, 0, 0)
abbrev arE (q : A4) : Prop := q.2.1 ≤ q.1 ∨ q.2.2.2 ≤ q.2.2.1
abbrev arH (q : A4) (x y : Int32) : Prop := ¬ x < q.1 ∧ ¬ q.2.1 ≤ x ∧ ¬ y < q.2.2.1 ∧ ¬ q.2.2.2 ≤ y
def mxI (x y : Int32) : Int32 := if x < y then y else x
def mnI (x y : Int32) : Int32 := if y < x then y else x
def arM (q r : A4) : A4 := (mxI q.1 r.1, mnI q.2.1 r.2.1, mxI q.2.2.1 r.2.2.1, mnI q.2.2.2 r.2.2.2)
def arC (q r : A4) : A4 := if arE (arM q r) then A0 else arM q r
theorem Off1.tr {g1 g2 g3 : gI} {a : Nat} (h : Off1 g1 g2 a) (h' : Off1 g2 g3 a) : Off1 g1 g3 a := fun q hq => (h' q hq).trans (h q hq)
theorem ArIs.off {gi gi' : gI} {a b : Nat} {q : A4} (h : ArIs gi a q) (ho : Off1 gi gi' b) (hne : a ≠ b) : ArIs gi' a q := by
  unfold ArIs
  rw [ho a hne]
  exact h
theorem nI_p0 (f : Nat) : nI f + 0 = nI f := Int32.add_zero _
theorem nI_p1 (f : Nat) : nI f + 1 = nI (f + 1) := nI_1 f
theorem nI_p2 (f : Nat) : nI f + 2 = nI (f + 2) := nI_add f 2
theorem nI_p3 (f : Nat) : nI f + 3 = nI (f + 3) := nI_add f 3
theorem cAR_isEmpty {E : gE} {T : gT} {gi : gI} {gr : gR} {a : Nat} {q : A4} (ht : T.1 a = 6) (hA : ArIs gi a q) : Ct E mAR_isEmpty [.ref a] T gi gr (fun T' gi' gr' v => T' = T ∧ gi' = gi ∧ gr' = gr ∧ v = some (.int (if arE q then 1 else 0))) := by
  refine Ct_of (ls := [.ref a]) (by decide) (gcat_cons rfl gcat_nil) (Nat.le_of_ble_eq_true rfl) rfl ?_
  refine G_aload_n dAR_isEmpty_0 rfl ?_
  refine G_getI fAR_9 dAR_isEmpty_1 ht ?_
  rw [hA.1]
  refine G_aload_n dAR_isEmpty_4 rfl ?_
  refine G_getI fAR_15 dAR_isEmpty_5 ht ?_
  rw [hA.2.1]
  refine G_icmp_ge dAR_isEmpty_8 (fun h1 => ?_) (fun h1 => ?_)
  · refine G_iconst (v := 1) dAR_isEmpty_22 (by decide) ?_
    refine G_goto dAR_isEmpty_23 ?_
    exact G_ireturn dAR_isEmpty_27 rfl (nr_z (by decide)) (by decide) (by decide) ⟨rfl, rfl, rfl, by simp [arE, h1]⟩
  · refine G_aload_n dAR_isEmpty_11 rfl ?_
    refine G_getI fAR_18 dAR_isEmpty_12 ht ?_
    rw [hA.2.2.1]
    refine G_aload_n dAR_isEmpty_15 rfl ?_
    refine G_getI fAR_21 dAR_isEmpty_16 ht ?_
    rw [hA.2.2.2]
    refine G_icmp_lt dAR_isEmpty_19 (fun h2 => ?_) (fun h2 => ?_)
    · refine G_iconst (v := 0) dAR_isEmpty_26 (by decide) ?_
      exact G_ireturn dAR_isEmpty_27 rfl (nr_z (by decide)) (by decide) (by decide) ⟨rfl, rfl, rfl, by simp [arE, h1, h2]⟩
    · refine G_iconst (v := 1) dAR_isEmpty_22 (by decide) ?_
      refine G_goto dAR_isEmpty_23 ?_
      exact G_ireturn dAR_isEmpty_27 rfl (nr_z (by decide)) (by decide) (by decide) ⟨rfl, rfl, rfl, by simp [arE, h1, h2]⟩
theorem cAR_has {E : gE} {T : gT} {gi : gI} {gr : gR} {a : Nat} {q : A4} {x y : Int32} (ht : T.1 a = 6) (hA : ArIs gi a q) : Ct E mAR_has [.ref a, .int x, .int y] T gi gr (fun T' gi' gr' v => T' = T ∧ gi' = gi ∧ gr' = gr ∧ v = some (.int (if arH q x y then 1 else 0))) := by
  refine Ct_of (ls := [.ref a, .int x, .int y]) (by decide) (gcat_cons rfl (gcat_cons rfl (gcat_cons rfl gcat_nil))) (Nat.le_of_ble_eq_true rfl) rfl ?_
  refine G_aload_n dAR_has_0 rfl ?_
  refine G_getI fAR_9 dAR_has_1 ht ?_
  rw [hA.1]
  refine G_iload_n dAR_has_4 rfl ?_
  refine G_icmp_gt dAR_has_5 (fun h1 => ?_) (fun h1 => ?_)
  · refine G_iconst (v := 0) dAR_has_36 (by decide) ?_
    exact G_ireturn dAR_has_37 rfl (nr_z (by decide)) (by decide) (by decide) ⟨rfl, rfl, rfl, by simp [arH, h1]⟩
  · refine G_iload_n dAR_has_8 rfl ?_
    refine G_aload_n dAR_has_9 rfl ?_
    refine G_getI fAR_15 dAR_has_10 ht ?_
    rw [hA.2.1]
    refine G_icmp_ge dAR_has_13 (fun h2 => ?_) (fun h2 => ?_)
    · refine G_iconst (v := 0) dAR_has_36 (by decide) ?_
      exact G_ireturn dAR_has_37 rfl (nr_z (by decide)) (by decide) (by decide) ⟨rfl, rfl, rfl, by simp [arH, h1, h2]⟩
    · refine G_aload_n dAR_has_16 rfl ?_
      refine G_getI fAR_18 dAR_has_17 ht ?_
      rw [hA.2.2.1]
      refine G_iload_n dAR_has_20 rfl ?_
      refine G_icmp_gt dAR_has_21 (fun h3 => ?_) (fun h3 => ?_)
      · refine G_iconst (v := 0) dAR_has_36 (by decide) ?_
        exact G_ireturn dAR_has_37 rfl (nr_z (by decide)) (by decide) (by decide) ⟨rfl, rfl, rfl, by simp [arH, h1, h2, h3]⟩
      · refine G_iload_n dAR_has_24 rfl ?_
        refine G_aload_n dAR_has_25 rfl ?_
        refine G_getI fAR_21 dAR_has_26 ht ?_
        rw [hA.2.2.2]
        refine G_icmp_ge dAR_has_29 (fun h4 => ?_) (fun h4 => ?_)
        · refine G_iconst (v := 0) dAR_has_36 (by decide) ?_
          exact G_ireturn dAR_has_37 rfl (nr_z (by decide)) (by decide) (by decide) ⟨rfl, rfl, rfl, by simp [arH, h1, h2, h3, h4]⟩
        · refine G_iconst (v := 1) dAR_has_32 (by decide) ?_
          refine G_goto dAR_has_33 ?_
          exact G_ireturn dAR_has_37 rfl (nr_z (by decide)) (by decide) (by decide) ⟨rfl, rfl, rfl, by simp [arH, h1, h2, h3, h4]⟩
theorem cAR_isSameAs {E : gE} {T : gT} {gi : gI} {gr : gR} {a b : Nat} {q r : A4} (ht : T.1 a = 6) (htb : T.1 b = 6) (hA : ArIs gi a q) (hR : ArIs gi b r) : Ct E mAR_isSameAs [.ref a, .ref b] T gi gr (fun T' gi' gr' v => T' = T ∧ gi' = gi ∧ gr' = gr ∧ v = some (.int (if q = r then 1 else 0))) := by
  refine Ct_of (ls := [.ref a, .ref b]) (by decide) (gcat_cons rfl (gcat_cons rfl gcat_nil)) (Nat.le_of_ble_eq_true rfl) rfl ?_
  refine G_aload_n dAR_isSameAs_0 rfl ?_
  refine G_getI fAR_9 dAR_isSameAs_1 ht ?_
  rw [hA.1]
  refine G_aload_n dAR_isSameAs_4 rfl ?_
  refine G_getI fAR_9 dAR_isSameAs_5 htb ?_
  rw [hR.1]
  refine G_icmp_ne dAR_isSameAs_8 (fun h1 => ?_) (fun h1 => ?_)
  · refine G_iconst (v := 0) dAR_isSameAs_48 (by decide) ?_
    exact G_ireturn dAR_isSameAs_49 rfl (nr_z (by decide)) (by decide) (by decide) ⟨rfl, rfl, rfl, by simp [Prod.ext_iff, h1]⟩
  · refine G_aload_n dAR_isSameAs_11 rfl ?_
    refine G_getI fAR_15 dAR_isSameAs_12 ht ?_
    rw [hA.2.1]
    refine G_aload_n dAR_isSameAs_15 rfl ?_
    refine G_getI fAR_15 dAR_isSameAs_16 htb ?_
    rw [hR.2.1]
    refine G_icmp_ne dAR_isSameAs_19 (fun h2 => ?_) (fun h2 => ?_)
    · refine G_iconst (v := 0) dAR_isSameAs_48 (by decide) ?_
      exact G_ireturn dAR_isSameAs_49 rfl (nr_z (by decide)) (by decide) (by decide) ⟨rfl, rfl, rfl, by simp [Prod.ext_iff, h1, h2]⟩
    · refine G_aload_n dAR_isSameAs_22 rfl ?_
      refine G_getI fAR_18 dAR_isSameAs_23 ht ?_
      rw [hA.2.2.1]
      refine G_aload_n dAR_isSameAs_26 rfl ?_
      refine G_getI fAR_18 dAR_isSameAs_27 htb ?_
      rw [hR.2.2.1]
      refine G_icmp_ne dAR_isSameAs_30 (fun h3 => ?_) (fun h3 => ?_)
      · refine G_iconst (v := 0) dAR_isSameAs_48 (by decide) ?_
        exact G_ireturn dAR_isSameAs_49 rfl (nr_z (by decide)) (by decide) (by decide) ⟨rfl, rfl, rfl, by simp [Prod.ext_iff, h1, h2, h3]⟩
      · refine G_aload_n dAR_isSameAs_33 rfl ?_
        refine G_getI fAR_21 dAR_isSameAs_34 ht ?_
        rw [hA.2.2.2]
        refine G_aload_n dAR_isSameAs_37 rfl ?_
        refine G_getI fAR_21 dAR_isSameAs_38 htb ?_
        rw [hR.2.2.2]
        refine G_icmp_ne dAR_isSameAs_41 (fun h4 => ?_) (fun h4 => ?_)
        · refine G_iconst (v := 0) dAR_isSameAs_48 (by decide) ?_
          exact G_ireturn dAR_isSameAs_49 rfl (nr_z (by decide)) (by decide) (by decide) ⟨rfl, rfl, rfl, by simp [Prod.ext_iff, h1, h2, h3, h4]⟩
        · refine G_iconst (v := 1) dAR_isSameAs_44 (by decide) ?_
          refine G_goto dAR_isSameAs_45 ?_
          exact G_ireturn dAR_isSameAs_49 rfl (nr_z (by decide)) (by decide) (by decide) ⟨rfl, rfl, rfl, by simp [Prod.ext_iff, h1, h2, h3, h4]⟩
theorem cAR_makeEmpty {E : gE} {T : gT} {gi : gI} {gr : gR} {a : Nat} (ht : T.1 a = 6) : Ct E mAR_makeEmpty [.ref a] T gi gr (fun T' gi' gr' v => T' = T ∧ gr' = gr ∧ v = none ∧ ArIs gi' a A0 ∧ Off1 gi gi' a) := by
  refine Ct_of (ls := [.ref a]) (by decide) (gcat_cons rfl gcat_nil) (Nat.le_of_ble_eq_true rfl) rfl ?_
  refine G_aload_n dAR_makeEmpty_0 rfl ?_
  refine G_iconst (v := 0) dAR_makeEmpty_1 (by decide) ?_
  refine G_putI wAR_9 (Or.inl rfl) dAR_makeEmpty_2 ht rfl rfl ?_
  refine G_aload_n dAR_makeEmpty_5 rfl ?_
  refine G_iconst (v := 0) dAR_makeEmpty_6 (by decide) ?_
  refine G_putI wAR_15 (Or.inl rfl) dAR_makeEmpty_7 ht rfl rfl ?_
  refine G_aload_n dAR_makeEmpty_10 rfl ?_
  refine G_iconst (v := 0) dAR_makeEmpty_11 (by decide) ?_
  refine G_putI wAR_18 (Or.inl rfl) dAR_makeEmpty_12 ht rfl rfl ?_
  refine G_aload_n dAR_makeEmpty_15 rfl ?_
  refine G_iconst (v := 0) dAR_makeEmpty_16 (by decide) ?_
  refine G_putI wAR_21 (Or.inl rfl) dAR_makeEmpty_17 ht rfl rfl ?_
  exact G_return dAR_makeEmpty_20 rfl (by decide) (by decide) ⟨rfl, rfl, rfl, ⟨by simp [gu, A0], by simp [gu, A0], by simp [gu, A0], by simp [gu, A0]⟩, fun q hq => by rw [gu_off hq, gu_off hq, gu_off hq, gu_off hq]⟩
theorem cAR_copyFrom {E : gE} {T : gT} {gi : gI} {gr : gR} {a b : Nat} {r : A4} (ht : T.1 a = 6) (htb : T.1 b = 6) (hne : b ≠ a) (hR : ArIs gi b r) : Ct E mAR_copyFrom [.ref a, .ref b] T gi gr (fun T' gi' gr' v => T' = T ∧ gr' = gr ∧ v = none ∧ ArIs gi' a r ∧ Off1 gi gi' a) := by
  refine Ct_of (ls := [.ref a, .ref b]) (by decide) (gcat_cons rfl (gcat_cons rfl gcat_nil)) (Nat.le_of_ble_eq_true rfl) rfl ?_
  refine G_aload_n dAR_copyFrom_0 rfl ?_
  refine G_aload_n dAR_copyFrom_1 rfl ?_
  refine G_getI fAR_9 dAR_copyFrom_2 htb ?_
  rw [hR.1]
  refine G_putI wAR_9 (Or.inl rfl) dAR_copyFrom_5 ht rfl rfl ?_
  refine G_aload_n dAR_copyFrom_8 rfl ?_
  refine G_aload_n dAR_copyFrom_9 rfl ?_
  refine G_getI fAR_15 dAR_copyFrom_10 htb ?_
  rw [show (gu gi (a) 0 (r.1)) (b) 1 = r.2.1 from by rw [gu_off hne, hR.2.1]]
  refine G_putI wAR_15 (Or.inl rfl) dAR_copyFrom_13 ht rfl rfl ?_
  refine G_aload_n dAR_copyFrom_16 rfl ?_
  refine G_aload_n dAR_copyFrom_17 rfl ?_
  refine G_getI fAR_18 dAR_copyFrom_18 htb ?_
  rw [show (gu (gu gi (a) 0 (r.1)) (a) 1 (r.2.1)) (b) 2 = r.2.2.1 from by rw [gu_off hne, gu_off hne, hR.2.2.1]]
  refine G_putI wAR_18 (Or.inl rfl) dAR_copyFrom_21 ht rfl rfl ?_
  refine G_aload_n dAR_copyFrom_24 rfl ?_
  refine G_aload_n dAR_copyFrom_25 rfl ?_
  refine G_getI fAR_21 dAR_copyFrom_26 htb ?_
  rw [show (gu (gu (gu gi (a) 0 (r.1)) (a) 1 (r.2.1)) (a) 2 (r.2.2.1)) (b) 3 = r.2.2.2 from by rw [gu_off hne, gu_off hne, gu_off hne, hR.2.2.2]]
  refine G_putI wAR_21 (Or.inl rfl) dAR_copyFrom_29 ht rfl rfl ?_
  exact G_return dAR_copyFrom_32 rfl (by decide) (by decide) ⟨rfl, rfl, rfl, ⟨by simp [gu, A0], by simp [gu, A0], by simp [gu, A0], by simp [gu, A0]⟩, fun q hq => by rw [gu_off hq, gu_off hq, gu_off hq, gu_off hq]⟩
theorem cAR_takeEdges {E : gE} {T : gT} {gi : gI} {gr : gR} {a pl f : Nat} (ht : T.1 a = 6) (hne : pl ≠ a) (hp : T.1 pl = 100 ∧ T.2.1 pl = 24 ∧ f + 3 < 24) : Ct E mAR_takeEdges [.ref a, .ref pl, .int (nI f)] T gi gr (fun T' gi' gr' v => T' = T ∧ gr' = gr ∧ v = none ∧ ArIs gi' a (gi pl f, gi pl (f + 1), gi pl (f + 2), gi pl (f + 3)) ∧ Off1 gi gi' a) := by
  refine Ct_of (ls := [.ref a, .ref pl, .int (nI f)]) (by decide) (gcat_cons rfl (gcat_cons rfl (gcat_cons rfl gcat_nil))) (Nat.le_of_ble_eq_true rfl) rfl ?_
  refine G_aload_n dAR_takeEdges_0 rfl ?_
  refine G_aload_n dAR_takeEdges_1 rfl ?_
  refine G_iload_n dAR_takeEdges_2 rfl ?_
  refine G_iconst (v := 0) dAR_takeEdges_3 (by decide) ?_
  refine G_iadd dAR_takeEdges_4 ?_
  rw [nI_p0]
  refine G_ialdN dAR_takeEdges_5 hp.1 hp.2.1 (by decide) (by omega) ?_
  refine G_putI wAR_9 (Or.inl rfl) dAR_takeEdges_6 ht rfl rfl ?_
  refine G_aload_n dAR_takeEdges_9 rfl ?_
  refine G_aload_n dAR_takeEdges_10 rfl ?_
  refine G_iload_n dAR_takeEdges_11 rfl ?_
  refine G_iconst (v := 1) dAR_takeEdges_12 (by decide) ?_
  refine G_iadd dAR_takeEdges_13 ?_
  rw [nI_p1]
  refine G_ialdN dAR_takeEdges_14 hp.1 hp.2.1 (by decide) (by omega) ?_
  rw [show (gu gi (a) 0 (gi (pl) f)) (pl) (f + 1) = gi pl (f + 1) from by rw [gu_off hne]]
  refine G_putI wAR_15 (Or.inl rfl) dAR_takeEdges_15 ht rfl rfl ?_
  refine G_aload_n dAR_takeEdges_18 rfl ?_
  refine G_aload_n dAR_takeEdges_19 rfl ?_
  refine G_iload_n dAR_takeEdges_20 rfl ?_
  refine G_iconst (v := 2) dAR_takeEdges_21 (by decide) ?_
  refine G_iadd dAR_takeEdges_22 ?_
  rw [nI_p2]
  refine G_ialdN dAR_takeEdges_23 hp.1 hp.2.1 (by decide) (by omega) ?_
  rw [show (gu (gu gi (a) 0 (gi (pl) f)) (a) 1 (gi pl (f + 1))) (pl) (f + 2) = gi pl (f + 2) from by rw [gu_off hne, gu_off hne]]
  refine G_putI wAR_18 (Or.inl rfl) dAR_takeEdges_24 ht rfl rfl ?_
  refine G_aload_n dAR_takeEdges_27 rfl ?_
  refine G_aload_n dAR_takeEdges_28 rfl ?_
  refine G_iload_n dAR_takeEdges_29 rfl ?_
  refine G_iconst (v := 3) dAR_takeEdges_30 (by decide) ?_
  refine G_iadd dAR_takeEdges_31 ?_
  rw [nI_p3]
  refine G_ialdN dAR_takeEdges_32 hp.1 hp.2.1 (by decide) (by omega) ?_
  rw [show (gu (gu (gu gi (a) 0 (gi (pl) f)) (a) 1 (gi pl (f + 1))) (a) 2 (gi pl (f + 2))) (pl) (f + 3) = gi pl (f + 3) from by rw [gu_off hne, gu_off hne, gu_off hne]]
  refine G_putI wAR_21 (Or.inl rfl) dAR_takeEdges_33 ht rfl rfl ?_
  exact G_return dAR_takeEdges_36 rfl (by decide) (by decide) ⟨rfl, rfl, rfl, ⟨by simp [gu, A0], by simp [gu, A0], by simp [gu, A0], by simp [gu, A0]⟩, fun q hq => by rw [gu_off hq, gu_off hq, gu_off hq, gu_off hq]⟩
theorem cAR_cutTo {E : gE} {T : gT} {gi : gI} {gr : gR} {a b : Nat} {q r : A4} (ht : T.1 a = 6) (htb : T.1 b = 6) (hne : b ≠ a) (hA : ArIs gi a q) (hR : ArIs gi b r) : Ct E mAR_cutTo [.ref a, .ref b] T gi gr (fun T' gi' gr' v => T' = T ∧ gr' = gr ∧ v = none ∧ ArIs gi' a (arC q r) ∧ Off1 gi gi' a) := by
  refine Ct_of (ls := [.ref a, .ref b]) (by decide) (gcat_cons rfl (gcat_cons rfl gcat_nil)) (Nat.le_of_ble_eq_true rfl) rfl ?_
  refine G_aload_n dAR_cutTo_0 rfl ?_
  refine G_aload_n dAR_cutTo_1 rfl ?_
  refine G_getI fAR_9 dAR_cutTo_2 ht ?_
  rw [hA.1]
  refine G_aload_n dAR_cutTo_5 rfl ?_
  refine G_getI fAR_9 dAR_cutTo_6 htb ?_
  rw [hR.1]
  refine G_mmax jAR_24.1 jAR_24.2.1 jAR_24.2.2.1 jAR_24.2.2.2 dAR_cutTo_9 (by decide) (Nat.le_of_ble_eq_true rfl) (by decide) (by decide) ?_
  refine G_putI wAR_9 (Or.inl rfl) dAR_cutTo_12 ht rfl rfl ?_
  refine G_aload_n dAR_cutTo_15 rfl ?_
  refine G_aload_n dAR_cutTo_16 rfl ?_
  refine G_getI fAR_15 dAR_cutTo_17 ht ?_
  rw [show (gu gi (a) 0 (if q.1 < r.1 then r.1 else q.1)) (a) 1 = q.2.1 from by simp [gu, hA.1, hA.2.1, hA.2.2.1, hA.2.2.2]]
  refine G_aload_n dAR_cutTo_20 rfl ?_
  refine G_getI fAR_15 dAR_cutTo_21 htb ?_
  rw [show (gu gi (a) 0 (if q.1 < r.1 then r.1 else q.1)) (b) 1 = r.2.1 from by rw [gu_off hne, hR.2.1]]
  refine G_mmin jAR_30.1 jAR_30.2.1 jAR_30.2.2.1 jAR_30.2.2.2 dAR_cutTo_24 (by decide) (Nat.le_of_ble_eq_true rfl) (by decide) (by decide) ?_
  refine G_putI wAR_15 (Or.inl rfl) dAR_cutTo_27 ht rfl rfl ?_
  refine G_aload_n dAR_cutTo_30 rfl ?_
  refine G_aload_n dAR_cutTo_31 rfl ?_
  refine G_getI fAR_18 dAR_cutTo_32 ht ?_
  rw [show (gu (gu gi (a) 0 (if q.1 < r.1 then r.1 else q.1)) (a) 1 (if r.2.1 < q.2.1 then r.2.1 else q.2.1)) (a) 2 = q.2.2.1 from by simp [gu, hA.1, hA.2.1, hA.2.2.1, hA.2.2.2]]
  refine G_aload_n dAR_cutTo_35 rfl ?_
  refine G_getI fAR_18 dAR_cutTo_36 htb ?_
  rw [show (gu (gu gi (a) 0 (if q.1 < r.1 then r.1 else q.1)) (a) 1 (if r.2.1 < q.2.1 then r.2.1 else q.2.1)) (b) 2 = r.2.2.1 from by rw [gu_off hne, gu_off hne, hR.2.2.1]]
  refine G_mmax jAR_24.1 jAR_24.2.1 jAR_24.2.2.1 jAR_24.2.2.2 dAR_cutTo_39 (by decide) (Nat.le_of_ble_eq_true rfl) (by decide) (by decide) ?_
  refine G_putI wAR_18 (Or.inl rfl) dAR_cutTo_42 ht rfl rfl ?_
  refine G_aload_n dAR_cutTo_45 rfl ?_
  refine G_aload_n dAR_cutTo_46 rfl ?_
  refine G_getI fAR_21 dAR_cutTo_47 ht ?_
  rw [show (gu (gu (gu gi (a) 0 (if q.1 < r.1 then r.1 else q.1)) (a) 1 (if r.2.1 < q.2.1 then r.2.1 else q.2.1)) (a) 2 (if q.2.2.1 < r.2.2.1 then r.2.2.1 else q.2.2.1)) (a) 3 = q.2.2.2 from by simp [gu, hA.1, hA.2.1, hA.2.2.1, hA.2.2.2]]
  refine G_aload_n dAR_cutTo_50 rfl ?_
  refine G_getI fAR_21 dAR_cutTo_51 htb ?_
  rw [show (gu (gu (gu gi (a) 0 (if q.1 < r.1 then r.1 else q.1)) (a) 1 (if r.2.1 < q.2.1 then r.2.1 else q.2.1)) (a) 2 (if q.2.2.1 < r.2.2.1 then r.2.2.1 else q.2.2.1)) (b) 3 = r.2.2.2 from by rw [gu_off hne, gu_off hne, gu_off hne, hR.2.2.2]]
  refine G_mmin jAR_30.1 jAR_30.2.1 jAR_30.2.2.1 jAR_30.2.2.2 dAR_cutTo_54 (by decide) (Nat.le_of_ble_eq_true rfl) (by decide) (by decide) ?_
  refine G_putI wAR_21 (Or.inl rfl) dAR_cutTo_57 ht rfl rfl ?_
  refine G_aload_n dAR_cutTo_60 rfl ?_
  have hA1 : ArIs (gu (gu (gu (gu gi (a) 0 (if q.1 < r.1 then r.1 else q.1)) (a) 1 (if r.2.1 < q.2.1 then r.2.1 else q.2.1)) (a) 2 (if q.2.2.1 < r.2.2.1 then r.2.2.1 else q.2.2.1)) (a) 3 (if r.2.2.2 < q.2.2.2 then r.2.2.2 else q.2.2.2)) a (arM q r) := ⟨by simp [gu, arM, mxI, mnI], by simp [gu, arM, mxI, mnI], by simp [gu, arM, mxI, mnI], by simp [gu, arM, mxI, mnI]⟩
  have hO1 : Off1 gi (gu (gu (gu (gu gi (a) 0 (if q.1 < r.1 then r.1 else q.1)) (a) 1 (if r.2.1 < q.2.1 then r.2.1 else q.2.1)) (a) 2 (if q.2.2.1 < r.2.2.1 then r.2.2.1 else q.2.2.1)) (a) 3 (if r.2.2.2 < q.2.2.2 then r.2.2.2 else q.2.2.2)) a := fun q hq => by rw [gu_off hq, gu_off hq, gu_off hq, gu_off hq]
  refine G_callV (As := []) (rest := []) gAR_cutTo_AR_isEmpty lAR_33.1 lAR_33.2.1 lAR_33.2.2.1 lAR_33.2.2.2 dAR_cutTo_61 rfl (Nat.le_of_ble_eq_true rfl) ht ⟨by decide, by decide⟩ (cAR_isEmpty ht hA1) ?_
  rintro _ _ _ _ ⟨rfl, rfl, rfl, rfl⟩
  refine G_st (st' := [.int (if arE (arM q r) then 1 else 0)]) rfl ?_
  refine G_if_eq dAR_cutTo_64 (fun h1 => ?_) (fun h1 => ?_)
  · have hE : ¬ arE (arM q r) := fun c => by rw [if_pos c] at h1; exact absurd h1 (by decide)
    exact G_return dAR_cutTo_71 rfl (by decide) (by decide) ⟨rfl, rfl, rfl, by unfold arC; rw [if_neg hE]; exact hA1, hO1⟩
  · refine G_aload_n dAR_cutTo_67 rfl ?_
    refine G_callV (As := []) (rest := []) gAR_cutTo_AR_makeEmpty lAR_37.1 lAR_37.2.1 lAR_37.2.2.1 lAR_37.2.2.2 dAR_cutTo_68 rfl (Nat.le_of_ble_eq_true rfl) ht ⟨by decide, by decide⟩ (cAR_makeEmpty ht) ?_
    rintro _ g2 _ _ ⟨rfl, rfl, rfl, hA2, hO2⟩
    refine G_st (st' := []) rfl ?_
    have hE : arE (arM q r) := by by_cases c : arE (arM q r); exact c; exact absurd (if_neg c) h1
    exact G_return dAR_cutTo_71 rfl (by decide) (by decide) ⟨rfl, rfl, rfl, by unfold arC; rw [if_pos hE]; exact hA2, hO1.tr hO2⟩
