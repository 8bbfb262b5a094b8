abbrev S2 : Type := (Nat → Nat → Int32) × Int32
def kamP (S : S2) (p q : Nat) (d : Int32) (ec : Nat) : S2 := (kamM S.1 p q d ec, kamC S.1 p q d S.2)
def fixP (S : S2) (p q : Nat) (d : Int32) (ec : Nat) : S2 := kamP (kamP S p q d ec) q p (-d) ec
def fixK (S : S2) (p q : Nat) (d : Int32) (ec : Nat) : Prop := KOk S.1 p q d ∧ KOk (kamP S p q d ec).1 q p (-d)
def demP (S : S2) (κ : K5) (ec : Nat) : S2 := (demM S.1 κ ec, demC S.1 κ ec S.2)
def lerP (S : S2) (κ : K5) (ec : Nat) : S2 := (lerM S.1 κ ec, lerC S.1 κ ec S.2)
def dbP (S : S2) (ec : Nat) : Nat → S2
  | 0 => S
  | b + 1 => kamP (kamP (dbP S ec b) (4 * b) (4 * b + 1) (-0) ec) (4 * b + 2) (4 * b + 3) (-0) ec
def dbK (S : S2) (ec b : Nat) : Prop := KOk (dbP S ec b).1 (4 * b) (4 * b + 1) (-0) ∧ KOk (kamP (dbP S ec b) (4 * b) (4 * b + 1) (-0) ec).1 (4 * b + 2) (4 * b + 3) (-0)
def dcP (S : S2) (cs : Nat → Option K5) (ec : Nat) : Nat → S2
  | 0 => S
  | i + 1 => match cs i with
    | some κ => if κ.2.2.2.2 = 0 then demP (dcP S cs ec i) κ ec else dcP S cs ec i
    | none => dcP S cs ec i
def csP (S : S2) (cs : Nat → Option K5) (ec s : Nat) : Nat → S2
  | 0 => S
  | i + 1 => match cs i with
    | some κ => if κ.2.2.2.2 = s then lerP (csP S cs ec s i) κ ec else csP S cs ec s i
    | none => csP S cs ec s i
def sfP (S : S2) (cs : Nat → Option K5) (ec : Nat) : Nat → S2
  | 0 => S
  | k + 1 => csP (sfP S cs ec k) cs ec (k + 1) 16
def edD (S : S2) (pl : Nat → Int32) (e : Nat) : Int32 := nearI (pl e) (-(S.1 e 0)) (S.1 0 e)
def edP (S : S2) (pl : Nat → Int32) (ec : Nat) : Nat → S2
  | 0 => S
  | e + 1 => fixP (edP S pl ec e) e 0 (edD (edP S pl ec e) pl e) ec
def edL (S : S2) (pl : Nat → Int32) (ec : Nat) (e : Nat) : Nat → Int32 := fun j => if j < e then edD (edP S pl ec j) pl j else pl j
def d0P (R : Nat → Nat → Int32) (w h : Int32) (ec : Nat) : S2 := fixP (fixP (fixP (opR R ec, 0) 1 0 w ec) 2 0 0 ec) 3 0 h ec
def d0K (R : Nat → Nat → Int32) (w h : Int32) (ec : Nat) : Prop := fixK (opR R ec, 0) 1 0 w ec ∧ fixK (fixP (opR R ec, 0) 1 0 w ec) 2 0 0 ec ∧ fixK (fixP (fixP (opR R ec, 0) 1 0 w ec) 2 0 0 ec) 3 0 h ec
def daP (R : Nat → Nat → Int32) (w h : Int32) (nb : Nat) (cs : Nat → Option K5) : S2 := dcP (dbP (d0P R w h (4 * nb)) (4 * nb) nb) cs (4 * nb) 16
def daK (R : Nat → Nat → Int32) (w h : Int32) (nb : Nat) (cs : Nat → Option K5) : Prop := d0K R w h (4 * nb) ∧ (∀ b, b < nb → dbK (d0P R w h (4 * nb)) (4 * nb) b) ∧ ∀ i κ, i < 16 → cs i = some κ → κ.2.2.2.2 = 0 → demK (dcP (dbP (d0P R w h (4 * nb)) (4 * nb) nb) cs (4 * nb) i).1 κ (4 * nb)
def cbK (S : S2) (pl : Nat → Int32) (nb : Nat) (cs : Nat → Option K5) : Prop := (∀ k i κ, k < 3 → i < 16 → cs i = some κ → κ.2.2.2.2 = k + 1 → lerK (csP (sfP S cs (4 * nb) k) cs (4 * nb) (k + 1) i).1 κ (4 * nb)) ∧ ∀ e, e < 4 * nb → fixK (edP (sfP S cs (4 * nb) 3) pl (4 * nb) e) e 0 (edD (edP (sfP S cs (4 * nb) 3) pl (4 * nb) e) pl e) (4 * nb)
def LaOk (T : gT) (gr : gR) (la : Nat) : Prop := T.1 la = 3 ∧ gr la 0 = some (la + 1) ∧ gr la 2 = some (la + 2) ∧ gr la 3 = some (la + 3) ∧ T.1 (la + 1) = 100 ∧ T.2.1 (la + 1) = 24 ∧ T.1 (la + 2) = 103 ∧ T.2.1 (la + 2) = 16 ∧ BdOk T gr (la + 3)
def LaIs (gi : gI) (la nb : Nat) (w h : Int32) : Prop := gi la 1 = nI (4 * nb) ∧ gi la 4 = w ∧ gi la 5 = h
def PlIs (gi : gI) (la : Nat) (pl : Nat → Int32) : Prop := ∀ j, j < 24 → gi (la + 1) j = pl j
def CsIs (T : gT) (gi : gI) (gr : gR) (la : Nat) (cs : Nat → Option K5) (cx : Nat → Nat) : Prop := ∀ i, i < 16 → (cs i = none → gr (la + 2) i = none) ∧ ∀ κ, cs i = some κ → gr (la + 2) i = some (cx i) ∧ T.1 (cx i) = 7 ∧ CnIs gi (cx i) κ ∧ CnOk κ ∧ ¬ (la ≤ cx i ∧ cx i < la + 29)
theorem LaIs.off {gi gi' : gI} {la nb : Nat} {w h : Int32} (hL : LaIs gi la nb w h) (hO : BdOff gi gi' (la + 3)) : LaIs gi' la nb w h := by
  unfold LaIs
  rw [hO la (by omega)]
  exact hL
theorem CnIs.row {gi gi' : gI} {c : Nat} {κ : K5} (h : CnIs gi c κ) (e : gi' c = gi c) : CnIs gi' c κ := by
  unfold CnIs
  rw [e]
  exact h
theorem CsIs.off {T : gT} {gi gi' : gI} {gr : gR} {la : Nat} {cs : Nat → Option K5} {cx : Nat → Nat} (hC : CsIs T gi gr la cs cx) (hO : ∀ a, ¬ (la ≤ a ∧ a < la + 29) → gi' a = gi a) : CsIs T gi' gr la cs cx := by
  intro i hi
  refine ⟨(hC i hi).1, fun κ hκ => ?_⟩
  obtain ⟨h1, h2, h3, h4, h5⟩ := (hC i hi).2 κ hκ
  exact ⟨h1, h2, h3.row (hO _ h5), h4, h5⟩
theorem BdOff.la {gi gi' : gI} {la : Nat} (hO : BdOff gi gi' (la + 3)) : ∀ a, ¬ (la ≤ a ∧ a < la + 29) → gi' a = gi a := fun a ha => hO a (by omega)
theorem pBD_fix {E : gE} {T : gT} {gi : gI} {gr : gR} {bd p q ec : Nat} {d : Int32} {S : S2} (hB : BdOk T gr bd) (hS : BdIs gi bd S.1 S.2 ec) (hp : p < 24) (hq : q < 24) (hec : ec ≤ 24) (hk : fixK S p q d ec) : Ct E mBD_fix [.ref bd, .int (nI p), .int (nI q), .int d] T gi gr (fun T' gi' gr' v => T' = T ∧ gr' = gr ∧ v = none ∧ BdIs gi' bd (fixP S p q d ec).1 (fixP S p q d ec).2 ec ∧ BdOff gi gi' bd) := cBD_fix hB hS hp hq hec hk.1 hk.2
theorem pBD_fixNear {E : gE} {T : gT} {gi : gI} {gr : gR} {bd p q ec : Nat} {d : Int32} {S : S2} (hB : BdOk T gr bd) (hS : BdIs gi bd S.1 S.2 ec) (hp : p < 24) (hq : q < 24) (hec : ec ≤ 24) (hk : fixK S p q (nearI d (-(S.1 p q)) (S.1 q p)) ec) : Ct E mBD_fixNear [.ref bd, .int (nI p), .int (nI q), .int d] T gi gr (fun T' gi' gr' v => T' = T ∧ gr' = gr ∧ v = some (.int (nearI d (-(S.1 p q)) (S.1 q p))) ∧ BdIs gi' bd (fixP S p q (nearI d (-(S.1 p q)) (S.1 q p)) ec).1 (fixP S p q (nearI d (-(S.1 p q)) (S.1 q p)) ec).2 ec ∧ BdOff gi gi' bd) := cBD_fixNear hB hS hp hq hec hk.1 hk.2
theorem pBD_kal {E : gE} {T : gT} {gi : gI} {gr : gR} {bd p q ec : Nat} {d : Int32} {S : S2} (hB : BdOk T gr bd) (hS : BdIs gi bd S.1 S.2 ec) (hp : p < 24) (hq : q < 24) (hec : ec ≤ 24) (hk : KOk S.1 q p (-d)) : Ct E mBD_keepAtLeast [.ref bd, .int (nI p), .int (nI q), .int d] T gi gr (fun T' gi' gr' v => T' = T ∧ gr' = gr ∧ v = none ∧ BdIs gi' bd (kamP S q p (-d) ec).1 (kamP S q p (-d) ec).2 ec ∧ BdOff gi gi' bd) := cBD_keepAtLeast hB hS hp hq hec hk
theorem pCN_demandIn {E : gE} {T : gT} {gi : gI} {gr : gR} {ck bd ec : Nat} {κ : K5} {S : S2} (ht : T.1 ck = 7) (hC : CnIs gi ck κ) (hk : CnOk κ) (hB : BdOk T gr bd) (hS : BdIs gi bd S.1 S.2 ec) (hec : ec ≤ 24) (hD : demK S.1 κ ec) : Ct E mCN_demandIn [.ref ck, .ref bd] T gi gr (fun T' gi' gr' v => T' = T ∧ gr' = gr ∧ v = none ∧ BdIs gi' bd (demP S κ ec).1 (demP S κ ec).2 ec ∧ BdOff gi gi' bd) := cCN_demandIn ht hC hk hB hS hec hD
theorem pCN_leastErrorIn {E : gE} {T : gT} {gi : gI} {gr : gR} {ck bd ec : Nat} {κ : K5} {S : S2} (ht : T.1 ck = 7) (hC : CnIs gi ck κ) (hk : CnOk κ) (hB : BdOk T gr bd) (hS : BdIs gi bd S.1 S.2 ec) (hec : ec ≤ 24) (hD : lerK S.1 κ ec) : Ct E mCN_leastErrorIn [.ref ck, .ref bd] T gi gr (fun T' gi' gr' v => T' = T ∧ gr' = gr ∧ v = none ∧ BdIs gi' bd (lerP S κ ec).1 (lerP S κ ec).2 ec ∧ BdOff gi gi' bd) := cCN_leastErrorIn ht hC hk hB hS hec hD
theorem pBD_open {E : gE} {T : gT} {gi : gI} {gr : gR} {bd ec ec0 : Nat} {cf : Int32} {R : Nat → Nat → Int32} (hB : BdOk T gr bd) (hI : BdIs gi bd R cf ec0) (hec24 : ec ≤ 24) : Ct E mBD_open [.ref bd, .int (nI ec)] T gi gr (fun T' gi' gr' v => T' = T ∧ gr' = gr ∧ v = none ∧ BdIs gi' bd (opR R ec, (0 : Int32)).1 (opR R ec, (0 : Int32)).2 ec ∧ BdOff gi gi' bd) := cBD_open hB hI hec24
theorem nI_inc4 (b : Nat) : nI (4 * b) + Int32.ofInt 4 = nI (4 * (b + 1)) := nI_add (4 * b) 4
abbrev isEd (nb : Nat) (x : Int32) : Prop := ¬ x < 0 ∧ ¬ nI (4 * nb) ≤ x
theorem cLA_isEdge {E : gE} {T : gT} {gi : gI} {gr : gR} {la nb : Nat} {x w h : Int32} (hL : LaOk T gr la) (hI : LaIs gi la nb w h) : Ct E mLA_isEdge [.ref la, .int x] T gi gr (fun T' gi' gr' v => T' = T ∧ gi' = gi ∧ gr' = gr ∧ v = some (.int (if isEd nb x then 1 else 0))) := by
  refine Ct_of (ls := [.ref la, .int x]) (by decide) (gcat_cons rfl (gcat_cons rfl gcat_nil)) (Nat.le_of_ble_eq_true rfl) rfl ?_
  refine G_iload_n dLA_isEdge_0 rfl ?_
  refine G_if_lt dLA_isEdge_1 (fun h1 => ?_) (fun h1 => ?_)
  · refine G_iconst (v := 0) dLA_isEdge_16 (by decide) ?_
    exact G_ireturn dLA_isEdge_17 rfl (nr_z (by decide)) (by decide) (by decide) ⟨rfl, rfl, rfl, by simp [isEd, h1]⟩
  · refine G_iload_n dLA_isEdge_4 rfl ?_
    refine G_aload_n dLA_isEdge_5 rfl ?_
    refine G_getI fLA_35 dLA_isEdge_6 hL.1 ?_
    rw [hI.1]
    refine G_icmp_ge dLA_isEdge_9 (fun h2 => ?_) (fun h2 => ?_)
    · refine G_iconst (v := 0) dLA_isEdge_16 (by decide) ?_
      exact G_ireturn dLA_isEdge_17 rfl (nr_z (by decide)) (by decide) (by decide) ⟨rfl, rfl, rfl, by simp [isEd, h1, h2]⟩
    · refine G_iconst (v := 1) dLA_isEdge_12 (by decide) ?_
      refine G_goto dLA_isEdge_13 ?_
      exact G_ireturn dLA_isEdge_17 rfl (nr_z (by decide)) (by decide) (by decide) ⟨rfl, rfl, rfl, by simp [isEd, h1, h2]⟩
abbrev tbE (x : Int32) : Prop := ¬ x - x / 4 * 4 < 2
abbrev cjE (nb : Nat) (p q : Int32) : Prop := isEd nb p ∧ isEd nb q ∧ ¬ p = q ∧ (tbE p ↔ tbE q)
theorem if01 {c : Prop} [Decidable c] : (if c then (1 : Int32) else 0) = 0 ↔ ¬ c := by by_cases h : c <;> simp [h]
theorem if01e {c d : Prop} [Decidable c] [Decidable d] : (if c then (1 : Int32) else 0) = (if d then (1 : Int32) else 0) ↔ (c ↔ d) := by by_cases h : c <;> by_cases h' : d <;> simp [h, h']
theorem cLA_isTopOrBottom {E : gE} {T : gT} {gi : gI} {gr : gR} {x : Int32}  : Ct E mLA_isTopOrBottom [.int x] T gi gr (fun T' gi' gr' v => T' = T ∧ gi' = gi ∧ gr' = gr ∧ v = some (.int (if tbE x then 1 else 0))) := by
  refine Ct_of (ls := [.int x]) (by decide) (gcat_cons rfl gcat_nil) (Nat.le_of_ble_eq_true rfl) rfl ?_
  refine G_iload_n dLA_isTopOrBottom_0 rfl ?_
  refine G_iconst (v := 4) dLA_isTopOrBottom_1 (by decide) ?_
  refine G_irem dLA_isTopOrBottom_2 (by decide) ?_
  refine G_iconst (v := 2) dLA_isTopOrBottom_3 (by decide) ?_
  refine G_icmp_lt dLA_isTopOrBottom_4 (fun h1 => ?_) (fun h1 => ?_)
  · refine G_iconst (v := 0) dLA_isTopOrBottom_11 (by decide) ?_
    exact G_ireturn dLA_isTopOrBottom_12 rfl (nr_z (by decide)) (by decide) (by decide) ⟨rfl, rfl, rfl, by simp [tbE, h1]⟩
  · refine G_iconst (v := 1) dLA_isTopOrBottom_7 (by decide) ?_
    refine G_goto dLA_isTopOrBottom_8 ?_
    exact G_ireturn dLA_isTopOrBottom_12 rfl (nr_z (by decide)) (by decide) (by decide) ⟨rfl, rfl, rfl, by simp [tbE, h1]⟩
theorem cLA_canJoin {E : gE} {T : gT} {gi : gI} {gr : gR} {la nb : Nat} {p q w h : Int32} (hL : LaOk T gr la) (hI : LaIs gi la nb w h) : Ct E mLA_canJoin [.ref la, .int p, .int q] T gi gr (fun T' gi' gr' v => T' = T ∧ gi' = gi ∧ gr' = gr ∧ v = some (.int (if cjE nb p q then 1 else 0))) := by
  refine Ct_of (ls := [.ref la, .int p, .int q]) (by decide) (gcat_cons rfl (gcat_cons rfl (gcat_cons rfl gcat_nil))) (Nat.le_of_ble_eq_true rfl) rfl ?_
  refine G_aload_n dLA_canJoin_0 rfl ?_
  refine G_iload_n dLA_canJoin_1 rfl ?_
  refine G_callV (As := [.int p]) (rest := []) gLA_canJoin_LA_isEdge lLA_38.1 lLA_38.2.1 lLA_38.2.2.1 lLA_38.2.2.2 dLA_canJoin_2 rfl (Nat.le_of_ble_eq_true rfl) hL.1 ⟨by decide, by decide⟩ (cLA_isEdge hL hI) ?_
  rintro _ _ _ _ ⟨rfl, rfl, rfl, rfl⟩
  refine G_st (st' := [.int (if isEd nb p then 1 else 0)]) rfl ?_
  refine G_if_eq dLA_canJoin_5 (fun h1 => ?_) (fun h1 => ?_)
  · refine G_iconst (v := 0) dLA_canJoin_36 (by decide) ?_
    exact G_ireturn dLA_canJoin_37 rfl (nr_z (by decide)) (by decide) (by decide) ⟨rfl, rfl, rfl, by simp only [if01, if01e, Decidable.not_not] at h1; rw [if_neg (fun z => h1 z.1)]⟩
  · refine G_aload_n dLA_canJoin_8 rfl ?_
    refine G_iload_n dLA_canJoin_9 rfl ?_
    refine G_callV (As := [.int q]) (rest := []) gLA_canJoin_LA_isEdge lLA_38.1 lLA_38.2.1 lLA_38.2.2.1 lLA_38.2.2.2 dLA_canJoin_10 rfl (Nat.le_of_ble_eq_true rfl) hL.1 ⟨by decide, by decide⟩ (cLA_isEdge hL hI) ?_
    rintro _ _ _ _ ⟨rfl, rfl, rfl, rfl⟩
    refine G_st (st' := [.int (if isEd nb q then 1 else 0)]) rfl ?_
    refine G_if_eq dLA_canJoin_13 (fun h2 => ?_) (fun h2 => ?_)
    · refine G_iconst (v := 0) dLA_canJoin_36 (by decide) ?_
      exact G_ireturn dLA_canJoin_37 rfl (nr_z (by decide)) (by decide) (by decide) ⟨rfl, rfl, rfl, by simp only [if01, if01e, Decidable.not_not] at h1 h2; rw [if_neg (fun z => h2 z.2.1)]⟩
    · refine G_iload_n dLA_canJoin_16 rfl ?_
      refine G_iload_n dLA_canJoin_17 rfl ?_
      refine G_icmp_eq dLA_canJoin_18 (fun h3 => ?_) (fun h3 => ?_)
      · refine G_iconst (v := 0) dLA_canJoin_36 (by decide) ?_
        exact G_ireturn dLA_canJoin_37 rfl (nr_z (by decide)) (by decide) (by decide) ⟨rfl, rfl, rfl, by simp only [if01, if01e, Decidable.not_not] at h1 h2 h3; rw [if_neg (fun z => z.2.2.1 h3)]⟩
      · refine G_iload_n dLA_canJoin_21 rfl ?_
        refine G_callS (As := [.int p]) (rest := []) gLA_canJoin_LA_isTopOrBottom lLA_42.1 lLA_42.2 dLA_canJoin_22 rfl (Nat.le_of_ble_eq_true rfl) ⟨by decide, by decide⟩ cLA_isTopOrBottom ?_
        rintro _ _ _ _ ⟨rfl, rfl, rfl, rfl⟩
        refine G_st (st' := [.int (if tbE p then 1 else 0)]) rfl ?_
        refine G_iload_n dLA_canJoin_25 rfl ?_
        refine G_callS (As := [.int q]) (rest := [.int (if tbE p then 1 else 0)]) gLA_canJoin_LA_isTopOrBottom lLA_42.1 lLA_42.2 dLA_canJoin_26 rfl (Nat.le_of_ble_eq_true rfl) ⟨by decide, by decide⟩ cLA_isTopOrBottom ?_
        rintro _ _ _ _ ⟨rfl, rfl, rfl, rfl⟩
        refine G_st (st' := [.int (if tbE q then 1 else 0), .int (if tbE p then 1 else 0)]) rfl ?_
        refine G_icmp_ne dLA_canJoin_29 (fun h4 => ?_) (fun h4 => ?_)
        · refine G_iconst (v := 0) dLA_canJoin_36 (by decide) ?_
          exact G_ireturn dLA_canJoin_37 rfl (nr_z (by decide)) (by decide) (by decide) ⟨rfl, rfl, rfl, by simp only [if01, if01e, Decidable.not_not] at h1 h2 h3 h4; rw [if_neg (fun z => h4 z.2.2.2)]⟩
        · refine G_iconst (v := 1) dLA_canJoin_32 (by decide) ?_
          refine G_goto dLA_canJoin_33 ?_
          exact G_ireturn dLA_canJoin_37 rfl (nr_z (by decide)) (by decide) (by decide) ⟨rfl, rfl, rfl, by simp only [if01, if01e, Decidable.not_not] at h1 h2 h3 h4; rw [if_pos ⟨h1, h2, h3, h4⟩]⟩
