theorem DvS.g8 {T : gT} {gr gr' : gR} {dv nb : Nat} {bx od : Nat → Nat} {par : Nat → Option Nat} (hS : DvS T gr dv nb bx par od) (h1 : ∀ a, a ≠ dv + 6 + 2 → gr' a = gr a) : DvS T gr' dv nb bx par od := by
  obtain ⟨⟨a1, a2, a3, a4, a5, a6, a7, a8, a9, ⟨s1, s2, s3, s4⟩, hL⟩, c1, c2, c3, c4, c5, c6, c7⟩ := hS
  refine ⟨⟨a1, by rw [h1 _ (by omega)]; exact a2, by rw [h1 _ (by omega)]; exact a3, by rw [h1 _ (by omega)]; exact a4, by rw [h1 _ (by omega)]; exact a5, a6, a7, a8, a9, ⟨s1, by rw [h1 _ (by omega)]; exact s2, by rw [h1 _ (by omega)]; exact s3, s4⟩, hL.gr h1⟩, c1, fun i hi => ?_, c3, c4, c5, fun k hk => by rw [h1 _ (by omega)]; exact c6 k hk, c7⟩
  obtain ⟨d1, ⟨e1, e2, e3, e4⟩, d3, d4⟩ := c2 i hi
  exact ⟨by rw [h1 _ (by omega)]; exact d1, ⟨e1, by rw [h1 _ (by omega)]; exact e2, by rw [h1 _ (by omega)]; exact e3, e4⟩, by rw [h1 _ (by omega)]; exact d3, d4⟩
theorem CInv.la {T : gT} {gi gi' : gI} {gr gr' : gR} {dv nb : Nat} {bx cx od : Nat → Nat} {par : Nat → Option Nat} {B : Nat → BS} {fo pr : Option Nat} {w h : Int32} {pl : Nat → Int32} {cs : Nat → Option K5} {D : Nat → Bool} {F : Nat → Int32} {w' h' : Int32} {pl' : Nat → Int32} {cs' : Nat → Option K5} {cx' : Nat → Nat} (hI : CInv T gi gr dv nb bx cx od par B fo pr w h pl cs D F) (h1 : ∀ a, a ≠ dv + 6 + 2 → gr' a = gr a) (h2 : ∀ a, a ≠ dv + 6 → a ≠ dv + 6 + 1 → ¬ (dv + 6 + 3 ≤ a ∧ a < dv + 6 + 29) → gi' a = gi a) (hL : LaIs gi' (dv + 6) nb w' h') (hP : PlIs gi' (dv + 6) pl') (hC : CsIs T gi' gr' (dv + 6) cs' cx') (hBd : BdAny gi' (dv + 6)) (hA : CAd T dv nb bx cx' cs') : CInv T gi' gr' dv nb bx cx' od par B fo pr w' h' pl' cs' D F ∧ CFr T T gi gi' gr gr' dv := by
  obtain ⟨hS, hB, hF, -, -, -, -, hD, hM, -⟩ := hI
  have hge := fun j (hj : j < nb) => (hS.2.2.1 j hj).2.2.2
  refine ⟨⟨hS.g8 h1, hB.row (h2 _ (by omega) (by omega) (by omega)) (fun i hi => ?_), ⟨by rw [h1 _ (by omega)]; exact hF.1, by rw [h1 _ (by omega)]; exact hF.2.1, hF.2.2⟩, hL, hP, hC, hBd, fun j hj => ?_, fun j hj => ?_, hA⟩, Nat.le_refl _, fun a g1 g2 => ⟨rfl, rfl, h2 a (by omega) (by omega) (by omega), h1 a (by omega)⟩⟩
  · have := hge i hi
    exact ⟨h2 _ (by omega) (by omega) (by omega), h2 _ (by omega) (by omega) (by omega), h2 _ (by omega) (by omega) (by omega)⟩
  · rw [h2 _ (by omega) (by omega) (by omega)]; exact hD j hj
  · rw [h2 _ (by omega) (by omega) (by omega)]; exact hM j hj
theorem CInv.grow {T T' : gT} {gi gi' : gI} {gr gr' : gR} {dv nb : Nat} {bx cx od : Nat → Nat} {par : Nat → Option Nat} {B : Nat → BS} {fo pr : Option Nat} {w h : Int32} {pl : Nat → Int32} {cs : Nat → Option K5} {D : Nat → Bool} {F : Nat → Int32} (hI : CInv T gi gr dv nb bx cx od par B fo pr w h pl cs D F) (hg : ∀ a, a < T.2.2 → T'.1 a = T.1 a ∧ T'.2.1 a = T.2.1 a ∧ gi' a = gi a ∧ gr' a = gr a) (hs : T.2.2 ≤ T'.2.2) : CInv T' gi' gr' dv nb bx cx od par B fo pr w h pl cs D F := by
  obtain ⟨⟨⟨a1, a2, a3, a4, a5, a6, a7, a8, a9, ⟨s1, s2, s3, s4, s5, s6, s7⟩, ⟨l1, l2, l3, l4, l5, l6, l7, l8, b1, b2, b3, b4, b5⟩⟩, c1, c2, c3, c4, c5, c6, c7⟩, hB, hF, hL, hP, hC, ⟨S, ec, q1, q2, q3⟩, hD, hM, hA⟩ := hI
  have hz := hA.1.2.2
  have eT : ∀ a, a < T.2.2 → T'.1 a = T.1 a := fun a ha => (hg a ha).1
  have eL : ∀ a, a < T.2.2 → T'.2.1 a = T.2.1 a := fun a ha => (hg a ha).2.1
  have eG : ∀ a, a < T.2.2 → gi' a = gi a := fun a ha => (hg a ha).2.2.1
  have eR : ∀ a, a < T.2.2 → gr' a = gr a := fun a ha => (hg a ha).2.2.2
  refine ⟨⟨⟨(eT _ (by omega)).trans a1, by rw [eR _ (by omega)]; exact a2, by rw [eR _ (by omega)]; exact a3, by rw [eR _ (by omega)]; exact a4, by rw [eR _ (by omega)]; exact a5, (eT _ (by omega)).trans a6, (eL _ (by omega)).trans a7, (eT _ (by omega)).trans a8, (eL _ (by omega)).trans a9, ⟨(eT _ (by omega)).trans s1, by rw [eR _ (by omega)]; exact s2, by rw [eR _ (by omega)]; exact s3, (eT _ (by omega)).trans s4, (eL _ (by omega)).trans s5, (eT _ (by omega)).trans s6, (eL _ (by omega)).trans s7⟩, ?_⟩, c1, fun i hi => ?_, c3, c4, c5, fun k hk => ?_, c7⟩, hB.row (eG _ (by omega)) (fun i hi => ?_), ⟨by rw [eR _ (by omega)]; exact hF.1, by rw [eR _ (by omega)]; exact hF.2.1, hF.2.2⟩, ?_, fun j hj => ?_, fun i hi => ?_, ⟨S, ec, ?_, ?_, fun i j hi hj => ?_⟩, fun j hj => ?_, fun j hj => ?_, ⟨hA.1.1, hA.1.2.1, by omega⟩, hA.2.1, fun i hi => Nat.le_trans (hA.2.2.1 i hi) hs, fun i hi hn => ?_⟩
  · refine ⟨(eT _ (by omega)).trans l1, by rw [eR _ (by omega)]; exact l2, by rw [eR _ (by omega)]; exact l3, by rw [eR _ (by omega)]; exact l4, (eT _ (by omega)).trans l5, (eL _ (by omega)).trans l6, (eT _ (by omega)).trans l7, (eL _ (by omega)).trans l8, (eT _ (by omega)).trans b1, (eT _ (by omega)).trans b2, (eL _ (by omega)).trans b3, by rw [eR _ (by omega)]; exact b4, fun i hi => ⟨by rw [eR _ (by omega)]; exact (b5 i hi).1, (eT _ (by omega)).trans (b5 i hi).2.1, (eL _ (by omega)).trans (b5 i hi).2.2⟩⟩
  · have hb3 := hA.2.2.1 i hi
    obtain ⟨d1, ⟨e1, e2, e3, e4, e5⟩, d3, d4⟩ := c2 i hi
    exact ⟨by rw [eR _ (by omega)]; exact d1, ⟨(eT _ (by omega)).trans e1, by rw [eR _ (by omega)]; exact e2, by rw [eR _ (by omega)]; exact e3, (eT _ (by omega)).trans e4, (eT _ (by omega)).trans e5⟩, by rw [eR _ (by omega)]; exact d3, d4⟩
  · rw [eR _ (by omega)]; exact c6 k hk
  · have hb3 := hA.2.2.1 i hi
    exact ⟨eG _ (by omega), eG _ (by omega), eG _ (by omega)⟩
  · unfold LaIs; rw [eG _ (by omega)]; exact hL
  · rw [eG _ (by omega)]; exact hP j hj
  · refine ⟨fun e => by rw [eR _ (by omega)]; exact (hC i hi).1 e, fun κ hκ => ?_⟩
    obtain ⟨k1, k2, k3, k4, k5⟩ := (hC i hi).2 κ hκ
    have ha := hA.2.2.2 i hi (by rw [hκ]; exact fun z => by cases z)
    exact ⟨by rw [eR _ (by omega)]; exact k1, (eT _ (by omega)).trans k2, k3.row (eG _ (by omega)), k4, k5⟩
  · rw [eG _ (by omega)]; exact q1
  · rw [eG _ (by omega)]; exact q2
  · rw [eG _ (by omega)]; exact q3 i j hi hj
  · rw [eG _ (by omega)]; exact hD j hj
  · rw [eG _ (by omega)]; exact hM j hj
  · obtain ⟨k1, k2, k3⟩ := hA.2.2.2 i hi hn
    exact ⟨k1, by omega, k3⟩
abbrev bxC (nb : Nat) (kd p : Int32) : Prop := nb < 6 ∧ ¬ kd < 0 ∧ ¬ 2 < kd ∧ isBx nb p
theorem C_box {E : gE} {T : gT} {gi : gI} {gr : gR} {dv nb : Nat} {bx cx od : Nat → Nat} {par : Nat → Option Nat} {B : Nat → BS} {fo pr : Option Nat} {w h : Int32} {pl : Nat → Int32} {cs : Nat → Option K5} {D : Nat → Bool} {F : Nat → Int32} {kd p : Int32} (hI : CInv T gi gr dv nb bx cx od par B fo pr w h pl cs D F) (hz : dv + 61 ≤ T.2.2) : Ct E mDV_box [.ref dv, .int kd, .int p] T gi gr (fun T' gi' gr' v => CFr T T' gi gi' gr gr' dv ∧ (bxC nb kd p ∧ v = some (.int (nI nb)) ∧ CInv T' gi' gr' dv (nb + 1) (gup bx nb T.2.2) cx (gup od nb nb) (gup par nb (some (ixI p))) (gup B nb (nwB kd nb)) fo pr w h pl cs D F ∨ ¬ bxC nb kd p ∧ v = some (.int (-1)) ∧ CInv T' gi' gr' dv nb bx cx od par B fo pr w h pl cs D F)) := by
  obtain ⟨hS, hB, hF, hL, hP, hC, hBd, hD, hM, hA⟩ := id hI
  have hn6 := hS.2.1.2
  have no : ¬ bxC nb kd p → G E mDV_box 26 [.ref dv, .int kd, .int p] [] T gi gr 0 0 (fun T' gi' gr' v => CFr T T' gi gi' gr gr' dv ∧ (bxC nb kd p ∧ v = some (.int (nI nb)) ∧ CInv T' gi' gr' dv (nb + 1) (gup bx nb T.2.2) cx (gup od nb nb) (gup par nb (some (ixI p))) (gup B nb (nwB kd nb)) fo pr w h pl cs D F ∨ ¬ bxC nb kd p ∧ v = some (.int (-1)) ∧ CInv T' gi' gr' dv nb bx cx od par B fo pr w h pl cs D F)) := by
    intro hn
    refine G_iconst (v := -1) dDV_box_26 (by decide) ?_
    exact G_ireturn dDV_box_27 rfl rfl (by decide) (by decide) ⟨CFr.rf, Or.inr ⟨hn, rfl, hI⟩⟩
  refine Ct_of (ls := [.ref dv, .int kd, .int p]) (by decide) (gcat_cons rfl (gcat_cons rfl (gcat_cons rfl gcat_nil))) (Nat.le_of_ble_eq_true rfl) rfl ?_
  refine G_aload_n dDV_box_0 rfl ?_
  refine G_getI fDV_45 dDV_box_1 hS.1.1 ?_
  rw [hB.1]
  refine G_bipush (v := 6) dDV_box_4 (by decide) ?_
  refine G_icmp_ge dDV_box_6 (fun h1 => no (fun z => nI_ge (b := 6) z.1 (by decide) h1)) (fun h1 => ?_)
  have hnb : nb < 6 := by
    rcases Nat.lt_or_ge nb 6 with c | c
    · exact c
    · exact absurd (nI_le (a := 6) c (by omega)) h1
  refine G_iload_n dDV_box_9 rfl ?_
  refine G_if_lt dDV_box_10 (fun h2 => no (fun z => z.2.1 h2)) (fun h2 => ?_)
  refine G_iload_n dDV_box_13 rfl ?_
  refine G_iconst (v := 2) dDV_box_14 (by decide) ?_
  refine G_icmp_gt dDV_box_15 (fun h3 => no (fun z => z.2.2.1 h3)) (fun h3 => ?_)
  refine G_aload_n dDV_box_18 rfl ?_
  refine G_iload_n dDV_box_19 rfl ?_
  refine G_callV (As := [.int p]) (rest := []) gDV_box_DV_isBox lDV_49.1 lDV_49.2.1 lDV_49.2.2.1 lDV_49.2.2.2 dDV_box_20 rfl (Nat.le_of_ble_eq_true rfl) hS.1.1 ⟨by decide, by decide⟩ (cDV_isBox hS hB) ?_
  refine same4 ?_
  refine G_st (st' := [.int (if isBx nb p then 1 else 0)]) rfl ?_
  refine G_if_ne dDV_box_23 (fun h4 => ?_) (fun h4 => no (fun z => (if01.mp h4) z.2.2.2))
  have hb : isBx nb p := by
    by_cases c : isBx nb p
    · exact c
    · exact absurd (if01.mpr c) h4
  have hcc : bxC nb kd p := ⟨hnb, h2, h3, hb⟩
  obtain ⟨j, hj, rfl⟩ := isBx_of hn6 hb
  rw [ixI_n (by omega)] at no ⊢
  refine G_aload_n dDV_box_28 rfl ?_
  refine G_iload_n dDV_box_29 rfl ?_
  refine G_aload_n dDV_box_30 rfl ?_
  refine G_getRs fDV_18 dDV_box_31 hS.1.1 hS.1.2.2.2.1 ?_
  refine G_iload_n dDV_box_34 rfl ?_
  refine G_aaldsN 2 dDV_box_35 (by decide) hS.1.2.2.2.2.2.1 hS.1.2.2.2.2.2.2.1 (by decide) (by omega) (hS.2.2.1 j hj).1 ?_
  refine G_callV (As := [.int kd, .ref (bx j)]) (rest := []) gDV_box_DV_addBox lDV_38.1 lDV_38.2.1 lDV_38.2.2.1 lDV_38.2.2.2 dDV_box_36 rfl (Nat.le_of_ble_eq_true rfl) hS.1.1 ⟨by decide, by decide⟩ (cDV_addBox (p := some j) hS hB hL hnb rfl (by omega) hA.2.2.1 (fun k z => by cases z; exact hj) ⟨(fun z => by cases z), fun z => by omega⟩) ?_
  rintro T1 g1 r1 _ ⟨rfl, hs1, hS1, hB1, hL1, hAd⟩
  refine G_st (st' := [.int (nI nb)]) rfl ?_
  have eG : ∀ a, a < T.2.2 → a ≠ dv → a ≠ dv + 6 → g1 a = gi a := fun a ha => (hAd a ha).2.2.1
  have eR : ∀ a, a < T.2.2 → a ≠ dv + 4 → a ≠ dv + 5 → r1 a = gr a := fun a ha => (hAd a ha).2.2.2
  refine G_ireturn dDV_box_39 rfl rfl (by decide) (by decide) ⟨⟨by omega, fun a g1 g2 => ⟨(hAd a (by omega)).1, (hAd a (by omega)).2.1, eG a (by omega) (by omega) (by omega), eR a (by omega) (by omega) (by omega)⟩⟩, Or.inl ⟨hcc, rfl, hS1, hB1, ⟨?_, ?_, fun i hi => ?_, fun i hi => ?_⟩, hL1, fun k hk => ?_, fun i hi => ?_, ?_, fun k hk => ?_, fun k hk => ?_, ⟨by omega, ?_, by omega⟩, fun i h1 h2 => ?_, fun i hi => ?_, fun i hi hn => ?_⟩⟩
  · rw [eR _ (by omega) (by omega) (by omega), hF.1]
    cases fo with
    | none => rfl
    | some i => simp only [Option.map_some]; rw [gup_ne (by have := hF.2.2.1 i rfl; omega)]
  · rw [eR _ (by omega) (by omega) (by omega), hF.2.1]
    cases pr with
    | none => rfl
    | some i => simp only [Option.map_some]; rw [gup_ne (by have := hF.2.2.2 i rfl; omega)]
  · have := hF.2.2.1 i hi; omega
  · have := hF.2.2.2 i hi; omega
  · rw [eG _ (by omega) (by omega) (by omega)]; exact hP k hk
  · refine ⟨fun e => by rw [eR _ (by omega) (by omega) (by omega)]; exact (hC i hi).1 e, fun κ hκ => ?_⟩
    obtain ⟨k1, k2, k3, k4, k5⟩ := (hC i hi).2 κ hκ
    have ha := hA.2.2.2 i hi (by rw [hκ]; exact fun z => by cases z)
    exact ⟨by rw [eR _ (by omega) (by omega) (by omega)]; exact k1, ((hAd _ (by omega)).1).trans k2, k3.row (eG _ (by omega) (by omega) (by omega)), k4, k5⟩
  · obtain ⟨S, ec, q1, q2, q3⟩ := hBd
    refine ⟨S, ec, ?_, ?_, fun i j hi hj => ?_⟩
    · rw [eG _ (by omega) (by omega) (by omega)]; exact q1
    · rw [eG _ (by omega) (by omega) (by omega)]; exact q2
    · rw [eG _ (by omega) (by omega) (by omega)]; exact q3 i j hi hj
  · rw [eG _ (by omega) (by omega) (by omega)]; exact hD k hk
  · rw [eG _ (by omega) (by omega) (by omega)]; exact hM k hk
  · rw [gup_ne (by omega)]; exact hA.1.2.1
  · by_cases e : i = nb
    · subst e; rw [gup_same]; omega
    · rw [gup_ne e]; exact hA.2.1 i h1 (by omega)
  · by_cases e : i = nb
    · subst e; rw [gup_same]; omega
    · rw [gup_ne e]; have := hA.2.2.1 i (by omega); omega
  · obtain ⟨k1, k2, k3⟩ := hA.2.2.2 i hi hn
    refine ⟨k1, by omega, fun k hk => ?_⟩
    by_cases e : k = nb
    · subst e; rw [gup_same]; omega
    · rw [gup_ne e]; exact k3 k (by omega)
abbrev cnC (nb : Nat) (p q c f s : Int32) : Prop := cjE nb p q ∧ isNr c ∧ ¬ f < 0 ∧ ¬ 1 < f ∧ ¬ s < 0 ∧ s ≤ 3
def kOf (p q c f s : Int32) : K5 := (ixI p, ixI q, c, ixI f, ixI s)
theorem C_constrain {E : gE} {T : gT} {gi : gI} {gr : gR} {dv nb : Nat} {bx cx od : Nat → Nat} {par : Nat → Option Nat} {B : Nat → BS} {fo pr : Option Nat} {w h : Int32} {pl : Nat → Int32} {cs : Nat → Option K5} {D : Nat → Bool} {F : Nat → Int32} {p q c f s : Int32} (hI : CInv T gi gr dv nb bx cx od par B fo pr w h pl cs D F) (hz : dv + 61 ≤ T.2.2) (hK : cnC nb p q c f s → ∀ i, i < 16 → cs i = none → slK w h nb (gup cs i (some (kOf p q c f s))) pl) : Ct E mDV_constrain [.ref dv, .int p, .int q, .int c, .int f, .int s] T gi gr (fun T' gi' gr' v => CFr T T' gi gi' gr gr' dv ∧ (¬ cnC nb p q c f s ∧ v = some (.int (-1)) ∧ CInv T' gi' gr' dv nb bx cx od par B fo pr w h pl cs D F ∨ cnC nb p q c f s ∧ (∀ j, j < 16 → cs j ≠ none) ∧ v = some (.int (-2)) ∧ CInv T' gi' gr' dv nb bx cx od par B fo pr w h pl cs D F ∨ cnC nb p q c f s ∧ ∃ i, i < 16 ∧ cs i = none ∧ (∀ j, j < i → cs j ≠ none) ∧ ∃ R, ((daP R w h nb (gup cs i (some (kOf p q c f s)))).2 = 0 ∧ v = some (.int (nI i)) ∧ CInv T' gi' gr' dv nb bx (gup cx i T.2.2) od par (scS par (slL R w h nb (gup cs i (some (kOf p q c f s))) pl) B nb fo pr D).1 (attP (scB par (slL R w h nb (gup cs i (some (kOf p q c f s))) pl) B nb) fo) (attP (scB par (slL R w h nb (gup cs i (some (kOf p q c f s))) pl) B nb) pr) w h (slL R w h nb (gup cs i (some (kOf p q c f s))) pl) (gup cs i (some (kOf p q c f s))) (scS par (slL R w h nb (gup cs i (some (kOf p q c f s))) pl) B nb fo pr D).2 F ∨ ¬ (daP R w h nb (gup cs i (some (kOf p q c f s)))).2 = 0 ∧ v = some (.int (-3)) ∧ CInv T' gi' gr' dv nb bx cx od par B fo pr w h pl cs D F))) := by
  obtain ⟨hS, hB, hF, hL, hP, hC, hBd, hD, hM, hA⟩ := id hI
  have hn6 := hS.2.1.2
  have hLa := hS.1.2.2.2.2.2.2.2.2.2.2
  generalize hQ : (fun (T' : gT) (gi' : gI) (gr' : gR) (v : Option Value) => CFr T T' gi gi' gr gr' dv ∧ (¬ cnC nb p q c f s ∧ v = some (.int (-1)) ∧ CInv T' gi' gr' dv nb bx cx od par B fo pr w h pl cs D F ∨ cnC nb p q c f s ∧ (∀ j, j < 16 → cs j ≠ none) ∧ v = some (.int (-2)) ∧ CInv T' gi' gr' dv nb bx cx od par B fo pr w h pl cs D F ∨ cnC nb p q c f s ∧ ∃ i, i < 16 ∧ cs i = none ∧ (∀ j, j < i → cs j ≠ none) ∧ ∃ R, ((daP R w h nb (gup cs i (some (kOf p q c f s)))).2 = 0 ∧ v = some (.int (nI i)) ∧ CInv T' gi' gr' dv nb bx (gup cx i T.2.2) od par (scS par (slL R w h nb (gup cs i (some (kOf p q c f s))) pl) B nb fo pr D).1 (attP (scB par (slL R w h nb (gup cs i (some (kOf p q c f s))) pl) B nb) fo) (attP (scB par (slL R w h nb (gup cs i (some (kOf p q c f s))) pl) B nb) pr) w h (slL R w h nb (gup cs i (some (kOf p q c f s))) pl) (gup cs i (some (kOf p q c f s))) (scS par (slL R w h nb (gup cs i (some (kOf p q c f s))) pl) B nb fo pr D).2 F ∨ ¬ (daP R w h nb (gup cs i (some (kOf p q c f s)))).2 = 0 ∧ v = some (.int (-3)) ∧ CInv T' gi' gr' dv nb bx cx od par B fo pr w h pl cs D F))) = QQ
  have no : ¬ cnC nb p q c f s → G E mDV_constrain 41 [.ref dv, .int p, .int q, .int c, .int f, .int s, .long 0] [] T gi gr 0 0 QQ := by
    intro hn
    subst hQ
    refine G_iconst (v := -1) dDV_constrain_41 (by decide) ?_
    exact G_ireturn dDV_constrain_42 rfl rfl (by decide) (by decide) ⟨CFr.rf, Or.inl ⟨hn, rfl, hI⟩⟩
  refine Ct_of (ls := [.ref dv, .int p, .int q, .int c, .int f, .int s, .long 0]) (by decide) (gcat_cons rfl (gcat_cons rfl (gcat_cons rfl (gcat_cons rfl (gcat_cons rfl (gcat_cons rfl gcat_nil)))))) (Nat.le_of_ble_eq_true rfl) rfl ?_
  refine G_aload_n dDV_constrain_0 rfl ?_
  refine G_getRs fDV_34 dDV_constrain_1 hS.1.1 hS.1.2.1 ?_
  refine G_iload_n dDV_constrain_4 rfl ?_
  refine G_iload_n dDV_constrain_5 rfl ?_
  refine G_callV (As := [.int p, .int q]) (rest := []) gDV_constrain_LA_canJoin lDV_53.1 lDV_53.2.1 lDV_53.2.2.1 lDV_53.2.2.2 dDV_constrain_6 rfl (Nat.le_of_ble_eq_true rfl) hLa.1 ⟨by decide, by decide⟩ (cLA_canJoin hLa hL) ?_
  refine same4 ?_
  refine G_st (st' := [.int (if cjE nb p q then 1 else 0)]) rfl ?_
  refine G_if_eq dDV_constrain_9 (fun h1 => no (fun z => (if01.mp h1) z.1)) (fun h1 => ?_)
  have k1 : cjE nb p q := by by_cases c : cjE nb p q; exact c; exact absurd (if01.mpr c) h1
  refine G_iload_n dDV_constrain_12 rfl ?_
  refine G_callS (As := [.int c]) (rest := []) gDV_constrain_DV_isNear lDV_57.1 lDV_57.2 dDV_constrain_13 rfl (Nat.le_of_ble_eq_true rfl) ⟨by decide, by decide⟩ cDV_isNear ?_
  refine same4 ?_
  refine G_st (st' := [.int (if isNr c then 1 else 0)]) rfl ?_
  refine G_if_eq dDV_constrain_16 (fun h2 => no (fun z => (if01.mp h2) z.2.1)) (fun h2 => ?_)
  have k2 : isNr c := by by_cases c' : isNr c; exact c'; exact absurd (if01.mpr c') h2
  refine G_iload dDV_constrain_19 rfl ?_
  refine G_if_lt dDV_constrain_21 (fun h3 => no (fun z => z.2.2.1 h3)) (fun h3 => ?_)
  refine G_iload dDV_constrain_24 rfl ?_
  refine G_iconst (v := 1) dDV_constrain_26 (by decide) ?_
  refine G_icmp_gt dDV_constrain_27 (fun h4 => no (fun z => z.2.2.2.1 h4)) (fun h4 => ?_)
  refine G_iload dDV_constrain_30 rfl ?_
  refine G_if_lt dDV_constrain_32 (fun h5 => no (fun z => z.2.2.2.2.1 h5)) (fun h5 => ?_)
  refine G_iload dDV_constrain_35 rfl ?_
  refine G_iconst (v := 3) dDV_constrain_37 (by decide) ?_
  refine G_icmp_le dDV_constrain_38 (fun h6 => ?_) (fun h6 => no (fun z => h6 z.2.2.2.2.2))
  have hcn : cnC nb p q c f s := ⟨k1, k2, h3, h4, h5, h6⟩
  refine G_aload_n dDV_constrain_43 rfl ?_
  refine G_getRs fDV_34 dDV_constrain_44 hS.1.1 hS.1.2.1 ?_
  refine G_callV (As := []) (rest := []) gDV_constrain_LA_freeNumber lDV_60.1 lDV_60.2.1 lDV_60.2.2.1 lDV_60.2.2.2 dDV_constrain_47 rfl (Nat.le_of_ble_eq_true rfl) hLa.1 ⟨by decide, by decide⟩ (cLA_freeNumber hLa) ?_
  rintro T1 g1 r1 v1 ⟨e1, e2, e3, hfr⟩
  cases e1.symm
  cases e2.symm
  cases e3.symm
  rcases hfr with ⟨i, hi, hni, hall, rfl⟩ | ⟨hall, rfl⟩
  · have hcsn : ∀ j, j < 16 → (gr (dv + 6 + 2) j = none ↔ cs j = none) := by
      intro j hj
      constructor
      · intro e
        cases hc : cs j with
        | none => rfl
        | some κ => rw [((hC j hj).2 κ hc).1] at e; cases e
      · exact (hC j hj).1
    have hni' : cs i = none := (hcsn i hi).mp hni
    have hall' : ∀ j, j < i → cs j ≠ none := fun j hj e => hall j hj ((hcsn j (by omega)).mpr e)
    refine G_st (st' := [.int (nI i)]) rfl ?_
    refine G_istore (ls' := [.ref dv, .int p, .int q, .int c, .int f, .int s, .int (nI i)]) dDV_constrain_50 (by decide) rfl ?_
    refine G_iload dDV_constrain_52 rfl ?_
    refine G_iconst (v := (-1)) dDV_constrain_54 (by decide) ?_
    refine G_icmp_ne dDV_constrain_55 (fun _ => ?_) (fun z => absurd (show nI i < 0 by rw [z]; decide) (nI_pos (by omega)))
    refine G_aload_n dDV_constrain_61 rfl ?_
    refine G_getRs fDV_34 dDV_constrain_62 hS.1.1 hS.1.2.1 ?_
    refine G_iload dDV_constrain_65 rfl ?_
    refine G_newA (a := T.2.2) nwDV_64 dDV_constrain_67 rfl (by decide) (by decide) ?_
    refine G_dup dDV_constrain_70 rfl ?_
    refine G_iload_n dDV_constrain_71 rfl ?_
    refine G_iload_n dDV_constrain_72 rfl ?_
    refine G_iload_n dDV_constrain_73 rfl ?_
    refine G_iload dDV_constrain_74 rfl ?_
    refine G_iload dDV_constrain_76 rfl ?_
    refine G_callI (As := [.int p, .int q, .int c, .int f, .int s]) (rest := [.ref T.2.2, .int (nI i), .ref (dv + 6)]) gDV_constrain_CN_init lDV_66.1 lDV_66.2 rfl rfl dDV_constrain_78 rfl (Nat.le_of_ble_eq_true rfl) ⟨by decide, by decide⟩ (cCN_init (ck := T.2.2) gNa_new) ?_
    rintro T2 g2 r2 _ ⟨e1, e2, rfl, y0, y1, y2, y3, y4, hO⟩
    refine G_st (st' := [.ref T.2.2, .int (nI i), .ref (dv + 6)]) rfl ?_
    have gr2 : ∀ a, a < T.2.2 → T2.1 a = T.1 a ∧ T2.2.1 a = T.2.1 a ∧ g2 a = gi a ∧ r2 a = gr a := by
      intro a ha
      refine ⟨?_, ?_, ?_, ?_⟩
      · rw [e1]; exact gup_ne (by omega)
      · rw [e1]; exact gup_ne (by omega)
      · rw [hO a (by omega)]; exact gup_ne (by omega)
      · rw [e2]; exact gup_ne (by omega)
    have hs2 : T2.2.2 = T.2.2 + 1 := by rw [e1]; rfl
    have ht2 : T2.1 T.2.2 = 7 := by rw [e1]; exact gNa_new
    have hI2 := hI.grow gr2 (by omega)
    have hf2 : CFr T T2 gi g2 gr r2 dv := ⟨by omega, fun a g1 g2 => gr2 a (by omega)⟩
    obtain ⟨hS2, hB2, hF2, hL2, hP2, hC2, hBd2, hD2, hM2, hA2⟩ := id hI2
    have hLa2 := hS2.1.2.2.2.2.2.2.2.2.2.2
    obtain ⟨jp, hjp, ep⟩ := isEd_of hn6 k1.1
    obtain ⟨jq, hjq, eq⟩ := isEd_of hn6 k1.2.1
    obtain ⟨jf, hjf, ef⟩ := nI_of2 (n := 1) (M := 1) (by decide) h3 (by rw [Int32.le_iff_toInt_le]; rw [Int32.lt_iff_toInt_lt] at h4; omega)
    obtain ⟨js, hjs, es⟩ := nI_of2 (n := 3) (M := 3) (by decide) h5 h6
    have hcnis : CnIs g2 T.2.2 (kOf p q c f s) := by
      unfold kOf
      rw [ep, eq, ef, es, ixI_n (by omega), ixI_n (by omega), ixI_n (by omega), ixI_n (by omega)]
      exact ⟨y0.trans es, y1.trans ep, y2.trans eq, y3, y4.trans ef⟩
    have hcnok : CnOk (kOf p q c f s) := by
      unfold kOf
      rw [ep, eq, ef, es, ixI_n (by omega), ixI_n (by omega), ixI_n (by omega), ixI_n (by omega)]
      exact ⟨by show jp < 24; omega, by show jq < 24; omega, by show jf < 2; omega, by show js < 4; omega⟩
    refine G_callV (As := [.int (nI i), .ref T.2.2]) (rest := []) gDV_constrain_LA_add lDV_69.1 lDV_69.2.1 lDV_69.2.2.1 lDV_69.2.2.2 dDV_constrain_81 rfl (Nat.le_of_ble_eq_true rfl) hLa2.1 ⟨by decide, by decide⟩ (cLA_add hLa2 hL2 hP2 hC2 hBd2 hn6 hi hni' ht2 hcnis hcnok (by omega) (hK hcn i hi hni')) ?_
    rintro T3 g3 r3 v3 ⟨e5, hBd3, hO3, R, hh⟩
    cases e5.symm
    rcases hh with ⟨hz0, rfl, e6, hP3⟩ | ⟨hz0, rfl, e6, hP3⟩
    · refine G_st (st' := [.int 1]) rfl ?_
      refine G_if_ne dDV_constrain_84 (fun _ => ?_) (fun z => absurd z (by decide))
      have hI3 := hI2.la (gi' := g3) (gr' := r3) (cs' := (gup cs i (some (kOf p q c f s)))) (cx' := gup cx i T.2.2) (fun a ha => by rw [e6, gu_off ha]) (fun a h1 h2 h3 => hO3 a h2 h3) (hL2.lo hO3) hP3 (by rw [e6]; exact (hC2.lo hO3).put ht2 (hcnis.row (hO3 _ (by omega) (by omega))) hcnok (by omega)) hBd3 ⟨⟨hA.1.1, hA.1.2.1, by omega⟩, hA.2.1, hA2.2.2.1, fun j hj hn => ?_⟩
      · refine G_aload_n dDV_constrain_90 rfl ?_
        refine G_callV (As := []) (rest := []) gDV_constrain_DV_showChanges lDV_42.1 lDV_42.2.1 lDV_42.2.2.1 lDV_42.2.2.2 dDV_constrain_91 rfl (Nat.le_of_ble_eq_true rfl) hS2.1.1 ⟨by decide, by decide⟩ (C_show hI3.1) ?_
        rintro T4 g4 r4 _ ⟨e7, rfl, hI4, hf4⟩
        cases e7.symm
        refine G_st (st' := []) rfl ?_
        refine G_iload dDV_constrain_94 rfl ?_
        subst hQ
        exact G_ireturn dDV_constrain_96 rfl rfl (by decide) (by decide) ⟨hf2.tr (hI3.2.tr hf4), Or.inr (Or.inr ⟨hcn, i, hi, hni', hall', R, Or.inl ⟨hz0, rfl, hI4⟩⟩)⟩
      · by_cases e : j = i
        · subst e
          rw [gup_same]
          refine ⟨by omega, by omega, fun k hk => ?_⟩
          have := hA.2.2.1 k hk
          omega
        · rw [gup_ne e] at hn ⊢
          exact hA2.2.2.2 j hj hn
    · refine G_st (st' := [.int 0]) rfl ?_
      refine G_if_ne dDV_constrain_84 (fun z => absurd rfl z) (fun _ => ?_)
      have hI3 := hI2.la (gi' := g3) (gr' := r3) (fun a ha => by rw [e6]) (fun a h1 h2 h3 => hO3 a h2 h3) (hL2.lo hO3) hP3 (by rw [e6]; exact hC2.lo hO3) hBd3 hA2
      refine G_bipush (v := (-3)) dDV_constrain_87 (by decide) ?_
      subst hQ
      exact G_ireturn dDV_constrain_89 rfl rfl (by decide) (by decide) ⟨hf2.tr hI3.2, Or.inr (Or.inr ⟨hcn, i, hi, hni', hall', R, Or.inr ⟨hz0, rfl, hI3.1⟩⟩)⟩
  · refine G_st (st' := [.int (-1)]) rfl ?_
    refine G_istore (ls' := [.ref dv, .int p, .int q, .int c, .int f, .int s, .int (-1)]) dDV_constrain_50 (by decide) rfl ?_
    refine G_iload dDV_constrain_52 rfl ?_
    refine G_iconst (v := (-1)) dDV_constrain_54 (by decide) ?_
    refine G_icmp_ne dDV_constrain_55 (fun z => absurd rfl z) (fun _ => ?_)
    refine G_bipush (v := (-2)) dDV_constrain_58 (by decide) ?_
    subst hQ
    exact G_ireturn dDV_constrain_60 rfl rfl (by decide) (by decide) ⟨CFr.rf, Or.inr (Or.inl ⟨hcn, fun j hj e => hall j hj ((hC j hj).1 e), rfl, hI⟩)⟩
