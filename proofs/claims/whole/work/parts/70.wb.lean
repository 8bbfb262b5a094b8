theorem KS_M {N : Nat} {M : Int} {Ed : Nat → Nat → Int → Prop} {C : Nat → Nat → Int32} (hM : 99 ≤ M) (h : KS N 99 Ed C) : KS N M Ed C := ⟨h.1, h.2.1, fun a b ha hb hf => Wk_mono (fun u v w ⟨h1, h2, h3, h4, h5⟩ => ⟨h1, h2, h3, h4, by
  rcases h5 with h5 | ⟨h5, h6⟩
  · exact Or.inl h5
  · exact Or.inl h6⟩) (h.2.2 a b ha hb hf)⟩
theorem VS_soft {N : Nat} {κ : K5} {cf : Int32} {M : Int} {S : RS} {C : Nat → Nat → Int32} (h4 : 4 ≤ N) (hN : N ≤ 24) (hM : 99 ≤ M ∧ M ≤ 1700000) (h : VS N M S C) (h1 : κ.1 < N) (h2 : κ.2.1 < N) (h3 : ax κ.1 = ax κ.2.1) (h5 : -99 ≤ κ.2.2.1.toInt ∧ κ.2.2.1.toInt ≤ 99) : lerK C κ N ∧ VS N M (sfM S κ) (lerM C κ N) ∧ lerC C κ N cf = cf := by
  by_cases c : κ.2.2.2.1 = 0
  · obtain ⟨g1, g2, g3, g4, g5⟩ := VS_st (cf := cf) h4 hN hM h h1 h2 h3 (Or.inl h5)
    refine ⟨⟨fun _ => ⟨g2, g3⟩, fun z => absurd c z⟩, ?_, ?_⟩
    · unfold sfM lerM; rw [if_pos c, if_pos c]; exact g4
    · unfold lerC; rw [if_pos c]; exact g5
  · obtain ⟨g1, g2, g3, g4⟩ := VS_at (cf := cf) h4 hN hM h h1 h2 h3 h5
    have e : sfE S κ = lowE C κ := g1
    refine ⟨⟨fun z => absurd z c, fun _ => g2⟩, ?_, ?_⟩
    · unfold sfM lerM; rw [if_neg c, if_neg c, e]; exact g3
    · unfold lerC; rw [if_neg c]; exact g4
theorem mc_VS {nb s : Nat} {P : S2} {M : Int} {S : RS} {cs : Nat → Option K5} (hnb : 1 ≤ nb ∧ nb ≤ 6) (hM : 99 ≤ M ∧ M ≤ 1700000) (hc : csV nb cs) (h : VS (4 * nb) M S P.1) : ∀ i, i ≤ 16 → (∀ j κ, j < i → cs j = some κ → κ.2.2.2.2 = s → lerK (csP P cs (4 * nb) s j).1 κ (4 * nb)) ∧ VS (4 * nb) M (mcS S cs s i) (csP P cs (4 * nb) s i).1
  | 0, _ => ⟨fun c κ hc => absurd hc (Nat.not_lt_zero _), h⟩
  | i + 1, hi => by
    obtain ⟨i1, i2⟩ := mc_VS hnb hM hc h i (by omega)
    cases e : cs i with
    | none =>
      refine ⟨fun j κ hj hk => ?_, ?_⟩
      · by_cases e2 : j = i
        · subst e2; rw [e] at hk; cases hk
        · exact i1 j κ (by omega) hk
      · unfold mcS csP; rw [e]; exact i2
    | some κ =>
      obtain ⟨g1, g2, g3, g4⟩ := hc i κ (by omega) e
      by_cases t : κ.2.2.2.2 = s
      · obtain ⟨k1, k2, k3⟩ := VS_soft (cf := 0) (by omega) (by omega) hM i2 g1 g2 g3 g4
        refine ⟨fun j κ' hj hk hs => ?_, ?_⟩
        · by_cases e2 : j = i
          · subst e2; rw [e] at hk; cases hk; exact k1
          · exact i1 j κ' (by omega) hk hs
        · unfold mcS csP; rw [e]; dsimp only; rw [if_pos t, if_pos t]; exact k2
      · refine ⟨fun j κ' hj hk hs => ?_, ?_⟩
        · by_cases e2 : j = i
          · subst e2; rw [e] at hk; cases hk; exact absurd hs t
          · exact i1 j κ' (by omega) hk hs
        · unfold mcS csP; rw [e]; dsimp only; rw [if_neg t, if_neg t]; exact i2
theorem ms_VS {nb : Nat} {P : S2} {M : Int} {S : RS} {cs : Nat → Option K5} (hnb : 1 ≤ nb ∧ nb ≤ 6) (hM : 99 ≤ M ∧ M ≤ 1700000) (hc : csV nb cs) (h : VS (4 * nb) M S P.1) : ∀ k, (∀ k' i κ, k' < k → i < 16 → cs i = some κ → κ.2.2.2.2 = k' + 1 → lerK (csP (sfP P cs (4 * nb) k') cs (4 * nb) (k' + 1) i).1 κ (4 * nb)) ∧ VS (4 * nb) M (msS S cs k) (sfP P cs (4 * nb) k).1
  | 0 => ⟨fun k' i κ hk => absurd hk (Nat.not_lt_zero _), h⟩
  | k + 1 => by
    obtain ⟨i1, i2⟩ := ms_VS hnb hM hc h k
    obtain ⟨j1, j2⟩ := mc_VS (s := k + 1) hnb hM hc i2 16 (Nat.le_refl _)
    refine ⟨fun k' i κ hk hi he hs => ?_, j2⟩
    by_cases e : k' = k
    · subst e; exact j1 i κ hi he hs
    · exact i1 k' i κ (by omega) hi he hs
theorem me_VS {nb : Nat} {P : S2} {M : Int} {S : RS} {pl : Nat → Int32} (hnb : 1 ≤ nb ∧ nb ≤ 6) (hM : 99 ≤ M ∧ M ≤ 1700000) (hpl : ∀ j, j < 4 * nb → -M ≤ (pl j).toInt ∧ (pl j).toInt ≤ M) (h : VS (4 * nb) M S P.1) : ∀ e, e ≤ 4 * nb → (∀ j, j < e → fixK (edP P pl (4 * nb) j) j 0 (edD (edP P pl (4 * nb) j) pl j) (4 * nb) ∧ meD S pl j = edD (edP P pl (4 * nb) j) pl j ∧ -(2277 + M) ≤ (meD S pl j).toInt ∧ (meD S pl j).toInt ≤ 2277 + M) ∧ VS (4 * nb) M (meS S pl e) (edP P pl (4 * nb) e).1
  | 0, _ => ⟨fun j hj => absurd hj (Nat.not_lt_zero _), h⟩
  | e + 1, he => by
    obtain ⟨i1, i2⟩ := me_VS hnb hM hpl h e (by omega)
    obtain ⟨g1, g2, g3, g4, g5, g6⟩ := VS_og (cf := 0) (c := pl e) (by omega) (by omega) hM i2 (show e < 4 * nb by omega) (hpl e (by omega))
    have g1' : meD S pl e = edD (edP P pl (4 * nb) e) pl e := g1
    refine ⟨fun j hj => ?_, g4⟩
    by_cases e2 : j = e
    · subst e2
      refine ⟨⟨g2, g3⟩, g1', ?_⟩
      rw [g1']; exact g6
    · exact i1 j (by omega)
def plB (nb : Nat) (M : Int) (pl : Nat → Int32) : Prop := ∀ j, j < 4 * nb → -M ≤ (pl j).toInt ∧ (pl j).toInt ≤ M
theorem fin_VS {nb : Nat} {P : S2} {M : Int} {S : RS} {pl : Nat → Int32} {cs : Nat → Option K5} (hnb : 1 ≤ nb ∧ nb ≤ 6) (hM : 99 ≤ M ∧ M ≤ 1700000) (hc : csV nb cs) (hpl : plB nb M pl) (h : VS (4 * nb) M S P.1) : cbK P pl nb cs ∧ edL (sfP P cs (4 * nb) 3) pl (4 * nb) (4 * nb) = (fun j => if j < 4 * nb then meD (msS S cs 3) pl j else pl j) ∧ plB nb (2277 + M) (fun j => if j < 4 * nb then meD (msS S cs 3) pl j else pl j) := by
  obtain ⟨s1, s2⟩ := ms_VS hnb hM hc h 3
  obtain ⟨e1, e2⟩ := me_VS hnb hM hpl s2 (4 * nb) (Nat.le_refl _)
  refine ⟨⟨fun k i κ hk => s1 k i κ hk, fun e he => (e1 e he).1⟩, ?_, ?_⟩
  · funext j
    unfold edL
    by_cases c : j < 4 * nb
    · rw [if_pos c, if_pos c]; exact (e1 j c).2.1.symm
    · rw [if_neg c, if_neg c]
  · intro j hj
    dsimp only
    rw [if_pos hj]
    exact (e1 j hj).2.2
theorem sl_ok {nb : Nat} {w h : Int32} {M : Int} {pl : Nat → Int32} {cs : Nat → Option K5} (hnb : 1 ≤ nb ∧ nb ≤ 6) (hwh : whV w h) (hM : 99 ≤ M ∧ M ≤ 1700000) (hc : csV nb cs) (hpl : plB nb M pl) : slK w h nb cs pl ∧ ∀ R x, (daP R w h nb cs).2 = 0 → slL R w h nb cs pl = slP w h nb cs pl none x ∧ plB nb (2277 + M) (slP w h nb cs pl none x) := by
  have key : ∀ R, (daP R w h nb cs).2 = 0 → VS (4 * nb) M (rqM w h nb cs) (daP R w h nb cs).1 := by
    intro R h0
    obtain ⟨-, -, v⟩ := da_RQ R hnb hwh hc
    exact ⟨KS_M hM.1 ((da_cf R hnb hwh hc).2 h0), RV_mono v (by omega)⟩
  refine ⟨fun R => ⟨(da_RQ R hnb hwh hc).1, fun h0 => (fin_VS hnb hM hc hpl (key R h0)).1⟩, fun R x h0 => ?_⟩
  exact (fin_VS hnb hM hc hpl (key R h0)).2
theorem nr_ok {nb e : Nat} {w h x : Int32} {M : Int} {pl : Nat → Int32} {cs : Nat → Option K5} (hnb : 1 ≤ nb ∧ nb ≤ 6) (hwh : whV w h) (hM : 99 ≤ M ∧ M ≤ 1700000) (hc : csV nb cs) (hpl : plB nb M pl) (hf : cfM (rqM w h nb cs) = false) (he : e < 4 * nb) (hx : -M ≤ x.toInt ∧ x.toInt ≤ M) : nrK w h nb cs pl e x ∧ (∀ R, nrL R w h nb cs pl e x = slP w h nb cs pl (some e) x) ∧ plB nb (2277 + M) (slP w h nb cs pl (some e) x) := by
  have key : ∀ R, fixK (daP R w h nb cs) e 0 (nearI x (-((daP R w h nb cs).1 e 0)) ((daP R w h nb cs).1 0 e)) (4 * nb) ∧ VS (4 * nb) M (slS0 w h nb cs (some e) x) (nrS R w h nb cs e x).1 := by
    intro R
    obtain ⟨-, -, v⟩ := da_RQ R hnb hwh hc
    have dc := da_cf R hnb hwh hc
    have v0 : VS (4 * nb) M (rqM w h nb cs) (daP R w h nb cs).1 := ⟨KS_M hM.1 (dc.2 (dc.1.mpr hf)), RV_mono v (by omega)⟩
    obtain ⟨g1, g2, g3, g4, g5, g6⟩ := VS_og (cf := 0) (c := x) (by omega) (by omega) hM v0 he hx
    exact ⟨⟨g2, g3⟩, g4⟩
  refine ⟨fun R => ⟨(da_RQ R hnb hwh hc).1, (key R).1, (fin_VS hnb hM hc hpl (key R).2).1⟩, fun R => (fin_VS hnb hM hc hpl (key R).2).2.1, ?_⟩
  exact (fin_VS hnb hM hc hpl (key (fun _ _ => 0)).2).2.2
def SubE (S S' : RS) : Prop := ∀ a b w, EdC S a b w → EdC S' a b w
theorem SubE.tr {S1 S2 S3 : RS} (h : SubE S1 S2) (h' : SubE S2 S3) : SubE S1 S3 := fun a b w z => h' a b w (h a b w z)
theorem Sub_rw {S : RS} {p q : Nat} {x : Int32} : SubE S (rwA S p q x) := fun a b w z => (EdC_add a b w).mpr (Or.inl z)
theorem Sub_ex {S : RS} {p q : Nat} {x : Int32} : SubE S (exA S p q x) := Sub_rw.tr Sub_rw
theorem Sub_B {S : RS} : ∀ b, SubE S (rqB S b)
  | 0 => fun _ _ _ z => z
  | b + 1 => ((Sub_B b).tr Sub_rw).tr Sub_rw
theorem Sub_C {S : RS} {cs : Nat → Option K5} : ∀ i, SubE S (rqC S cs i)
  | 0 => fun _ _ _ z => z
  | i + 1 => by
    unfold rqC
    split
    · split
      · unfold rqK
        split
        · exact (Sub_C i).tr Sub_ex
        · exact (Sub_C i).tr Sub_rw
      · exact Sub_C i
    · exact Sub_C i
theorem Sub_mc {S : RS} {cs : Nat → Option K5} {s : Nat} : ∀ i, SubE S (mcS S cs s i)
  | 0 => fun _ _ _ z => z
  | i + 1 => by
    unfold mcS
    split
    · split
      · unfold sfM
        split
        · exact (Sub_mc i).tr Sub_ex
        · exact (Sub_mc i).tr Sub_rw
      · exact Sub_mc i
    · exact Sub_mc i
theorem Sub_ms {S : RS} {cs : Nat → Option K5} : ∀ k, SubE S (msS S cs k)
  | 0 => fun _ _ _ z => z
  | k + 1 => (Sub_ms k).tr (Sub_mc 16)
theorem Sub_me {S : RS} {pl : Nat → Int32} : ∀ e, SubE S (meS S pl e)
  | 0 => fun _ _ _ z => z
  | e + 1 => (Sub_me e).tr Sub_ex
theorem Sub_0 {w h : Int32} {nb : Nat} {cs : Nat → Option K5} {q : Option Nat} {x : Int32} : SubE (rq0 w h) (slS0 w h nb cs q x) := by
  cases q with
  | none => exact (Sub_B nb).tr (Sub_C 16)
  | some e => exact ((Sub_B nb).tr (Sub_C 16)).tr Sub_ex
theorem tight_og {N e : Nat} {M : Int} {S : RS} {C : Nat → Nat → Int32} (h4 : 4 ≤ N) (h : KS N M (EdC S) C) (he : e < N) {c : Int32} {v : Int} (hv : -1000 ≤ v ∧ v ≤ 1000) (w1 : Wk (EdC S) 0 e v) (w2 : Wk (EdC S) e 0 (-v)) : (nearI c (-(C e 0)) (C 0 e)).toInt = v := by
  have hT := Cl_tri h.1 h.2.1
  have e1 := (h.2.1 0 e (by omega) he).2.2 v w1
  have e2 := (h.2.1 e 0 he (by omega)).2.2 (-v) w2
  have e3 := (hT.2 0 e 0 (by omega) he (by omega) e1.2 e2.2).1
  have e4 := hT.1 0 (by omega)
  have e5 : iR C 0 e = v := by omega
  have e6 : iR C e 0 = -v := by omega
  have n : (-(C e 0)).toInt = -iR C e 0 := i_neg (by show -2147483648 < iR C e 0; omega)
  rw [nearI_i, n]
  show (if -iR C e 0 ≤ c.toInt then (if c.toInt ≤ iR C 0 e then c.toInt else iR C 0 e) else -iR C e 0) = v
  rw [e5, e6]
  split
  · split <;> omega
  · omega
theorem win_w {w h : Int32} {S : RS} (hwh : whV w h) (hs : SubE (rq0 w h) S) : (Wk (EdC S) 0 1 w.toInt ∧ Wk (EdC S) 1 0 (-w.toInt)) ∧ (Wk (EdC S) 0 2 0 ∧ Wk (EdC S) 2 0 0) ∧ (Wk (EdC S) 0 3 h.toInt ∧ Wk (EdC S) 3 0 (-h.toInt)) := by
  have a1 := hwh.1
  have a2 := hwh.2
  have eC : ∀ a b v, EdAdd (EdAdd (EdC (exA (0, fun _ => 0, fun _ => 0, fun _ => 0) 1 0 w)) 2 3 h.toInt) 3 2 (-h.toInt) a b v → EdC S a b v := fun a b v z => hs a b v ((EdC_ex (by omega) a b v).mpr z)
  have eD : ∀ a b v, EdAdd (EdAdd (EdC (0, fun _ => 0, fun _ => 0, fun _ => 0)) 0 1 w.toInt) 1 0 (-w.toInt) a b v → EdC (exA (0, fun _ => 0, fun _ => 0, fun _ => 0) 1 0 w) a b v := fun a b v z => (EdC_ex (by omega) a b v).mpr z
  have t1 : Wk (EdC S) 0 2 0 := Wk_one TE_C.1
  have t2 : Wk (EdC S) 2 0 0 := Wk_one TE_C.2
  refine ⟨⟨Wk_one (eC _ _ _ (Or.inl (Or.inl (eD _ _ _ (Or.inl (Or.inr ⟨rfl, rfl, rfl⟩)))))), Wk_one (eC _ _ _ (Or.inl (Or.inl (eD _ _ _ (Or.inr ⟨rfl, rfl, rfl⟩)))))⟩, ⟨t1, t2⟩, ?_, ?_⟩
  · have := Wk_app t1 (Wk_one (eC 2 3 h.toInt (Or.inl (Or.inr ⟨rfl, rfl, rfl⟩))))
    rw [Int.zero_add] at this; exact this
  · have := Wk_app (Wk_one (eC 3 2 (-h.toInt) (Or.inr ⟨rfl, rfl, rfl⟩))) t2
    rw [Int.add_zero] at this; exact this
def winP (w h : Int32) (pl : Nat → Int32) : Prop := pl 0 = 0 ∧ pl 1 = w ∧ pl 2 = 0 ∧ pl 3 = h
theorem sl_win {nb : Nat} {w h x : Int32} {M : Int} {pl : Nat → Int32} {cs : Nat → Option K5} {q : Option Nat} (hnb : 1 ≤ nb ∧ nb ≤ 6) (hwh : whV w h) (hM : 99 ≤ M ∧ M ≤ 1700000) (hc : csV nb cs) (hpl : plB nb M pl) (hf : cfM (rqM w h nb cs) = false) (hq : ∀ e, q = some e → e < 4 * nb ∧ -M ≤ x.toInt ∧ x.toInt ≤ M) : winP w h (slP w h nb cs pl q x) := by
  have a1 := hwh.1
  have a2 := hwh.2
  have key : ∃ C, VS (4 * nb) M (slS0 w h nb cs q x) C := by
    obtain ⟨-, -, v⟩ := da_RQ (fun _ _ => 0) hnb hwh hc
    have dc := da_cf (fun _ _ => 0) hnb hwh hc
    have v0 : VS (4 * nb) M (rqM w h nb cs) (daP (fun _ _ => 0) w h nb cs).1 := ⟨KS_M hM.1 (dc.2 (dc.1.mpr hf)), RV_mono v (by omega)⟩
    cases q with
    | none => exact ⟨_, v0⟩
    | some e =>
      have he := hq e rfl
      exact ⟨_, (VS_og (cf := 0) (c := x) (by omega) (by omega) hM v0 he.1 he.2).2.2.2.1⟩
  obtain ⟨C, hC⟩ := key
  obtain ⟨-, s2⟩ := ms_VS (P := (C, 0)) hnb hM hc hC 3
  have at_ : ∀ e v, e < 4 → -1000 ≤ v ∧ v ≤ 1000 → (∀ S, SubE (rq0 w h) S → Wk (EdC S) 0 e v ∧ Wk (EdC S) e 0 (-v)) → (slP w h nb cs pl q x e).toInt = v := by
    intro e v he hv hS
    obtain ⟨e1, -⟩ := me_VS hnb hM hpl s2 (4 * nb) (Nat.le_refl _)
    obtain ⟨-, e2⟩ := me_VS hnb hM hpl s2 e (by omega)
    have e3 := (e1 e (by omega)).2.1
    have e4 : slP w h nb cs pl q x e = meD (msS (slS0 w h nb cs q x) cs 3) pl e := if_pos (by omega)
    rw [e4, e3]
    have hw := hS (meS (msS (slS0 w h nb cs q x) cs 3) pl e) (((Sub_0).tr (Sub_ms 3)).tr (Sub_me e))
    exact tight_og (by omega) e2.1 (by omega) hv hw.1 hw.2
  refine ⟨?_, ?_, ?_, ?_⟩
  · exact Int32.toInt_inj.mp (at_ 0 0 (by omega) (by omega) (fun S hS => ⟨Wk_nil, Wk_nil⟩))
  · exact Int32.toInt_inj.mp (at_ 1 w.toInt (by omega) (by omega) (fun S hS => (win_w hwh hS).1))
  · exact Int32.toInt_inj.mp (at_ 2 0 (by omega) (by omega) (fun S hS => (win_w hwh hS).2.1))
  · exact Int32.toInt_inj.mp (at_ 3 h.toInt (by omega) (by omega) (fun S hS => (win_w hwh hS).2.2))
