theorem sh_at {B : Nat → BS} {fo pr : Option Nat} {D : Nat → Bool} : ∀ n i, (shL B fo pr D n).1 i = if i < n then shB i (B i) fo pr else B i
  | 0, i => by rw [if_neg (Nat.not_lt_zero _)]; rfl
  | n + 1, i => by
    have e : (shL B fo pr D (n + 1)).1 = gup (shL B fo pr D n).1 n (shB n ((shL B fo pr D n).1 n) fo pr) := rfl
    have en : (shL B fo pr D n).1 n = B n := by rw [sh_at n n, if_neg (Nat.lt_irrefl _)]
    rw [e, en]
    by_cases c : i = n
    · subst c; rw [gup_same, if_pos (by omega)]
    · rw [gup_ne c, sh_at n i]
      by_cases d : i < n
      · rw [if_pos d, if_pos (by omega)]
      · rw [if_neg d, if_neg (by omega)]
theorem dm_iff {D : Nat → Bool} {q : A4} {j : Nat} (hj : j < 384) : dmA D q 384 j = true ↔ D j = true ∨ iA q j := by
  show (D j || (decide (j < 384) && decide (arH q (nI (j % 24)) (nI (j / 24))))) = true ↔ _
  rw [Bool.or_eq_true, Bool.and_eq_true, decide_eq_true_iff, decide_eq_true_iff]
  exact ⟨fun h => h.elim Or.inl (fun z => Or.inr z.2), fun h => h.elim Or.inl (fun z => Or.inr ⟨hj, z⟩)⟩
theorem sh_D {B : Nat → BS} {fo pr : Option Nat} {D : Nat → Bool} {j : Nat} (hj : j < 384) : ∀ n, (shL B fo pr D n).2 j = true ↔ D j = true ∨ ∃ i, i < n ∧ shD i (B i) fo pr ∧ (iA (B i).2.2.2.2.2.2 j ∨ iA (B i).2.2.2.2.2.1 j)
  | 0 => ⟨Or.inl, fun h => h.elim id (fun ⟨i, hi, _⟩ => absurd hi (Nat.not_lt_zero _))⟩
  | n + 1 => by
    have ih := sh_D (B := B) (fo := fo) (pr := pr) (D := D) hj n
    have e : (shL B fo pr D (n + 1)).2 = shDm n ((shL B fo pr D n).1 n) fo pr (shL B fo pr D n).2 := rfl
    have en : (shL B fo pr D n).1 n = B n := by rw [sh_at n n, if_neg (Nat.lt_irrefl _)]
    rw [e, en]
    unfold shDm
    by_cases c : shD n (B n) fo pr
    · rw [if_pos c, dm_iff hj, dm_iff hj, ih]
      constructor
      · rintro (((h | ⟨i, h1, h2⟩) | h) | h)
        · exact Or.inl h
        · exact Or.inr ⟨i, by omega, h2⟩
        · exact Or.inr ⟨n, by omega, c, Or.inl h⟩
        · exact Or.inr ⟨n, by omega, c, Or.inr h⟩
      · rintro (h | ⟨i, h1, h2, h3⟩)
        · exact Or.inl (Or.inl (Or.inl h))
        · by_cases e2 : i = n
          · subst e2
            rcases h3 with h3 | h3
            · exact Or.inl (Or.inr h3)
            · exact Or.inr h3
          · exact Or.inl (Or.inl (Or.inr ⟨i, by omega, h2, h3⟩))
    · rw [if_neg c, ih]
      constructor
      · rintro (h | ⟨i, h1, h2⟩)
        · exact Or.inl h
        · exact Or.inr ⟨i, by omega, h2⟩
      · rintro (h | ⟨i, h1, h2, h3⟩)
        · exact Or.inl h
        · have : i ≠ n := by rintro rfl; exact c h2
          exact Or.inr ⟨i, by omega, h2, h3⟩
theorem lkX_iff {N A : Nat → Bool} {o : Bool} : ∀ n, lkX N A o n = true ↔ o = true ∨ ∃ z, z < n ∧ A z ≠ N z
  | 0 => ⟨Or.inl, fun h => h.elim id (fun ⟨i, hi, _⟩ => absurd hi (Nat.not_lt_zero _))⟩
  | n + 1 => by
    unfold lkX
    rw [Bool.or_eq_true, lkX_iff n, bne_iff_ne]
    constructor
    · rintro ((h | ⟨z, h1, h2⟩) | h)
      · exact Or.inl h
      · exact Or.inr ⟨z, by omega, h2⟩
      · exact Or.inr ⟨n, by omega, h⟩
    · rintro (h | ⟨z, h1, h2⟩)
      · exact Or.inl (Or.inl h)
      · by_cases e : z = n
        · subst e; exact Or.inr h2
        · exact Or.inl (Or.inr ⟨z, by omega, h2⟩)
def lkP (N : Nat → Nat → Bool) (c : Nat → Int32) (s : LK3) (i : Nat) : Prop := ¬ s.2.1 i = c i ∨ ∃ z, z < 384 ∧ s.1 i z ≠ N i z
theorem lk_at {N : Nat → Nat → Bool} {c : Nat → Int32} {s : LK3} : ∀ n, (∀ i, n ≤ i → (lkS N c s n).1 i = s.1 i ∧ (lkS N c s n).2.1 i = s.2.1 i) ∧ (∀ i, i < n → (lkS N c s n).2.1 i = c i ∧ ∀ j, j < 384 → (lkS N c s n).1 i j = N i j) ∧ ∀ j, (lkS N c s n).2.2 j = true ↔ s.2.2 j = true ∨ ∃ i, i < n ∧ lkP N c s i ∧ (N i j = true ∨ s.1 i j = true)
  | 0 => ⟨fun i _ => ⟨rfl, rfl⟩, fun i hi => absurd hi (Nat.not_lt_zero _), fun j => ⟨Or.inl, fun h => h.elim id (fun ⟨i, hi, _⟩ => absurd hi (Nat.not_lt_zero _))⟩⟩
  | n + 1 => by
    obtain ⟨h1, h2, h3⟩ := lk_at (N := N) (c := c) (s := s) n
    obtain ⟨e1, e2⟩ := h1 n (Nat.le_refl _)
    have e : lkS N c s (n + 1) = if lkC (N n) (c n) n (lkS N c s n) = true then lkU (N n) (c n) n (lkS N c s n) else lkS N c s n := rfl
    have ec : lkC (N n) (c n) n (lkS N c s n) = true ↔ lkP N c s n := by
      unfold lkC lkP
      rw [e1, e2, lkX_iff, decide_eq_true_iff]
    rw [e]
    by_cases k : lkP N c s n
    · rw [if_pos (ec.mpr k)]
      refine ⟨fun i hi => ?_, fun i hi => ?_, fun j => ?_⟩
      · show gup (lkS N c s n).1 n (N n) i = _ ∧ gup (lkS N c s n).2.1 n (c n) i = _
        rw [gup_ne (by omega), gup_ne (by omega)]
        exact h1 i (by omega)
      · show gup (lkS N c s n).2.1 n (c n) i = _ ∧ ∀ j, j < 384 → gup (lkS N c s n).1 n (N n) i j = _
        by_cases d : i = n
        · subst d; rw [gup_same, gup_same]; exact ⟨rfl, fun _ _ => rfl⟩
        · rw [gup_ne d, gup_ne d]; exact h2 i (by omega)
      · show ((lkS N c s n).2.2 j || N n j || (lkS N c s n).1 n j) = true ↔ _
        rw [Bool.or_eq_true, Bool.or_eq_true, h3 j, e1]
        constructor
        · rintro (((h | ⟨i, g1, g2⟩) | h) | h)
          · exact Or.inl h
          · exact Or.inr ⟨i, by omega, g2⟩
          · exact Or.inr ⟨n, by omega, k, Or.inl h⟩
          · exact Or.inr ⟨n, by omega, k, Or.inr h⟩
        · rintro (h | ⟨i, g1, g2, g3⟩)
          · exact Or.inl (Or.inl (Or.inl h))
          · by_cases d : i = n
            · subst d
              rcases g3 with g3 | g3
              · exact Or.inl (Or.inr g3)
              · exact Or.inr g3
            · exact Or.inl (Or.inl (Or.inr ⟨i, by omega, g2, g3⟩))
    · rw [if_neg (fun z => k (ec.mp z))]
      have k1 : s.2.1 n = c n := Classical.byContradiction (fun z => k (Or.inl z))
      have k2 : ∀ z, z < 384 → s.1 n z = N n z := fun z hz => Classical.byContradiction (fun y => k (Or.inr ⟨z, hz, y⟩))
      refine ⟨fun i hi => h1 i (by omega), fun i hi => ?_, fun j => ?_⟩
      · by_cases d : i = n
        · subst d; rw [e1, e2]; exact ⟨k1, k2⟩
        · exact h2 i (by omega)
      · rw [h3 j]
        constructor
        · rintro (h | ⟨i, g1, g2⟩)
          · exact Or.inl h
          · exact Or.inr ⟨i, by omega, g2⟩
        · rintro (h | ⟨i, g1, g2, g3⟩)
          · exact Or.inl h
          · have : i ≠ n := by rintro rfl; exact k g2
            exact Or.inr ⟨i, by omega, g2, g3⟩
def BR (nb : Nat) (B : Nat → BS) (kd : Nat → Int32) (hd li : Nat → Bool) (ct co : Nat → Int32) (ar : Nat → Nat → Bool) : Prop := ∀ i, i < nb → (B i).1 = kd i ∧ (B i).2.1 = co i ∧ (B i).2.2.1 = ct i ∧ (B i).2.2.2.1 = hd i ∧ (B i).2.2.2.2.1 = li i ∧ canA (B i).2.2.2.2.2.1 ∧ ∀ j, j < 384 → (ar i j = true ↔ iA (B i).2.2.2.2.2.1 j)
def KD (nb : Nat) (kd : Nat → Int32) (li : Nat → Bool) : Prop := ∀ i, i < nb → (kd i = 0 ∨ kd i = 1 ∨ kd i = 2) ∧ (li i = true → kd i = 2)
theorem col_eq {nb : Nat} {kd : Nat → Int32} {li : Nat → Bool} {fo pr : Option Nat} (hk : KD nb kd li) {i : Nat} (hi : i < nb) : coI i (li i) fo pr = colM kd li fo pr i := by
  have h1 : colA kd li i = 1 + nI i + (if li i = true then 8 else 0) := by
    unfold colA
    by_cases c : li i = true
    · rw [if_pos ⟨(hk i hi).2 c, c⟩, if_pos c]
    · rw [if_neg (fun z => c z.2), if_neg c, Int32.add_zero]
  have h2 : colB kd li fo i = 1 + nI i + (if li i = true then 8 else 0) + (if fo = some i then 16 else 0) := by
    unfold colB
    rw [h1]
    by_cases c : fo = some i
    · rw [if_pos c, if_pos c]
    · rw [if_neg c, if_neg c, Int32.add_zero]
  unfold colM coI
  rw [h2]
  by_cases c : pr = some i
  · rw [if_pos c, if_pos c]
  · rw [if_neg c, if_neg c, Int32.add_zero]
theorem att_eq {nb : Nat} {par : Nat → Option Nat} {pl : Nat → Int32} {hd : Nat → Bool} {B : Nat → BS} {kd : Nat → Int32} {li : Nat → Bool} {w h : Int32} (hp : PT nb par) (hnb : nb ≤ 6) (hA : ArF nb par pl hd (fun i => (B i).2.2.2.2.2.1)) (hw : winP w h pl) (hz : szV w h) (hk : KD nb kd li) (hkd : ∀ i, i < nb → (B i).1 = kd i) {i : Nat} (hi : i < nb) : chA (B i).1 (B i).2.2.2.2.2.1 ↔ canM par pl hd kd (some i) = true := by
  obtain ⟨g1, g2⟩ := area_in hp hnb hA hw hz (i + 1) i (by omega) hi
  unfold canM chA
  dsimp only at g1 g2 ⊢
  rw [Bool.and_eq_true, decide_eq_true_iff, sm_iff, ← can_E g1, hkd i hi]
  have hkk : ¬ kd i = 0 ↔ ¬ kd i ≤ 0 := by
    rcases (hk i hi).1 with e | e | e
    · rw [e]; decide
    · rw [e]; decide
    · rw [e]; decide
  rw [hkk]
  constructor
  · rintro ⟨a, j, b, c⟩
    exact ⟨a, j, b, (g2 _ _).mp c⟩
  · rintro ⟨a, j, b, c⟩
    exact ⟨a, j, b, (g2 _ _).mpr c⟩
theorem attP_eq {nb : Nat} {par : Nat → Option Nat} {pl : Nat → Int32} {hd : Nat → Bool} {B : Nat → BS} {kd : Nat → Int32} {li : Nat → Bool} {w h : Int32} (hp : PT nb par) (hnb : nb ≤ 6) (hA : ArF nb par pl hd (fun i => (B i).2.2.2.2.2.1)) (hw : winP w h pl) (hz : szV w h) (hk : KD nb kd li) (hkd : ∀ i, i < nb → (B i).1 = kd i) {o : Option Nat} (ho : ∀ i, o = some i → i < nb) : attP B o = atM par pl hd kd o := by
  cases o with
  | none =>
    unfold atM
    split <;> rfl
  | some i =>
    have := att_eq hp hnb hA hw hz hk hkd (ho i rfl)
    unfold atM attP
    dsimp only
    by_cases c : canM par pl hd kd (some i) = true
    · rw [if_pos (this.mpr c), if_pos c]
    · rw [if_neg (fun z => c (this.mp z)), if_neg c]
theorem scB_f {nb : Nat} {par : Nat → Option Nat} {pl : Nat → Int32} {B : Nat → BS} {i : Nat} (hi : i < nb) : ∃ q, scB par pl B nb i = stA (B i) q (B i).2.2.2.2.2.1 := ⟨faN par pl (faB par pl B i) i, by unfold scB; rw [fa_at, if_pos hi]⟩
theorem show_look {nb : Nat} {par : Nat → Option Nat} {pl : Nat → Int32} {hd li : Nat → Bool} {B : Nat → BS} {kd ct co : Nat → Int32} {ar : Nat → Nat → Bool} {w h : Int32} {fo pr : Option Nat} {D D' : Nat → Bool} (hp : PT nb par) (hnb : nb ≤ 6) (hw : winP w h pl) (hz : szV w h) (hk : KD nb kd li) (hB : BR nb B kd hd li ct co ar) (hfo : ∀ i, fo = some i → i < nb) (hpr : ∀ i, pr = some i → i < nb) (hD : ∀ j, j < 384 → D j = D' j) :
    (∀ o : Option Nat, (∀ i, o = some i → i < nb) → attP (scB par pl B nb) o = atM par pl hd kd o) ∧ BR nb (scS par pl B nb fo pr D).1 kd hd li ct (lookS nb par kd hd li pl fo pr ar co D').2.1 (lookS nb par kd hd li pl fo pr ar co D').1 ∧ ArF nb par pl hd (fun i => ((scS par pl B nb fo pr D).1 i).2.2.2.2.2.1) ∧ (∀ i, i < nb → (lookS nb par kd hd li pl fo pr ar co D').2.1 i = colM kd li (atM par pl hd kd fo) (atM par pl hd kd pr) i) ∧ (∀ j, j < 384 → (scS par pl B nb fo pr D).2 j = (lookS nb par kd hd li pl fo pr ar co D').2.2 j) ∧ (∀ i, nb ≤ i → (lookS nb par kd hd li pl fo pr ar co D').1 i = ar i ∧ (lookS nb par kd hd li pl fo pr ar co D').2.1 i = co i) := by
  have hA : ArF nb par pl hd (fun i => (scB par pl B nb i).2.2.2.2.2.1) := sc_ArF hp (fun i hi => (hB i hi).2.2.2.1)
  have hkd : ∀ i, i < nb → (scB par pl B nb i).1 = kd i := fun i hi => by
    obtain ⟨q, e⟩ := scB_f (par := par) (pl := pl) (B := B) hi
    rw [e]; exact (hB i hi).1
  have hat : ∀ o : Option Nat, (∀ i, o = some i → i < nb) → attP (scB par pl B nb) o = atM par pl hd kd o := fun o ho => attP_eq hp hnb hA hw hz hk hkd ho
  have hin := area_in hp hnb hA hw hz nb
  have es : scS par pl B nb fo pr D = shL (scB par pl B nb) (atM par pl hd kd fo) (atM par pl hd kd pr) D nb := by
    unfold scS; rw [hat fo hfo, hat pr hpr]
  have el : lookS nb par kd hd li pl fo pr ar co D' = lkS (nwM par pl hd) (colM kd li (atM par pl hd kd fo) (atM par pl hd kd pr)) (ar, co, D') nb := rfl
  obtain ⟨l1, l2, l3⟩ := lk_at (N := nwM par pl hd) (c := colM kd li (atM par pl hd kd fo) (atM par pl hd kd pr)) (s := (ar, co, D')) nb
  rw [es, el]
  have ea : ∀ i, i < nb → (shL (scB par pl B nb) (atM par pl hd kd fo) (atM par pl hd kd pr) D nb).1 i = shB i (scB par pl B nb i) (atM par pl hd kd fo) (atM par pl hd kd pr) := fun i hi => by rw [sh_at, if_pos hi]
  have ec : ∀ i, i < nb → shC i (scB par pl B nb i) (atM par pl hd kd fo) (atM par pl hd kd pr) = colM kd li (atM par pl hd kd fo) (atM par pl hd kd pr) i := fun i hi => by
    obtain ⟨q, e⟩ := scB_f (par := par) (pl := pl) (B := B) hi
    rw [e]
    show coI i (B i).2.2.2.2.1 _ _ = _
    rw [(hB i hi).2.2.2.2.1]
    exact col_eq hk hi
  have enw : ∀ i j, i < nb → (nwM par pl hd i j = true ↔ iA (scB par pl B nb i).2.2.2.2.2.1 j) := fun i j hi => ((hin i hi hi).2 _ _).symm
  refine ⟨hat, ?_, ?_, fun i hi => (l2 i hi).1, ?_, fun i hi => l1 i hi⟩
  · intro i hi
    rw [ea i hi]
    obtain ⟨q, e⟩ := scB_f (par := par) (pl := pl) (B := B) hi
    obtain ⟨b1, b2, b3, b4, b5, b6, b7⟩ := hB i hi
    have c := ec i hi
    have n := enw i
    have ca := (hin i hi hi).1
    refine ⟨hkd i hi, c.trans (l2 i hi).1.symm, ?_, ?_, ?_, ca, fun j hj => ?_⟩
    · show (scB par pl B nb i).2.2.1 = _; rw [e]; exact b3
    · show (scB par pl B nb i).2.2.2.1 = _; rw [e]; exact b4
    · show (scB par pl B nb i).2.2.2.2.1 = _; rw [e]; exact b5
    · rw [(l2 i hi).2 j hj]
      exact n j hi
  · intro i hi
    have hAi := hA i hi
    dsimp only at hAi
    show ((shL (scB par pl B nb) (atM par pl hd kd fo) (atM par pl hd kd pr) D nb).1 i).2.2.2.2.2.1 = _
    rw [ea i hi]
    show (scB par pl B nb i).2.2.2.2.2.1 = _
    rw [hAi]
    cases hpar : par i with
    | none => rfl
    | some p =>
      have := hp.1 i p hi hpar
      dsimp only
      rw [ea p (by omega)]
      rfl
  · intro j hj
    have key : ∀ i, i < nb → ((shD i (scB par pl B nb i) (atM par pl hd kd fo) (atM par pl hd kd pr) ∧ (iA (scB par pl B nb i).2.2.2.2.2.2 j ∨ iA (scB par pl B nb i).2.2.2.2.2.1 j)) ↔ (lkP (nwM par pl hd) (colM kd li (atM par pl hd kd fo) (atM par pl hd kd pr)) (ar, co, D') i ∧ (nwM par pl hd i j = true ∨ ar i j = true))) := by
      intro i hi
      obtain ⟨q, e⟩ := scB_f (par := par) (pl := pl) (B := B) hi
      obtain ⟨b1, b2, b3, b4, b5, b6, b7⟩ := hB i hi
      have c := ec i hi
      have n := enw i
      have ca := (hin i hi hi).1
      have e1 : (scB par pl B nb i).2.2.2.2.2.2 = (B i).2.2.2.2.2.1 := by rw [e]; rfl
      have e2 : (scB par pl B nb i).2.1 = co i := by rw [e]; exact b2
      have a1 : (iA (scB par pl B nb i).2.2.2.2.2.2 j ∨ iA (scB par pl B nb i).2.2.2.2.2.1 j) ↔ (nwM par pl hd i j = true ∨ ar i j = true) := by
        rw [e1, b7 j hj, n j hi]
        exact Or.comm
      have a2 : shD i (scB par pl B nb i) (atM par pl hd kd fo) (atM par pl hd kd pr) ↔ lkP (nwM par pl hd) (colM kd li (atM par pl hd kd fo) (atM par pl hd kd pr)) (ar, co, D') i := by
        unfold shD lkP
        rw [c, e2, e1]
        show _ ↔ ¬ co i = _ ∨ ∃ z, z < 384 ∧ ar i z ≠ nwM par pl hd i z
        constructor
        · rintro (z | z)
          · exact Or.inl (fun y => z y.symm)
          · refine Or.inr (Classical.byContradiction (fun y => z ?_))
            refine can_eq ca b6 (fun k hk => ?_)
            rw [← n k hi, ← b7 k hk]
            have : ar i k = nwM par pl hd i k := Classical.byContradiction (fun x => y ⟨k, hk, x⟩)
            rw [this]
        · rintro (z | ⟨k, hk, z⟩)
          · exact Or.inl (fun y => z y.symm)
          · refine Or.inr (fun y => z ?_)
            have g1 := n k hi
            rw [y, ← b7 k hk] at g1
            cases h1 : ar i k <;> cases h2 : nwM par pl hd i k <;> simp_all
      rw [a1, a2]
    rw [Bool.eq_iff_iff, sh_D hj, l3 j, hD j hj]
    constructor
    · rintro (z | ⟨i, h1, h2, h3⟩)
      · exact Or.inl z
      · exact Or.inr ⟨i, h1, (key i h1).mp ⟨h2, h3⟩⟩
    · rintro (z | ⟨i, h1, h2⟩)
      · exact Or.inl z
      · obtain ⟨h3, h4⟩ := (key i h1).mpr h2
        exact Or.inr ⟨i, h1, h3, h4⟩
