theorem i_sub {x y : Int32} (h1 : -2147483648 ≤ x.toInt - y.toInt) (h2 : x.toInt - y.toInt < 2147483648) (h3 : -2147483648 < y.toInt) : (x - y).toInt = x.toInt - y.toInt := by
  rw [Int32.sub_eq_add_neg]
  have := i_neg h3
  rw [i_add (by omega) (by omega)]
  omega
theorem er_eq {c a b : Int32} {fm : Nat} (hc : -99 ≤ c.toInt ∧ c.toInt ≤ 99) (ha : -2000000 ≤ a.toInt ∧ a.toInt ≤ 2000000) (hb : -2000000 ≤ b.toInt ∧ b.toInt ≤ 2000000) : erI c a b fm = erM c a b fm := by
  have z : (0 : Int32).toInt = 0 := rfl
  have d : (a - b).toInt = a.toInt - b.toInt := i_sub (by omega) (by omega) (by omega)
  have x : (c - (a - b)).toInt = c.toInt - (a.toInt - b.toInt) := by rw [i_sub (by omega) (by omega) (by omega), d]
  have y : (a - b - c).toInt = a.toInt - b.toInt - c.toInt := by rw [i_sub (by omega) (by omega) (by omega), d]
  have ny : (-(a - b - c)).toInt = -(a.toInt - b.toInt - c.toInt) := by rw [i_neg (by omega), y]
  have nx : (0 - (c - (a - b))).toInt = -(c.toInt - (a.toInt - b.toInt)) := by rw [i_sub (by omega) (by omega) (by omega), x, z]; omega
  have c1 : (0 : Int32) ≤ c - (a - b) ↔ 0 ≤ c.toInt - (a.toInt - b.toInt) := by rw [Int32.le_iff_toInt_le, z, x]
  have c2 : (0 : Int32) < c - (a - b) ↔ 0 < c.toInt - (a.toInt - b.toInt) := by rw [Int32.lt_iff_toInt_lt, z, x]
  have c3 : (0 : Int32) ≤ a - b - c ↔ 0 ≤ a.toInt - b.toInt - c.toInt := by rw [Int32.le_iff_toInt_le, z, y]
  unfold erI erM
  apply Int32.toInt_inj.mp
  by_cases f : fm = 0
  · rw [if_pos f, if_pos f]
    by_cases g1 : (0 : Int32) ≤ c - (a - b) <;> by_cases g3 : (0 : Int32) ≤ a - b - c
    · rw [if_pos g1, if_pos g3, x, y]; rw [c1] at g1; rw [c3] at g3; omega
    · rw [if_pos g1, if_neg g3, x, ny]; omega
    · rw [if_neg g1, if_pos g3, nx, y]; omega
    · rw [c1] at g1; rw [c3] at g3; omega
  · rw [if_neg f, if_neg f]
    by_cases g2 : (0 : Int32) < c - (a - b) <;> by_cases g3 : (0 : Int32) ≤ a - b - c
    · rw [c2] at g2; rw [c3] at g3; omega
    · rw [if_pos g2, if_neg g3, x, ny]; omega
    · rw [if_neg g2, if_pos g3]
    · rw [c2] at g2; rw [c3] at g3; omega
theorem err_eq {nb : Nat} {cs : Nat → Option K5} {pl : Nat → Int32} {M : Int} {x : Int32} (hc : csV nb cs) (hpl : plB nb M pl) (hM : M ≤ 2000000) : errC cs pl x = errM cs pl x := by
  unfold errC errM
  by_cases c : isCn x
  · rw [if_pos c, if_pos c]
    cases e : cs (ixI x) with
    | none => rfl
    | some κ =>
      dsimp only
      have hx : ixI x < 16 := by
        obtain ⟨j, hj, rfl⟩ := nI_of c.1
        have := c.2
        rw [show (16 : Int32) = nI 16 from rfl, nI_leI (by omega) hj] at this
        unfold ixI
        rw [nI_clamp hj]; omega
      obtain ⟨g1, g2, g3, g4⟩ := hc (ixI x) κ hx e
      have p1 := hpl κ.1 g1
      have p2 := hpl κ.2.1 g2
      exact er_eq g4 (by omega) (by omega)
  · rw [if_neg c, if_neg c]
theorem pix_eq {F F' : Nat → Int32} {x y : Int32} (hF : ∀ j, j < 384 → F j = F' j) : pixC F x y = pixM F' x y := by
  have z : (0 : Int32).toInt = 0 := rfl
  have z1 : (24 : Int32).toInt = 24 := rfl
  have z2 : (16 : Int32).toInt = 16 := rfl
  have z3 : (23 : Int32).toInt = 23 := rfl
  have z4 : (15 : Int32).toInt = 15 := rfl
  have e : onSc x y ↔ onMo x y := by
    rw [onSc_i]
    unfold onMo
    rw [Int32.lt_iff_toInt_lt, Int32.lt_iff_toInt_lt, Int32.lt_iff_toInt_lt, Int32.le_iff_toInt_le, z, z3, z4]
    omega
  unfold pixC pixM
  by_cases c : onSc x y
  · rw [if_pos c, if_pos (e.mp c), Nat.mul_comm]
    apply hF
    obtain ⟨c1, c2, c3, c4⟩ := c
    obtain ⟨i, hi, rfl⟩ := nI_of c1
    obtain ⟨j, hj, rfl⟩ := nI_of c3
    rw [show (24 : Int32) = nI 24 from rfl, nI_leI (by omega) hi] at c2
    rw [show (16 : Int32) = nI 16 from rfl, nI_leI (by omega) hj] at c4
    unfold ixI
    rw [nI_clamp hj, nI_clamp hi]; omega
  · rw [if_neg c, if_neg (fun w => c (e.mpr w))]
theorem cntB_eq {D D' : Nat → Bool} : ∀ n, (∀ j, j < n → D j = D' j) → cntB D n = cntB D' n
  | 0, _ => rfl
  | n + 1, h => by
    unfold cntB
    rw [cntB_eq n (fun j hj => h j (by omega)), h n (by omega)]
theorem ptN_eq {F F' : Nat → Int32} {D D' : Nat → Bool} {P P' : Nat → Int32} : ∀ n, (∀ j, j < n → D j = D' j ∧ F j = F' j ∧ P j = P' j) → ptN F D P n = ptN F' D' P' n
  | 0, _ => rfl
  | n + 1, h => by
    obtain ⟨h1, h2, h3⟩ := h n (by omega)
    unfold ptN
    rw [ptN_eq n (fun j hj => h j (by omega)), h1, h2, h3]
theorem ptF_eq {F F' : Nat → Int32} {D D' : Nat → Bool} {P P' : Nat → Int32} (h : ∀ j, j < 384 → D j = D' j ∧ F j = F' j ∧ P j = P' j) (j : Nat) (hj : j < 384) : ptF F D P 384 j = ptF F' D' P' 384 j := by
  obtain ⟨h1, h2, h3⟩ := h j hj
  unfold ptF
  rw [h1, h2, h3]
theorem ptD_eq {D D' : Nat → Bool} (j : Nat) (hj : j < 384) : ptD D 384 j = ptD D' 384 j := by
  unfold ptD
  rw [if_pos hj, if_pos hj]
theorem ac_at {par : Nat → Option Nat} {i nb : Nat} {B : Nat → BS} {ct : Nat → Int32} (h : ∀ j, j < nb → (B j).2.2.1 = ct j) : ∀ k j, j < nb → acB par i B k j = ((B j).1, (B j).2.1, ctA par i ct k j, (B j).2.2.2)
  | 0, j, hj => by
    show B j = ((B j).1, (B j).2.1, ct j, (B j).2.2.2)
    rw [← h j hj]
  | k + 1, j, hj => by
    have ih := ac_at (par := par) (i := i) h k j hj
    unfold acB ctA
    cases e : anP par i k with
    | none => exact ih
    | some c =>
      dsimp only
      by_cases d : j = c
      · subst d
        rw [gup_same, gup_same, ih]
      · rw [gup_ne d, gup_ne d]; exact ih
theorem at_BR {nb i : Nat} {par : Nat → Option Nat} {B : Nat → BS} {kd ct co : Nat → Int32} {hd li : Nat → Bool} {ar : Nat → Nat → Bool} (hi : i < nb) (hB : BR nb B kd hd li ct co ar) : BR nb (atB par i B) kd hd (liA kd li i) (ctA par i ct 6) co ar := by
  have ha := fun j hj => ac_at (par := par) (i := i) (B := B) (fun j hj => (hB j hj).2.2.1) 6 j (show j < nb from hj)
  have hk : (acB par i B 6 i).1 = kd i := by rw [ha i hi]; exact (hB i hi).1
  intro j hj
  obtain ⟨b1, b2, b3, b4, b5, b6⟩ := hB j hj
  unfold atB liA
  rw [hk]
  by_cases c : kd i = 2
  · rw [if_pos c, if_pos c]
    by_cases d : j = i
    · subst d
      rw [gup_same, gup_same, ha j hj]
      refine ⟨rfl, b2, rfl, b4, ?_, b6⟩
      show (!(B j).2.2.2.2.1) = _
      rw [b5]
    · rw [gup_ne d, gup_ne d, ha j hj]
      exact ⟨b1, b2, rfl, b4, b5, b6⟩
  · rw [if_neg c, if_neg c, ha j hj]
    exact ⟨b1, b2, rfl, b4, b5, b6⟩
theorem liA_KD {nb i : Nat} {kd : Nat → Int32} {li : Nat → Bool} (h : KD nb kd li) : KD nb kd (liA kd li i) := by
  intro j hj
  refine ⟨(h j hj).1, ?_⟩
  unfold liA
  by_cases c : kd i = 2
  · rw [if_pos c]
    by_cases d : j = i
    · subst d; exact fun _ => c
    · rw [gup_ne d]; exact (h j hj).2
  · rw [if_neg c]; exact (h j hj).2
theorem stX_self : ∀ nb, nb < 7 → ∀ f, f < nb → stX true (some f) nb nb = f ∧ stX false (some f) nb nb = f := by decide +kernel
theorem stS_none {A : Nat → Prop} [DecidablePred A] {ix : Nat → Nat} : ∀ n i, stS A ix n i = none → ∀ k, i ≤ k → k < i + n → ¬ A (ix k)
  | 0, i, _, k, h1, h2 => by omega
  | n + 1, i, h, k, h1, h2 => by
    unfold stS at h
    by_cases c : A (ix i)
    · rw [if_pos c] at h; cases h
    · rw [if_neg c] at h
      by_cases d : k = i
      · subst d; exact c
      · exact stS_none n (i + 1) h k (by omega) (by omega)
theorem stS_eq {A A' : Nat → Prop} [DecidablePred A] [DecidablePred A'] {ix ix' : Nat → Nat} : ∀ n i, (∀ k, i ≤ k → k < i + n → ix k = ix' k ∧ (A (ix k) ↔ A' (ix k))) → stS A ix n i = stS A' ix' n i
  | 0, i, _ => rfl
  | n + 1, i, h => by
    obtain ⟨h1, h2⟩ := h i (by omega) (by omega)
    unfold stS
    rw [← h1, stS_eq n (i + 1) (fun k g1 g2 => h k (by omega) (by omega))]
    by_cases c : A (ix i)
    · rw [if_pos c, if_pos (h2.mp c)]
    · rw [if_neg c, if_neg (fun z => c (h2.mpr z))]
theorem stS_snoc {A : Nat → Prop} [DecidablePred A] {ix : Nat → Nat} : ∀ n i, stS A ix (n + 1) i = (match stS A ix n i with
    | some j => some j
    | none => if A (ix (i + n)) then some (ix (i + n)) else none)
  | 0, i => rfl
  | n + 1, i => by
    have ih := stS_snoc (A := A) (ix := ix) n (i + 1)
    have e1 : stS A ix (n + 1 + 1) i = if A (ix i) then some (ix i) else stS A ix (n + 1) (i + 1) := rfl
    have e2 : stS A ix (n + 1) i = if A (ix i) then some (ix i) else stS A ix n (i + 1) := rfl
    rw [e1, e2, ih, show i + 1 + n = i + (n + 1) by omega]
    by_cases c : A (ix i)
    · rw [if_pos c, if_pos c]
    · rw [if_neg c, if_neg c]
theorem step_eq {nb : Nat} {par : Nat → Option Nat} {pl : Nat → Int32} {hd : Nat → Bool} {B : Nat → BS} {kd : Nat → Int32} {fo : Option Nat} {back : Bool} (h0 : 1 ≤ nb) (h6 : nb ≤ 6) (hf : ∀ j, fo = some j → j < nb) (hA : ∀ i, i < nb → (chA (B i).1 (B i).2.2.2.2.2.1 ↔ canM par pl hd kd (some i) = true)) (hfo : atM par pl hd kd fo = fo) : stF B nb fo back = smF par pl hd kd nb fo back := by
  have e1 : stS (atB1 B) (stX back fo nb) nb 1 = stS (caM par pl hd kd) (sxN back fo nb) nb 1 := stS_eq nb 1 (fun k g1 g2 => by
    have o := stX_ok (back := back) h6 hf g1 (show k ≤ nb by omega)
    exact ⟨(sx_eq h6 hf g1 (by omega)).symm, hA _ o.1⟩)
  unfold stF smF
  rw [e1, stS_snoc, show 1 + nb = nb + 1 by omega, sx_last h6 hf h0]
  cases c : stS (caM par pl hd kd) (sxN back fo nb) nb 1 with
  | some j => rfl
  | none =>
    have n := stS_none nb 1 c
    dsimp only
    rw [if_neg (n 1 (by omega) (by omega))]
    cases e : fo with
    | none => rfl
    | some f =>
      have hfn := hf f e
      have ca : canM par pl hd kd (some f) = true := by
        rw [e] at hfo
        unfold atM at hfo
        by_cases d : canM par pl hd kd (some f) = true
        · exact d
        · rw [if_neg d] at hfo; cases hfo
      have := n nb (by omega) (by omega)
      rw [sx_eq h6 hf h0 (Nat.le_refl _), e] at this
      have s := stX_self nb (by omega) f hfn
      cases back with
      | true => rw [s.1] at this; exact absurd ca this
      | false => rw [s.2] at this; exact absurd ca this
theorem ls_some {od : Nat → Nat} {par : Nat → Option Nat} {i : Nat} : ∀ n, (∃ k, k < n ∧ lsP od par i n = od k ∧ par (od k) = par i ∧ ∀ l, k < l → l < n → ¬ par (od l) = par i) ∨ (lsP od par i n = i ∧ ∀ l, l < n → ¬ par (od l) = par i)
  | 0 => Or.inr ⟨rfl, fun l hl => absurd hl (Nat.not_lt_zero _)⟩
  | n + 1 => by
    unfold lsP
    by_cases c : par (od n) = par i
    · rw [if_pos c]
      exact Or.inl ⟨n, by omega, rfl, c, fun l h1 h2 => by omega⟩
    · rw [if_neg c]
      rcases ls_some (od := od) (par := par) (i := i) n with ⟨k, h1, h2, h3, h4⟩ | ⟨h1, h2⟩
      · refine Or.inl ⟨k, by omega, h2, h3, fun l g1 g2 => ?_⟩
        by_cases e : l = n
        · subst e; exact c
        · exact h4 l g1 (by omega)
      · refine Or.inr ⟨h1, fun l hl => ?_⟩
        by_cases e : l = n
        · subst e; exact c
        · exact h2 l (by omega)
theorem lsM_iff {par : Nat → Option Nat} {rk : Nat → Nat} {i : Nat} : ∀ n, lsM par rk i n = true ↔ ∀ k, 1 ≤ k → k ≤ n → par k = par i → ¬ rk i < rk k
  | 0 => ⟨fun _ k h1 h2 => by omega, fun _ => rfl⟩
  | n + 1 => by
    unfold lsM
    by_cases c : par (n + 1) = par i ∧ rk i < rk (n + 1)
    · rw [if_pos c]
      exact ⟨(fun h => by cases h), fun h => absurd c.2 (h (n + 1) (by omega) (by omega) c.1)⟩
    · rw [if_neg c, lsM_iff n]
      constructor
      · intro h k h1 h2 h3
        by_cases e : k = n + 1
        · subst e; exact fun z => c ⟨h3, z⟩
        · exact h k h1 (by omega) h3
      · exact fun h k h1 h2 => h k h1 (by omega)
theorem last_eq {nb i : Nat} {par : Nat → Option Nat} {od rk : Nat → Nat} (hp : PT nb par) (ho : OrV nb par od rk) (h1 : 1 ≤ i) (hi : i < nb) : (¬ lsP od par i nb = i) ↔ lsM par rk i (nb - 1) = false := by
  obtain ⟨pos, hpos, hpi⟩ := ho.2.2.1 i hi
  have e : lsP od par i nb = i ↔ lsM par rk i (nb - 1) = true := by
    rw [lsM_iff]
    rcases ls_some (od := od) (par := par) (i := i) nb with ⟨k, h1', h2, h3, h4⟩ | ⟨h1', h2⟩
    · constructor
      · intro z j g1 g2 g3 g4
        obtain ⟨l, hl, hlj⟩ := ho.2.2.1 j (by omega)
        have ek : od k = i := h2.symm.trans z
        have : ¬ k < l := fun y => h4 l y hl (by rw [hlj]; exact g3)
        by_cases e2 : l = k
        · subst e2; rw [hlj] at ek; subst ek; omega
        · have := ho.2.2.2 l k (by omega) h1' (by rw [hlj, ek]; exact g3)
          rw [hlj, ek] at this
          omega
      · intro z
        refine Classical.byContradiction (fun y => ?_)
        rw [h2] at y
        have nk : pos ≠ k := by rintro rfl; exact y hpi
        have : ¬ k < pos := fun x => h4 pos x hpos (by rw [hpi])
        have r := ho.2.2.2 pos k (by omega) h1' (by rw [hpi]; exact h3.symm)
        rw [hpi] at r
        have hk := ho.1 k h1'
        have k1 : 1 ≤ od k := by
          have : par i ≠ none := fun x => by have := (hp.2 i hi).mp x; omega
          have : od k ≠ 0 := fun x => by
            have := (hp.2 (od k) hk).mpr x
            rw [h3] at this; contradiction
          omega
        exact z (od k) k1 (by omega) h3 r
    · exact absurd (by rw [hpi]) (h2 pos hpos)
  rw [e]
  cases lsM par rk i (nb - 1) <;> simp
theorem mv_Or {nb i pos rks : Nat} {par : Nat → Option Nat} {od rk : Nat → Nat} (ho : OrV nb par od rk) (hr : ∀ j, j < nb → rk j ≤ rks) (hpos : pos < nb) (hpi : od pos = i) : OrV nb par (mvP od pos nb i) (gup rk i (rks + 1)) := by
  have lo : ∀ k, k < pos → mvP od pos nb i k = od k := fun k hk => if_pos hk
  have hi' : ∀ k, pos ≤ k → k + 1 < nb → mvP od pos nb i k = od (k + 1) := fun k h1 h2 => by unfold mvP; rw [if_neg (by omega), if_pos h2]
  have la : ∀ k, pos ≤ k → ¬ k + 1 < nb → mvP od pos nb i k = i := fun k h1 h2 => by unfold mvP; rw [if_neg (by omega), if_neg h2]
  have ne : ∀ k, k < nb → k ≠ pos → od k ≠ i := fun k hk hne z => hne (ho.2.1 k pos hk hpos (z.trans hpi.symm))
  have src : ∀ k, k + 1 < nb → ∃ l, l < nb ∧ l ≠ pos ∧ mvP od pos nb i k = od l ∧ (k < pos → l = k) ∧ (pos ≤ k → l = k + 1) := by
    intro k hk
    by_cases c : k < pos
    · exact ⟨k, by omega, by omega, lo k c, fun _ => rfl, fun z => by omega⟩
    · exact ⟨k + 1, hk, by omega, hi' k (by omega) hk, fun z => by omega, fun _ => rfl⟩
  have hin : i < nb := hpi ▸ ho.1 pos hpos
  refine ⟨fun k hk => ?_, fun k l hk hl he => ?_, fun j hj => ?_, fun k l hkl hl he => ?_⟩
  · by_cases c : k + 1 < nb
    · obtain ⟨l, l1, l2, l3, -⟩ := src k c
      rw [l3]; exact ho.1 l l1
    · rw [la k (by omega) c]; exact hin
  · by_cases c : k + 1 < nb <;> by_cases d : l + 1 < nb
    · obtain ⟨a, a1, a2, a3, a4, a5⟩ := src k c
      obtain ⟨b, b1, b2, b3, b4, b5⟩ := src l d
      rw [a3, b3] at he
      have := ho.2.1 a b a1 b1 he
      omega
    · obtain ⟨a, a1, a2, a3, a4, a5⟩ := src k c
      rw [a3, la l (by omega) d] at he
      exact absurd he (ne a a1 a2)
    · obtain ⟨b, b1, b2, b3, b4, b5⟩ := src l d
      rw [b3, la k (by omega) c] at he
      exact absurd he.symm (ne b b1 b2)
    · omega
  · obtain ⟨l, l1, l2⟩ := ho.2.2.1 j hj
    by_cases c : l = pos
    · exact ⟨nb - 1, by omega, by rw [la (nb - 1) (by omega) (by omega), ← hpi, ← c, l2]⟩
    · by_cases d : l < pos
      · exact ⟨l, l1, by rw [lo l d]; exact l2⟩
      · exact ⟨l - 1, by omega, by rw [hi' (l - 1) (by omega) (by omega), show l - 1 + 1 = l by omega]; exact l2⟩
  · obtain ⟨a, a1, a2, a3, a4, a5⟩ := src k (by omega)
    rw [a3] at he ⊢
    rw [gup_ne (ne a a1 a2)]
    by_cases d : l + 1 < nb
    · obtain ⟨b, b1, b2, b3, b4, b5⟩ := src l d
      rw [b3] at he ⊢
      rw [gup_ne (ne b b1 b2)]
      exact ho.2.2.2 a b (by omega) b1 he
    · rw [la l (by omega) d, gup_same]
      have := hr (od a) (ho.1 a a1)
      omega
theorem nw_Or {nb rks : Nat} {par : Nat → Option Nat} {od rk : Nat → Nat} {q : Option Nat} (ho : OrV nb par od rk) (hr : ∀ j, j < nb → rk j ≤ rks) : OrV (nb + 1) (gup par nb q) (gup od nb nb) (gup rk nb (rks + 1)) := by
  refine ⟨fun k hk => ?_, fun k l hk hl he => ?_, fun j hj => ?_, fun k l hkl hl he => ?_⟩
  · by_cases c : k = nb
    · subst c; rw [gup_same]; omega
    · rw [gup_ne c]; have := ho.1 k (by omega); omega
  · by_cases c : k = nb <;> by_cases d : l = nb
    · omega
    · subst c; rw [gup_same, gup_ne d] at he; have := ho.1 l (by omega); omega
    · subst d; rw [gup_same, gup_ne c] at he; have := ho.1 k (by omega); omega
    · rw [gup_ne c, gup_ne d] at he; exact ho.2.1 k l (by omega) (by omega) he
  · by_cases c : j = nb
    · exact ⟨nb, by omega, by rw [gup_same, c]⟩
    · obtain ⟨k, h1, h2⟩ := ho.2.2.1 j (by omega)
      exact ⟨k, by omega, by rw [gup_ne (by omega)]; exact h2⟩
  · have hk := ho.1 k (by omega)
    rw [gup_ne (show k ≠ nb by omega)] at he ⊢
    rw [gup_ne (show od k ≠ nb by omega)]
    by_cases d : l = nb
    · subst d
      rw [gup_same, gup_same]
      have := hr (od k) hk
      omega
    · have hl' := ho.1 l (by omega)
      rw [gup_ne d] at he ⊢
      rw [gup_ne (show od k ≠ nb by omega), gup_ne (show od l ≠ nb by omega)] at he
      rw [gup_ne (show od l ≠ nb by omega)]
      exact ho.2.2.2 k l hkl (by omega) he
