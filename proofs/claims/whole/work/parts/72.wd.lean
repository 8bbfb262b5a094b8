def canA (q : A4) : Prop := q = A0 ∨ (0 ≤ q.1.toInt ∧ q.1.toInt < q.2.1.toInt ∧ q.2.1.toInt ≤ 24 ∧ 0 ≤ q.2.2.1.toInt ∧ q.2.2.1.toInt < q.2.2.2.toInt ∧ q.2.2.2.toInt ≤ 16)
theorem arH_i (q : A4) (x y : Int32) : arH q x y ↔ q.1.toInt ≤ x.toInt ∧ x.toInt < q.2.1.toInt ∧ q.2.2.1.toInt ≤ y.toInt ∧ y.toInt < q.2.2.2.toInt := by
  unfold arH
  rw [Int32.lt_iff_toInt_lt, Int32.le_iff_toInt_le, Int32.lt_iff_toInt_lt, Int32.le_iff_toInt_le]
  omega
theorem arE_i (q : A4) : arE q ↔ q.2.1.toInt ≤ q.1.toInt ∨ q.2.2.2.toInt ≤ q.2.2.1.toInt := by
  unfold arE
  rw [Int32.le_iff_toInt_le, Int32.le_iff_toInt_le]
theorem mx_i (x y : Int32) : (mxI x y).toInt = max x.toInt y.toInt := by
  unfold mxI
  by_cases h : x < y
  · rw [if_pos h]; rw [Int32.lt_iff_toInt_lt] at h; omega
  · rw [if_neg h]; rw [Int32.lt_iff_toInt_lt] at h; omega
theorem mn_i (x y : Int32) : (mnI x y).toInt = min x.toInt y.toInt := by
  unfold mnI
  by_cases h : y < x
  · rw [if_pos h]; rw [Int32.lt_iff_toInt_lt] at h; omega
  · rw [if_neg h]; rw [Int32.lt_iff_toInt_lt] at h; omega
theorem arM_E (q r : A4) : arE (arM q r) ↔ min q.2.1.toInt r.2.1.toInt ≤ max q.1.toInt r.1.toInt ∨ min q.2.2.2.toInt r.2.2.2.toInt ≤ max q.2.2.1.toInt r.2.2.1.toInt := by
  rw [arE_i]
  show (mnI q.2.1 r.2.1).toInt ≤ (mxI q.1 r.1).toInt ∨ (mnI q.2.2.2 r.2.2.2).toInt ≤ (mxI q.2.2.1 r.2.2.1).toInt ↔ _
  rw [mn_i, mx_i, mn_i, mx_i]
theorem A0_H (x y : Int32) : ¬ arH A0 x y := by
  rw [arH_i]
  have z : (0 : Int32).toInt = 0 := rfl
  show ¬ ((0 : Int32).toInt ≤ x.toInt ∧ x.toInt < (0 : Int32).toInt ∧ (0 : Int32).toInt ≤ y.toInt ∧ y.toInt < (0 : Int32).toInt)
  rw [z]; omega
theorem arC_H (q r : A4) (x y : Int32) : arH (arC q r) x y ↔ arH q x y ∧ arH r x y := by
  by_cases e : arE (arM q r)
  · have e1 : arC q r = A0 := if_pos e
    rw [e1]
    rw [arM_E] at e
    rw [arH_i q, arH_i r]
    constructor
    · exact fun h => absurd h (A0_H x y)
    · intro h; omega
  · have e1 : arC q r = arM q r := if_neg e
    rw [e1, arH_i, arH_i q, arH_i r]
    show (mxI q.1 r.1).toInt ≤ x.toInt ∧ x.toInt < (mnI q.2.1 r.2.1).toInt ∧ (mxI q.2.2.1 r.2.2.1).toInt ≤ y.toInt ∧ y.toInt < (mnI q.2.2.2 r.2.2.2).toInt ↔ _
    rw [mx_i, mn_i, mx_i, mn_i]
    omega
theorem can_C {q r : A4} (h : canA r) : canA (arC q r) := by
  by_cases e : arE (arM q r)
  · have e1 : arC q r = A0 := if_pos e
    exact Or.inl e1
  · have e1 : arC q r = arM q r := if_neg e
    rw [e1]
    rw [arM_E] at e
    have z : (0 : Int32).toInt = 0 := rfl
    rcases h with h | h
    · rw [h] at e
      have : ¬ (min q.2.1.toInt (0 : Int32).toInt ≤ max q.1.toInt (0 : Int32).toInt ∨ min q.2.2.2.toInt (0 : Int32).toInt ≤ max q.2.2.1.toInt (0 : Int32).toInt) := e
      rw [z] at this
      omega
    · right
      show 0 ≤ (mxI q.1 r.1).toInt ∧ (mxI q.1 r.1).toInt < (mnI q.2.1 r.2.1).toInt ∧ (mnI q.2.1 r.2.1).toInt ≤ 24 ∧ 0 ≤ (mxI q.2.2.1 r.2.2.1).toInt ∧ (mxI q.2.2.1 r.2.2.1).toInt < (mnI q.2.2.2 r.2.2.2).toInt ∧ (mnI q.2.2.2 r.2.2.2).toInt ≤ 16
      rw [mx_i, mn_i, mx_i, mn_i]
      omega
theorem px {q : A4} {X Y : Nat} (hX : X < 24) (hY : Y < 16) : arH q (nI ((Y * 24 + X) % 24)) (nI ((Y * 24 + X) / 24)) ↔ q.1.toInt ≤ (X : Int) ∧ (X : Int) < q.2.1.toInt ∧ q.2.2.1.toInt ≤ (Y : Int) ∧ (Y : Int) < q.2.2.2.toInt := by
  have e1 : (Y * 24 + X) % 24 = X := by omega
  have e2 : (Y * 24 + X) / 24 = Y := by omega
  rw [e1, e2, arH_i, nI_toInt (by omega), nI_toInt (by omega)]
abbrev iA (q : A4) (j : Nat) : Prop := arH q (nI (j % 24)) (nI (j / 24))
theorem can_sub {q r : A4} (hq : canA q) (hr : canA r) (h : ∀ j, j < 384 → iA q j → iA r j) : q = A0 ∨ (¬ r = A0 ∧ r.1.toInt ≤ q.1.toInt ∧ q.2.1.toInt ≤ r.2.1.toInt ∧ r.2.2.1.toInt ≤ q.2.2.1.toInt ∧ q.2.2.2.toInt ≤ r.2.2.2.toInt) := by
  rcases hq with hq | ⟨a1, a2, a3, a4, a5, a6⟩
  · exact Or.inl hq
  · right
    obtain ⟨l, hl⟩ := Int.eq_ofNat_of_zero_le a1
    obtain ⟨t, ht⟩ := Int.eq_ofNat_of_zero_le a4
    obtain ⟨x, hx⟩ := Int.eq_ofNat_of_zero_le (show (0 : Int) ≤ q.2.1.toInt - 1 by omega)
    obtain ⟨y, hy⟩ := Int.eq_ofNat_of_zero_le (show (0 : Int) ≤ q.2.2.2.toInt - 1 by omega)
    have p1 := h (t * 24 + l) (by omega) ((px (by omega) (by omega)).mpr (by omega))
    have p2 := h (y * 24 + x) (by omega) ((px (by omega) (by omega)).mpr (by omega))
    refine ⟨fun z => A0_H _ _ (z ▸ p1), ?_⟩
    have p1' := (px (q := r) (X := l) (Y := t) (by omega) (by omega)).mp p1
    have p2' := (px (q := r) (X := x) (Y := y) (by omega) (by omega)).mp p2
    omega
theorem can_eq {q r : A4} (hq : canA q) (hr : canA r) (h : ∀ j, j < 384 → (iA q j ↔ iA r j)) : q = r := by
  rcases can_sub hq hr (fun j hj => (h j hj).mp) with e1 | ⟨n1, g1⟩
  · rcases can_sub hr hq (fun j hj => (h j hj).mpr) with e2 | ⟨n2, g2⟩
    · rw [e1, e2]
    · exact absurd e1 n2
  · rcases can_sub hr hq (fun j hj => (h j hj).mpr) with e2 | ⟨n2, g2⟩
    · exact absurd e2 n1
    · obtain ⟨q1, q2, q3, q4⟩ := q
      obtain ⟨r1, r2, r3, r4⟩ := r
      dsimp only at g1 g2
      have e1 : q1 = r1 := Int32.toInt_inj.mp (by omega)
      have e2 : q2 = r2 := Int32.toInt_inj.mp (by omega)
      have e3 : q3 = r3 := Int32.toInt_inj.mp (by omega)
      have e4 : q4 = r4 := Int32.toInt_inj.mp (by omega)
      rw [e1, e2, e3, e4]
theorem can_E {q : A4} (hq : canA q) : (∃ j, j < 384 ∧ iA q j) ↔ ¬ arE q := by
  constructor
  · rintro ⟨j, hj, h⟩ e
    have h' : arH q (nI (j % 24)) (nI (j / 24)) := h
    rw [arH_i] at h'
    rw [arE_i] at e
    omega
  · intro e
    rcases hq with hq | ⟨a1, a2, a3, a4, a5, a6⟩
    · refine absurd ?_ e
      rw [hq, arE_i]
      exact Or.inl (Int.le_refl _)
    · obtain ⟨l, hl⟩ := Int.eq_ofNat_of_zero_le a1
      obtain ⟨t, ht⟩ := Int.eq_ofNat_of_zero_le a4
      exact ⟨t * 24 + l, by omega, (px (by omega) (by omega)).mpr (by omega)⟩
def PT (nb : Nat) (par : Nat → Option Nat) : Prop := (∀ i p, i < nb → par i = some p → p < i) ∧ ∀ i, i < nb → (par i = none ↔ i = 0)
theorem ia_iff {par : Nat → Option Nat} {pl : Nat → Int32} {hd : Nat → Bool} {x y : Int32} {b : Nat} : ∀ n, iaM par pl hd x y b n = true ↔ onSc x y ∧ ∀ k a, k < n → anP par b k = some a → cvM pl hd a x y
  | 0 => by
    unfold iaM
    rw [decide_eq_true_iff]
    exact ⟨fun h => ⟨h, fun k a hk => absurd hk (Nat.not_lt_zero _)⟩, fun h => h.1⟩
  | n + 1 => by
    have ih := ia_iff (par := par) (pl := pl) (hd := hd) (x := x) (y := y) (b := b) n
    unfold iaM
    cases e : anP par b n with
    | none =>
      dsimp only
      rw [ih]
      constructor
      · rintro ⟨h1, h2⟩
        refine ⟨h1, fun k a hk ha => ?_⟩
        have : k ≠ n := by rintro rfl; rw [e] at ha; cases ha
        exact h2 k a (by omega) ha
      · exact fun ⟨h1, h2⟩ => ⟨h1, fun k a hk ha => h2 k a (by omega) ha⟩
    | some c =>
      dsimp only
      rw [Bool.and_eq_true, ih, decide_eq_true_iff]
      constructor
      · rintro ⟨⟨h1, h2⟩, h3⟩
        refine ⟨h1, fun k a hk ha => ?_⟩
        by_cases e2 : k = n
        · subst e2; rw [e] at ha; cases ha; exact h3
        · exact h2 k a (by omega) ha
      · exact fun ⟨h1, h2⟩ => ⟨⟨h1, fun k a hk ha => h2 k a (by omega) ha⟩, h2 n c (by omega) e⟩
theorem an_le {nb : Nat} {par : Nat → Option Nat} (hp : PT nb par) {b : Nat} (hb : b < nb) : ∀ k a, anP par b k = some a → a + k ≤ b
  | 0, a, h => by cases h; exact Nat.le_refl _
  | k + 1, a, h => by
    unfold anP at h
    cases e : anP par b k with
    | none => rw [e] at h; cases h
    | some c =>
      rw [e] at h
      have h' : par c = some a := h
      have i := an_le hp hb k c e
      have := hp.1 c a (by omega) h'
      omega
theorem an_su {par : Nat → Option Nat} {b : Nat} : ∀ k, anP par b (k + 1) = (par b).bind (fun p => anP par p k)
  | 0 => by
    show (some b).bind par = _
    cases e : par b with
    | none => show par b = _; rw [e]; rfl
    | some p => show par b = _; rw [e]; rfl
  | k + 1 => by
    show (anP par b (k + 1)).bind par = _
    rw [an_su k]
    cases par b with
    | none => rfl
    | some p => rfl
theorem in_iff {par : Nat → Option Nat} {pl : Nat → Int32} {hd : Nat → Bool} {x y : Int32} {b : Nat} : inM par pl hd b x y = true ↔ onSc x y ∧ ∀ k a, k < 6 → anP par b k = some a → cvM pl hd a x y := ia_iff 6
theorem in_root {par : Nat → Option Nat} {pl : Nat → Int32} {hd : Nat → Bool} {x y : Int32} {b : Nat} (h : par b = none) : inM par pl hd b x y = true ↔ onSc x y ∧ cvM pl hd b x y := by
  rw [in_iff]
  constructor
  · exact fun ⟨h1, h2⟩ => ⟨h1, h2 0 b (by omega) rfl⟩
  · rintro ⟨h1, h2⟩
    refine ⟨h1, fun k a hk ha => ?_⟩
    cases k with
    | zero => cases ha; exact h2
    | succ k => rw [an_su, h] at ha; cases ha
theorem in_par {nb : Nat} {par : Nat → Option Nat} {pl : Nat → Int32} {hd : Nat → Bool} {x y : Int32} {b p : Nat} (hp : PT nb par) (hnb : nb ≤ 6) (hb : b < nb) (h : par b = some p) : inM par pl hd b x y = true ↔ inM par pl hd p x y = true ∧ cvM pl hd b x y := by
  rw [in_iff, in_iff]
  have hpb := hp.1 b p hb h
  have sx : ∀ k, anP par b (k + 1) = anP par p k := fun k => by rw [an_su, h]; rfl
  constructor
  · rintro ⟨h1, h2⟩
    refine ⟨⟨h1, fun k a hk ha => ?_⟩, h2 0 b (by omega) rfl⟩
    have := an_le hp (by omega) k a ha
    exact h2 (k + 1) a (by omega) (by rw [sx]; exact ha)
  · rintro ⟨⟨h1, h2⟩, h3⟩
    refine ⟨h1, fun k a hk ha => ?_⟩
    cases k with
    | zero => cases ha; exact h3
    | succ k => rw [sx] at ha; exact h2 k a (by omega) ha
def ArF (nb : Nat) (par : Nat → Option Nat) (pl : Nat → Int32) (hd : Nat → Bool) (A : Nat → A4) : Prop := ∀ i, i < nb → A i = if hd i = true then A0 else match par i with
  | none => fa4 pl (i * 4)
  | some p => arC (fa4 pl (i * 4)) (A p)
def szV (w h : Int32) : Prop := 1 ≤ w.toInt ∧ w.toInt ≤ 24 ∧ 1 ≤ h.toInt ∧ h.toInt ≤ 16
theorem onSc_i (x y : Int32) : onSc x y ↔ 0 ≤ x.toInt ∧ x.toInt < 24 ∧ 0 ≤ y.toInt ∧ y.toInt < 16 := by
  have z : (0 : Int32).toInt = 0 := rfl
  have z1 : (24 : Int32).toInt = 24 := rfl
  have z2 : (16 : Int32).toInt = 16 := rfl
  unfold onSc
  rw [Int32.lt_iff_toInt_lt, Int32.le_iff_toInt_le, Int32.lt_iff_toInt_lt, Int32.le_iff_toInt_le, z, z1, z2]
  omega
theorem area_in {nb : Nat} {par : Nat → Option Nat} {pl : Nat → Int32} {hd : Nat → Bool} {A : Nat → A4} {w h : Int32} (hp : PT nb par) (hnb : nb ≤ 6) (hA : ArF nb par pl hd A) (hw : winP w h pl) (hz : szV w h) : ∀ n i, i < n → i < nb → canA (A i) ∧ ∀ x y, arH (A i) x y ↔ inM par pl hd i x y = true
  | 0, i, hi, _ => absurd hi (Nat.not_lt_zero _)
  | n + 1, i, hi, hb => by
    have e := hA i hb
    cases hpar : par i with
    | none =>
      rw [hpar] at e
      have i0 : i = 0 := (hp.2 i hb).mp hpar
      by_cases hh : hd i = true
      · rw [if_pos hh] at e
        rw [e]
        refine ⟨Or.inl rfl, fun x y => ?_⟩
        rw [in_root hpar]
        refine ⟨fun z => absurd z (A0_H x y), fun z => ?_⟩
        have := z.2.2
        rw [hh] at this; cases this
      · rw [if_neg hh] at e
        dsimp only at e
        have e2 : fa4 pl (i * 4) = (0, w, 0, h) := by
          subst i0
          show (pl 0, pl 1, pl 2, pl 3) = _
          rw [hw.1, hw.2.1, hw.2.2.1, hw.2.2.2]
        have z : (0 : Int32).toInt = 0 := rfl
        obtain ⟨z1, z2, z3, z4⟩ := hz
        rw [e, e2]
        refine ⟨Or.inr ?_, fun x y => ?_⟩
        · show 0 ≤ (0 : Int32).toInt ∧ (0 : Int32).toInt < w.toInt ∧ w.toInt ≤ 24 ∧ 0 ≤ (0 : Int32).toInt ∧ (0 : Int32).toInt < h.toInt ∧ h.toInt ≤ 16
          rw [z]; omega
        · rw [in_root hpar, onSc_i]
          show _ ↔ _ ∧ arH (fa4 pl (4 * i)) x y ∧ hd i = false
          rw [Nat.mul_comm 4 i, e2, arH_i]
          show ((0 : Int32).toInt ≤ x.toInt ∧ x.toInt < w.toInt ∧ (0 : Int32).toInt ≤ y.toInt ∧ y.toInt < h.toInt) ↔ _ ∧ ((0 : Int32).toInt ≤ x.toInt ∧ x.toInt < w.toInt ∧ (0 : Int32).toInt ≤ y.toInt ∧ y.toInt < h.toInt) ∧ _
          rw [z]
          have hf : hd i = false := by cases hc : hd i with | true => exact absurd hc hh | false => rfl
          constructor
          · exact fun g => ⟨by omega, g, hf⟩
          · exact fun g => g.2.1
    | some p =>
      rw [hpar] at e
      have hlt := hp.1 i p hb hpar
      obtain ⟨j1, j2⟩ := area_in hp hnb hA hw hz n p (by omega) (by omega)
      by_cases hh : hd i = true
      · rw [if_pos hh] at e
        rw [e]
        refine ⟨Or.inl rfl, fun x y => ?_⟩
        rw [in_par hp hnb hb hpar]
        refine ⟨fun z => absurd z (A0_H x y), fun z => ?_⟩
        have := z.2.2
        rw [hh] at this; cases this
      · rw [if_neg hh] at e
        dsimp only at e
        rw [e]
        refine ⟨can_C j1, fun x y => ?_⟩
        rw [in_par hp hnb hb hpar, arC_H, j2 x y]
        show _ ↔ _ ∧ arH (fa4 pl (4 * i)) x y ∧ hd i = false
        rw [Nat.mul_comm 4 i]
        have hf : hd i = false := by cases hc : hd i with | true => exact absurd hc hh | false => rfl
        exact ⟨fun g => ⟨g.2, g.1, hf⟩, fun g => ⟨g.2.1, g.1⟩⟩
theorem sm_iff {par : Nat → Option Nat} {pl : Nat → Int32} {hd : Nat → Bool} {b : Nat} : ∀ n, smM par pl hd b n = true ↔ ∃ z, z < n ∧ inM par pl hd b (nI (z % 24)) (nI (z / 24)) = true
  | 0 => ⟨(fun h => by cases h), fun ⟨z, hz, _⟩ => absurd hz (Nat.not_lt_zero _)⟩
  | n + 1 => by
    unfold smM
    rw [Bool.or_eq_true, sm_iff n]
    constructor
    · rintro (⟨z, hz, h⟩ | h)
      · exact ⟨z, by omega, h⟩
      · exact ⟨n, by omega, h⟩
    · rintro ⟨z, hz, h⟩
      by_cases e : z = n
      · subst e; exact Or.inr h
      · exact Or.inl ⟨z, by omega, h⟩
theorem fa_at {par : Nat → Option Nat} {pl : Nat → Int32} {B : Nat → BS} : ∀ n i, faB par pl B n i = if i < n then stA (B i) (faN par pl (faB par pl B i) i) (B i).2.2.2.2.2.1 else B i
  | 0, i => by rw [if_neg (Nat.not_lt_zero _)]; rfl
  | n + 1, i => by
    have e : faB par pl B (n + 1) = gup (faB par pl B n) n (stA (faB par pl B n n) (faN par pl (faB par pl B n) n) (faB par pl B n n).2.2.2.2.2.1) := rfl
    have en : faB par pl B n n = B n := by rw [fa_at n n, if_neg (Nat.lt_irrefl _)]
    rw [e, en]
    by_cases c : i = n
    · subst c; rw [gup_same, if_pos (by omega)]
    · rw [gup_ne c, fa_at n i]
      by_cases d : i < n
      · rw [if_pos d, if_pos (by omega)]
      · rw [if_neg d, if_neg (by omega)]
theorem sc_ArF {nb : Nat} {par : Nat → Option Nat} {pl : Nat → Int32} {B : Nat → BS} {hd : Nat → Bool} (hp : PT nb par) (hh : ∀ i, i < nb → (B i).2.2.2.1 = hd i) : ArF nb par pl hd (fun i => (scB par pl B nb i).2.2.2.2.2.1) := by
  intro i hi
  have e : scB par pl B nb i = stA (B i) (faN par pl (faB par pl B i) i) (B i).2.2.2.2.2.1 := by
    unfold scB; rw [fa_at, if_pos hi]
  have e0 : faB par pl B i i = B i := by rw [fa_at, if_neg (Nat.lt_irrefl _)]
  show (scB par pl B nb i).2.2.2.2.2.1 = _
  rw [e]
  show faN par pl (faB par pl B i) i = _
  unfold faN
  rw [e0, hh i hi]
  cases hpar : par i with
  | none => rfl
  | some p =>
    have := hp.1 i p hi hpar
    have e1 : faB par pl B i p = scB par pl B nb p := by
      unfold scB
      rw [fa_at i p, fa_at nb p, if_pos this, if_pos (by omega)]
    dsimp only
    rw [e1]
