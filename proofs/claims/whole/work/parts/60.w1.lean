def FARI : Int := 268435456
def Wn (Ed : Nat → Nat → Int → Prop) : Nat → Nat → Nat → Int → Prop
  | 0, a, b, w => a = b ∧ w = 0
  | n + 1, a, b, w => ∃ (c : Nat) (w1 w2 : Int), Wn Ed n a c w1 ∧ Ed c b w2 ∧ w = w1 + w2
def Wk (Ed : Nat → Nat → Int → Prop) (a b : Nat) (w : Int) : Prop := ∃ n, Wn Ed n a b w
theorem Wn_app {Ed : Nat → Nat → Int → Prop} {a b : Nat} {w1 : Int} {n : Nat} (h1 : Wn Ed n a b w1) : ∀ {m c : Nat} {w2 : Int}, Wn Ed m b c w2 → Wn Ed (n + m) a c (w1 + w2)
  | 0, c, w2, h => by
    obtain ⟨rfl, rfl⟩ := h
    rw [Int.add_zero]
    exact h1
  | m + 1, c, w2, h => by
    obtain ⟨x, u1, u2, h2, h3, rfl⟩ := h
    exact ⟨x, w1 + u1, u2, Wn_app h1 h2, h3, by omega⟩
theorem Wk_nil {Ed : Nat → Nat → Int → Prop} {a : Nat} : Wk Ed a a 0 := ⟨0, rfl, rfl⟩
theorem Wk_one {Ed : Nat → Nat → Int → Prop} {a b : Nat} {w : Int} (h : Ed a b w) : Wk Ed a b w := ⟨1, a, 0, w, ⟨rfl, rfl⟩, h, by omega⟩
theorem Wk_app {Ed : Nat → Nat → Int → Prop} {a b c : Nat} {w1 w2 : Int} (h1 : Wk Ed a b w1) (h2 : Wk Ed b c w2) : Wk Ed a c (w1 + w2) := by
  obtain ⟨n, h1⟩ := h1
  obtain ⟨m, h2⟩ := h2
  exact ⟨n + m, Wn_app h1 h2⟩
theorem Wn_mono {Ed Ed' : Nat → Nat → Int → Prop} (hE : ∀ a b w, Ed a b w → Ed' a b w) {a : Nat} : ∀ {n b : Nat} {w : Int}, Wn Ed n a b w → Wn Ed' n a b w
  | 0, _, _, h => h
  | n + 1, b, w, h => by
    obtain ⟨c, w1, w2, h1, h2, h3⟩ := h
    exact ⟨c, w1, w2, Wn_mono hE h1, hE _ _ _ h2, h3⟩
theorem Wk_mono {Ed Ed' : Nat → Nat → Int → Prop} (hE : ∀ a b w, Ed a b w → Ed' a b w) {a b : Nat} {w : Int} (h : Wk Ed a b w) : Wk Ed' a b w := by
  obtain ⟨n, h⟩ := h
  exact ⟨n, Wn_mono hE h⟩
/-- the matrix R of least walks; FARI where there is none -/
def Cl (Ed : Nat → Nat → Int → Prop) (R : Nat → Nat → Int) (N : Nat) : Prop := ∀ a b, a < N → b < N → (R a b < FARI → Wk Ed a b (R a b)) ∧ (R a b ≤ FARI) ∧ ∀ w, Wk Ed a b w → R a b ≤ w ∧ R a b < FARI
def EdAdd (Ed : Nat → Nat → Int → Prop) (q p : Nat) (d : Int) : Nat → Nat → Int → Prop := fun a b w => Ed a b w ∨ (a = q ∧ b = p ∧ w = d)
def RAdd (R : Nat → Nat → Int) (q p : Nat) (d : Int) : Nat → Nat → Int := fun a b => if R a q < FARI ∧ R p b < FARI ∧ R a q + d + R p b < R a b then R a q + d + R p b else R a b
theorem RAdd_le {R : Nat → Nat → Int} {q p : Nat} {d : Int} {a b : Nat} : RAdd R q p d a b ≤ R a b := by
  unfold RAdd
  split <;> omega
theorem RAdd_le2 {R : Nat → Nat → Int} {q p : Nat} {d : Int} {a b : Nat} (h1 : R a q < FARI) (h2 : R p b < FARI) : RAdd R q p d a b ≤ R a q + d + R p b := by
  unfold RAdd
  split
  · omega
  · rename_i h
    have : ¬ (R a q + d + R p b < R a b) := fun z => h ⟨h1, h2, z⟩
    omega
theorem Cl_add {Ed : Nat → Nat → Int → Prop} {R : Nat → Nat → Int} {N q p : Nat} {d : Int} (hE : ∀ a b w, Ed a b w → a < N ∧ b < N) (hC : Cl Ed R N) (hq : q < N) (hp : p < N) (hcyc : R p q < FARI → 0 ≤ R p q + d)
    (hb : ∀ a b, a < N → b < N → R a q < FARI → R p b < FARI → R a q + d + R p b < FARI) : Cl (EdAdd Ed q p d) (RAdd R q p d) N := by
  have up : ∀ a b w, Ed a b w → EdAdd Ed q p d a b w := fun a b w h => Or.inl h
  intro a b ha hb'
  refine ⟨fun hf => ?_, Int.le_trans RAdd_le (hC a b ha hb').2.1, ?_⟩
  · unfold RAdd at hf ⊢
    split
    · rename_i h
      exact Wk_app (Wk_app (Wk_mono up ((hC a q ha hq).1 h.1)) (Wk_one (Or.inr ⟨rfl, rfl, rfl⟩))) (Wk_mono up ((hC p b hp hb').1 h.2.1))
    · rename_i h
      rw [if_neg h] at hf
      exact Wk_mono up ((hC a b ha hb').1 hf)
  · rintro w ⟨n, hw⟩
    induction n generalizing b w with
    | zero =>
      obtain ⟨rfl, rfl⟩ := hw
      have h0 := (hC a a ha ha).2.2 0 Wk_nil
      have h1 := @RAdd_le R q p d a a
      omega
    | succ n ih =>
      obtain ⟨c, w1, w2, h1, h2, rfl⟩ := hw
      rcases h2 with h2 | ⟨rfl, rfl, rfl⟩
      · have hcN := (hE _ _ _ h2).1
        have i1 := ih c hcN w1 h1
        by_cases hcond : R a q < FARI ∧ R p c < FARI ∧ R a q + d + R p c < R a c
        · have e : RAdd R q p d a c = R a q + d + R p c := by unfold RAdd; rw [if_pos hcond]
          rw [e] at i1
          have j := (hC p b hp hb').2.2 _ (Wk_app ((hC p c hp hcN).1 hcond.2.1) (Wk_one h2))
          have k1 := @RAdd_le2 R q p d a b hcond.1 j.2
          have k2 := hb a b ha hb' hcond.1 j.2
          omega
        · have e : RAdd R q p d a c = R a c := by unfold RAdd; rw [if_neg hcond]
          rw [e] at i1
          have j := (hC a b ha hb').2.2 _ (Wk_app ((hC a c ha hcN).1 i1.2) (Wk_one h2))
          have k1 := @RAdd_le R q p d a b
          omega
      · have i1 := ih c hq w1 h1
        have hpp := (hC b b hp hp).2.2 0 Wk_nil
        by_cases hcond : R a c < FARI ∧ R b c < FARI ∧ R a c + w2 + R b c < R a c
        · have := hcyc hcond.2.1
          omega
        · have e : RAdd R c b w2 a c = R a c := by unfold RAdd; rw [if_neg hcond]
          rw [e] at i1
          have k1 := @RAdd_le2 R c b w2 a b i1.2 hpp.2
          have k2 := hb a b ha hb' i1.2 hpp.2
          omega
def NegC (Ed : Nat → Nat → Int → Prop) : Prop := ∃ a w, Wk Ed a a w ∧ w < 0
theorem Cl_same {Ed : Nat → Nat → Int → Prop} {R : Nat → Nat → Int} {N q p : Nat} {d : Int} (hE : ∀ a b w, Ed a b w → a < N ∧ b < N) (hC : Cl Ed R N) (hq : q < N) (hp : p < N) (hd : R q p ≤ d) (hf : R q p < FARI) : Cl (EdAdd Ed q p d) R N := by
  intro a b ha hb
  have up : ∀ a b w, Ed a b w → EdAdd Ed q p d a b w := fun a b w h => Or.inl h
  refine ⟨fun hf => Wk_mono up ((hC a b ha hb).1 hf), (hC a b ha hb).2.1, ?_⟩
  rintro w ⟨n, hw⟩
  induction n generalizing b w with
  | zero =>
    obtain ⟨rfl, rfl⟩ := hw
    exact (hC a a ha ha).2.2 0 Wk_nil
  | succ n ih =>
    obtain ⟨c, w1, w2, h1, h2, rfl⟩ := hw
    rcases h2 with h2 | ⟨rfl, rfl, rfl⟩
    · have hcN := (hE _ _ _ h2).1
      have i1 := ih c hcN w1 h1
      have j := (hC a b ha hb).2.2 _ (Wk_app ((hC a c ha hcN).1 i1.2) (Wk_one h2))
      omega
    · have i1 := ih c hq w1 h1
      have j := (hC a b ha hp).2.2 _ (Wk_app ((hC a c ha hq).1 i1.2) ((hC c b hq hp).1 hf))
      omega
theorem Cl_noneg {Ed : Nat → Nat → Int → Prop} {R : Nat → Nat → Int} {N : Nat} (hE : ∀ a b w, Ed a b w → a < N ∧ b < N) (hC : Cl Ed R N) : ¬ NegC Ed := by
  rintro ⟨a, w, ⟨n, hw⟩, hneg⟩
  have ha : a < N := by
    cases n with
    | zero => obtain ⟨-, h⟩ := hw; omega
    | succ n => obtain ⟨c, w1, w2, h1, h2, rfl⟩ := hw; exact (hE _ _ _ h2).2
  have h1 := (hC a a ha ha).2.2 w ⟨n, hw⟩
  have h2 := (hC a a ha ha).1 h1.2
  have h3 := (hC a a ha ha).2.2 _ (Wk_app h2 h2)
  omega
theorem Cl_conf {Ed : Nat → Nat → Int → Prop} {R : Nat → Nat → Int} {N q p : Nat} {d : Int} (hC : Cl Ed R N) (hq : q < N) (hp : p < N) (hf : R p q < FARI) (hd : d < - R p q) : NegC (EdAdd Ed q p d) :=
  ⟨q, d + R p q, Wk_app (Wk_one (Or.inr ⟨rfl, rfl, rfl⟩)) (Wk_mono (fun a b w h => Or.inl h) ((hC p q hp hq).1 hf)), by omega⟩
theorem NegC_mono {Ed Ed' : Nat → Nat → Int → Prop} (hE : ∀ a b w, Ed a b w → Ed' a b w) (h : NegC Ed) : NegC Ed' := by
  obtain ⟨a, w, h1, h2⟩ := h
  exact ⟨a, w, Wk_mono hE h1, h2⟩
theorem Cl_uniq {Ed : Nat → Nat → Int → Prop} {R R' : Nat → Nat → Int} {N : Nat} (h : Cl Ed R N) (h' : Cl Ed R' N) {a b : Nat} (ha : a < N) (hb : b < N) : R a b = R' a b := by
  obtain ⟨a1, a2, a3⟩ := h a b ha hb
  obtain ⟨b1, b2, b3⟩ := h' a b ha hb
  by_cases hf : R a b < FARI
  · have j := b3 _ (a1 hf)
    have i := a3 _ (b1 j.2)
    omega
  · by_cases hf' : R' a b < FARI
    · have i := a3 _ (b1 hf')
      omega
    · omega
