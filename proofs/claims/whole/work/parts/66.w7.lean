def EdS (S : RS) : Nat → Nat → Int → Prop := EdR S.2.1 S.2.2.1 (fun k => (S.2.2.2 k).toInt) S.1
def EdC (S : RS) : Nat → Nat → Int → Prop := fun a b w => EdS S a b w ∨ (w = 0 ∧ (a = 0 ∧ b = 2 ∨ a = 2 ∧ b = 0))
def ax (x : Nat) : Bool := decide (x % 4 < 2)
def RV (N : Nat) (W : Int) (S : RS) : Prop := ∀ k, k < S.1 → S.2.1 k < N ∧ S.2.2.1 k < N ∧ ax (S.2.1 k) = ax (S.2.2.1 k) ∧ -W ≤ (S.2.2.2 k).toInt ∧ (S.2.2.2 k).toInt ≤ W
theorem EdS_add {S : RS} {p q : Nat} {x : Int32} (a b : Nat) (w : Int) : EdS (rwA S p q x) a b w ↔ EdAdd (EdS S) p q x.toInt a b w := by
  constructor
  · rintro ⟨k, hk, h1, h2, h3⟩
    have hk' : k < S.1 + 1 := hk
    have h1' : gup S.2.1 S.1 p k = a := h1
    have h2' : gup S.2.2.1 S.1 q k = b := h2
    have h3' : (gup S.2.2.2 S.1 x k).toInt = w := h3
    by_cases e : k = S.1
    · subst e
      rw [gup_same] at h1' h2' h3'
      exact Or.inr ⟨h1'.symm, h2'.symm, h3'.symm⟩
    · rw [gup_ne e] at h1' h2' h3'
      exact Or.inl ⟨k, by omega, h1', h2', h3'⟩
  · rintro (⟨k, hk, h1, h2, h3⟩ | ⟨rfl, rfl, rfl⟩)
    · have e : k ≠ S.1 := by omega
      exact ⟨k, by show k < S.1 + 1; omega, by show gup S.2.1 S.1 p k = a; rw [gup_ne e]; exact h1, by show gup S.2.2.1 S.1 q k = b; rw [gup_ne e]; exact h2, by show (gup S.2.2.2 S.1 x k).toInt = w; rw [gup_ne e]; exact h3⟩
    · exact ⟨S.1, by show S.1 < S.1 + 1; omega, by show gup S.2.1 S.1 a S.1 = a; rw [gup_same], by show gup S.2.2.1 S.1 b S.1 = b; rw [gup_same], by show (gup S.2.2.2 S.1 x S.1).toInt = _; rw [gup_same]⟩
theorem EdC_add {S : RS} {p q : Nat} {x : Int32} (a b : Nat) (w : Int) : EdC (rwA S p q x) a b w ↔ EdAdd (EdC S) p q x.toInt a b w := by
  unfold EdC
  rw [EdS_add]
  unfold EdAdd
  constructor
  · rintro ((h | h) | h)
    · exact Or.inl (Or.inl h)
    · exact Or.inr h
    · exact Or.inl (Or.inr h)
  · rintro ((h | h) | h)
    · exact Or.inl (Or.inl h)
    · exact Or.inr h
    · exact Or.inl (Or.inr h)
theorem RV_add {N : Nat} {W : Int} {S : RS} {p q : Nat} {x : Int32} (h : RV N W S) (hp : p < N) (hq : q < N) (ha : ax p = ax q) (hx : -W ≤ x.toInt ∧ x.toInt ≤ W) : RV N W (rwA S p q x) := by
  intro k hk
  have hk' : k < S.1 + 1 := hk
  show gup S.2.1 S.1 p k < N ∧ gup S.2.2.1 S.1 q k < N ∧ ax (gup S.2.1 S.1 p k) = ax (gup S.2.2.1 S.1 q k) ∧ -W ≤ (gup S.2.2.2 S.1 x k).toInt ∧ (gup S.2.2.2 S.1 x k).toInt ≤ W
  by_cases e : k = S.1
  · subst e
    rw [gup_same, gup_same, gup_same]
    exact ⟨hp, hq, ha, hx⟩
  · rw [gup_ne e, gup_ne e, gup_ne e]
    exact h k (by omega)
theorem RV_nd {N : Nat} {W : Int} {S : RS} (h : RV N W S) : ∀ a b w, EdS S a b w → a < N ∧ b < N := by
  rintro a b w ⟨k, hk, rfl, rfl, -⟩
  exact ⟨(h k hk).1, (h k hk).2.1⟩
theorem RV_ndC {N : Nat} {W : Int} {S : RS} (h : RV N W S) (hN : 4 ≤ N) : ∀ a b w, EdC S a b w → a < N ∧ b < N := by
  rintro a b w (h1 | ⟨-, h1⟩)
  · exact RV_nd h a b w h1
  · omega
theorem EdC_up {S : RS} : ∀ a b w, EdS S a b w → EdC S a b w := fun _ _ _ h => Or.inl h
theorem ax_og (x : Nat) : ax (ogN x) = ax x := by
  unfold ax ogN
  by_cases h : x % 4 < 2
  · rw [if_pos h]; simp [h]
  · rw [if_neg h]; simp [h]
theorem og_ax {x y : Nat} (h : ax x = ax y) : ogN x = ogN y := by
  unfold ax at h
  unfold ogN
  by_cases c : x % 4 < 2
  · have : y % 4 < 2 := by simpa [c] using h
    rw [if_pos c, if_pos this]
  · have : ¬ y % 4 < 2 := by simpa [c] using h
    rw [if_neg c, if_neg this]
theorem proj {N : Nat} {W : Int} {S : RS} (hV : RV N W S) (hno : ¬ NegC (EdS S)) {a : Nat} : ∀ {n b : Nat} {w : Int}, Wn (EdC S) n a b w → (ax a = ax b → ∃ w', w' ≤ w ∧ Wk (EdS S) a b w') ∧ (ax a ≠ ax b → ∃ w1 w2, w1 + w2 ≤ w ∧ Wk (EdS S) a (ogN a) w1 ∧ Wk (EdS S) (ogN b) b w2)
  | 0, b, w, h => by
    obtain ⟨rfl, rfl⟩ := h
    exact ⟨fun _ => ⟨0, Int.le_refl _, Wk_nil⟩, fun z => absurd rfl z⟩
  | n + 1, b, w, h => by
    obtain ⟨c, u1, u2, h1, h2, rfl⟩ := h
    obtain ⟨i1, i2⟩ := proj hV hno h1
    rcases h2 with h2 | ⟨rfl, h2⟩
    · have hax : ax c = ax b := by
        obtain ⟨k, hk, e1, e2, -⟩ := h2
        rw [← e1, ← e2]; exact (hV k hk).2.2.1
      refine ⟨fun e => ?_, fun e => ?_⟩
      · obtain ⟨w', g1, g2⟩ := i1 (e.trans hax.symm)
        exact ⟨w' + u2, by omega, Wk_app g2 (Wk_one h2)⟩
      · obtain ⟨w1, w2, g1, g2, g3⟩ := i2 (fun z => e (z.trans hax))
        rw [og_ax hax] at g3
        exact ⟨w1, w2 + u2, by omega, g2, Wk_app g3 (Wk_one h2)⟩
    · have hco : ogN c = c := by rcases h2 with ⟨rfl, rfl⟩ | ⟨rfl, rfl⟩ <;> rfl
      have hbo : ogN b = b := by rcases h2 with ⟨rfl, rfl⟩ | ⟨rfl, rfl⟩ <;> rfl
      have hcb : ax c ≠ ax b := by rcases h2 with ⟨rfl, rfl⟩ | ⟨rfl, rfl⟩ <;> decide
      refine ⟨fun e => ?_, fun e => ?_⟩
      · have hac : ax a ≠ ax c := fun z => hcb (z.symm.trans e)
        obtain ⟨w1, w2, g1, g2, g3⟩ := i2 hac
        rw [hco] at g3
        have : ¬ w2 < 0 := fun z => hno ⟨c, w2, g3, z⟩
        rw [og_ax e, hbo] at g2
        exact ⟨w1, by omega, g2⟩
      · have hac : ax a = ax c := by
          cases h1 : ax a <;> cases h2 : ax b <;> cases h3 : ax c <;> simp_all
        obtain ⟨w', g1, g2⟩ := i1 hac
        refine ⟨w', 0, by omega, ?_, by rw [hbo]; exact Wk_nil⟩
        rw [og_ax hac, hco]; exact g2
theorem neg_proj {N : Nat} {W : Int} {S : RS} (hV : RV N W S) : NegC (EdC S) ↔ NegC (EdS S) := by
  constructor
  · intro h
    apply Classical.byContradiction
    intro hno
    obtain ⟨a, w, ⟨n, hw⟩, hneg⟩ := h
    obtain ⟨w', g1, g2⟩ := (proj hV hno hw).1 rfl
    exact hno ⟨a, w', g2, by omega⟩
  · exact NegC_mono EdC_up
theorem relxs_up {tl hd : Nat → Nat} {wt : Nat → Int} {f : Nat → Int} (hf : ∀ x, f x ≤ FARI) (k x : Nat) : relxs tl hd wt f k x ≤ FARI := by
  have := relxs_le tl hd wt f x k 0
  rw [Nat.zero_add] at this
  have h2 : relxs tl hd wt f 0 x = f x := rfl
  have := hf x
  omega
theorem pass_eq {S : RS} {f : Nat → Int32} {F : Nat → Int} {B W : Int} (hB : 0 ≤ B ∧ B ≤ 500000000) (hW : ∀ k, k < S.1 → -W ≤ (S.2.2.2 k).toInt ∧ (S.2.2.2 k).toInt ≤ W) (hW0 : 0 ≤ W ∧ W ≤ 500000000) (hf : ∀ x, (f x).toInt = F x) (hu : ∀ x, F x ≤ FARI) (hl : ∀ k, k ≤ S.1 → ∀ x, -B ≤ relxs S.2.1 S.2.2.1 (fun k => (S.2.2.2 k).toInt) F k x) : ∀ k, k ≤ S.1 → (∀ x, ((lwP S f k).1 x).toInt = relxs S.2.1 S.2.2.1 (fun k => (S.2.2.2 k).toInt) F k x) ∧ ((lwP S f k).2 = false ↔ ∀ j, j < k → ¬ (relxs S.2.1 S.2.2.1 (fun k => (S.2.2.2 k).toInt) F j (S.2.1 j) < FARI ∧ relxs S.2.1 S.2.2.1 (fun k => (S.2.2.2 k).toInt) F j (S.2.1 j) + (S.2.2.2 j).toInt < relxs S.2.1 S.2.2.1 (fun k => (S.2.2.2 k).toInt) F j (S.2.2.1 j)))
  | 0, _ => ⟨hf, fun _ j hj => absurd hj (Nat.not_lt_zero _), fun _ => rfl⟩
  | k + 1, hk => by
    obtain ⟨i1, i2⟩ := pass_eq hB hW hW0 hf hu hl k (by omega)
    have hF : FARI = 268435456 := rfl
    have e0 : relxs S.2.1 S.2.2.1 (fun k => (S.2.2.2 k).toInt) F (k + 1) = relx (relxs S.2.1 S.2.2.1 (fun k => (S.2.2.2 k).toInt) F k) (S.2.1 k) (S.2.2.1 k) (S.2.2.2 k).toInt := rfl
    have u1 := relxs_up (tl := S.2.1) (hd := S.2.2.1) (wt := fun k => (S.2.2.2 k).toInt) hu k (S.2.1 k)
    have l1 := hl k (by omega) (S.2.1 k)
    have w1 := hW k (by omega)
    have s1 : ((lwP S f k).1 (S.2.1 k) + S.2.2.2 k).toInt = relxs S.2.1 S.2.2.1 (fun k => (S.2.2.2 k).toInt) F k (S.2.1 k) + (S.2.2.2 k).toInt := by
      rw [i_add (by rw [i1]; omega) (by rw [i1]; omega), i1]
    have hc : lwC S (lwP S f k).1 k ↔ (relxs S.2.1 S.2.2.1 (fun k => (S.2.2.2 k).toInt) F k (S.2.1 k) < FARI ∧ relxs S.2.1 S.2.2.1 (fun k => (S.2.2.2 k).toInt) F k (S.2.1 k) + (S.2.2.2 k).toInt < relxs S.2.1 S.2.2.1 (fun k => (S.2.2.2 k).toInt) F k (S.2.2.1 k)) := by
      show (¬ (268435456 : Int32) ≤ (lwP S f k).1 (S.2.1 k) ∧ ¬ (lwP S f k).1 (S.2.2.1 k) ≤ (lwP S f k).1 (S.2.1 k) + S.2.2.2 k) ↔ _
      rw [Int32.le_iff_toInt_le, Int32.le_iff_toInt_le, FAR_i, s1, i1, i1]
      omega
    have e1 : lwP S f (k + 1) = if lwC S (lwP S f k).1 k then (gup (lwP S f k).1 (S.2.2.1 k) ((lwP S f k).1 (S.2.1 k) + S.2.2.2 k), true) else lwP S f k := rfl
    by_cases c : lwC S (lwP S f k).1 k
    · rw [if_pos c] at e1
      have c' := hc.mp c
      refine ⟨fun x => ?_, ?_⟩
      · rw [e1, e0]
        unfold relx
        rw [if_pos c']
        show (gup (lwP S f k).1 (S.2.2.1 k) ((lwP S f k).1 (S.2.1 k) + S.2.2.2 k) x).toInt = if x = S.2.2.1 k then _ else _
        by_cases e : x = S.2.2.1 k
        · subst e; rw [gup_same, if_pos rfl, s1]
        · rw [gup_ne e, if_neg e]; exact i1 x
      · rw [e1]
        exact ⟨(fun z => by cases z), fun z => absurd c' (z k (by omega))⟩
    · rw [if_neg c] at e1
      have c' := fun z => c (hc.mpr z)
      refine ⟨fun x => ?_, ?_⟩
      · rw [e1, e0]
        unfold relx
        rw [if_neg c']
        exact i1 x
      · rw [e1, i2]
        constructor
        · intro z j hj
          by_cases e : j = k
          · subst e; exact c'
          · exact z j (by omega)
        · exact fun z j hj => z j (by omega)
