def relx (f : Nat → Int) (u v : Nat) (w : Int) : Nat → Int := if f u < FARI ∧ f u + w < f v then (fun x => if x = v then f u + w else f x) else f
def relxs (tl hd : Nat → Nat) (wt : Nat → Int) (f : Nat → Int) : Nat → Nat → Int
  | 0 => f
  | k + 1 => relx (relxs tl hd wt f k) (tl k) (hd k) (wt k)
def EdR (tl hd : Nat → Nat) (wt : Nat → Int) (m : Nat) : Nat → Nat → Int → Prop := fun a b w => ∃ k, k < m ∧ tl k = a ∧ hd k = b ∧ wt k = w
theorem relx_le (f : Nat → Int) (u v : Nat) (w : Int) (x : Nat) : relx f u v w x ≤ f x := by
  unfold relx
  split
  · rename_i h
    dsimp only
    split
    · rename_i e
      subst e
      omega
    · exact Int.le_refl _
  · exact Int.le_refl _
theorem relx_at (f : Nat → Int) (u v : Nat) (w : Int) (h : f u < FARI) : relx f u v w v ≤ f u + w := by
  unfold relx
  split
  · simp
  · rename_i z
    have : ¬ (f u + w < f v) := fun q => z ⟨h, q⟩
    omega
theorem relxs_le (tl hd : Nat → Nat) (wt : Nat → Int) (f : Nat → Int) (x : Nat) : ∀ (d k : Nat), relxs tl hd wt f (k + d) x ≤ relxs tl hd wt f k x
  | 0, k => Int.le_refl _
  | d + 1, k => Int.le_trans (relx_le _ _ _ _ x) (relxs_le tl hd wt f x d k)
theorem relxs_pass (tl hd : Nat → Nat) (wt : Nat → Int) (f : Nat → Int) {m j : Nat} (hj : j < m) (h : f (tl j) < FARI) : relxs tl hd wt f m (hd j) ≤ f (tl j) + wt j := by
  have h0 := relxs_le tl hd wt f (tl j) j 0
  rw [Nat.zero_add] at h0
  have h0' : relxs tl hd wt f j (tl j) ≤ f (tl j) := h0
  have h1 := relx_at (relxs tl hd wt f j) (tl j) (hd j) (wt j) (by omega)
  have h2 := relxs_le tl hd wt f (hd j) (m - (j + 1)) (j + 1)
  rw [show j + 1 + (m - (j + 1)) = m by omega] at h2
  have h3 : relxs tl hd wt f (j + 1) (hd j) ≤ relxs tl hd wt f j (tl j) + wt j := h1
  omega
/-- what a pass leaves: weights of walks from the sources -/
def Sw (Ed : Nat → Nat → Int → Prop) (S : Nat → Prop) (v : Nat) (w : Int) : Prop := ∃ u, S u ∧ Wk Ed u v w
theorem relxs_sound {tl hd : Nat → Nat} {wt : Nat → Int} {m : Nat} {S : Nat → Prop} {f : Nat → Int} (hf : ∀ x, f x < FARI → Sw (EdR tl hd wt m) S x (f x)) : ∀ k, k ≤ m → ∀ x, relxs tl hd wt f k x < FARI → Sw (EdR tl hd wt m) S x (relxs tl hd wt f k x)
  | 0, _, x, h => hf x h
  | k + 1, hk, x, h => by
    have ih := relxs_sound hf k (by omega)
    show Sw _ S x (relx (relxs tl hd wt f k) (tl k) (hd k) (wt k) x)
    have h' : relx (relxs tl hd wt f k) (tl k) (hd k) (wt k) x < FARI := h
    unfold relx at h' ⊢
    split
    · rename_i hc
      rw [if_pos hc] at h'
      dsimp only at h' ⊢
      split
      · rename_i e
        subst e
        obtain ⟨u, hu, hw⟩ := ih (tl k) hc.1
        exact ⟨u, hu, Wk_app hw (Wk_one ⟨k, by omega, rfl, rfl, rfl⟩)⟩
      · rename_i e
        rw [if_neg e] at h'
        exact ih x h'
    · rename_i hc
      rw [if_neg hc] at h'
      exact ih x h'
/-- rounds -/
def rnds (tl hd : Nat → Nat) (wt : Nat → Int) (m : Nat) (f : Nat → Int) : Nat → Nat → Int
  | 0 => f
  | k + 1 => relxs tl hd wt (rnds tl hd wt m f k) m
theorem rnds_sound {tl hd : Nat → Nat} {wt : Nat → Int} {m : Nat} {S : Nat → Prop} {f : Nat → Int} (hf : ∀ x, f x < FARI → Sw (EdR tl hd wt m) S x (f x)) : ∀ k x, rnds tl hd wt m f k x < FARI → Sw (EdR tl hd wt m) S x (rnds tl hd wt m f k x)
  | 0, x, h => hf x h
  | k + 1, x, h => relxs_sound (rnds_sound hf k) m (Nat.le_refl _) x h
theorem Wn_heavy {Ed : Nat → Nat → Int → Prop} {Wm : Int} (hW : ∀ a b w, Ed a b w → w ≤ Wm) {a : Nat} : ∀ {n b : Nat} {w : Int}, Wn Ed n a b w → w ≤ n * Wm
  | 0, b, w, h => by obtain ⟨-, rfl⟩ := h; omega
  | n + 1, b, w, h => by
    obtain ⟨c, w1, w2, h1, h2, rfl⟩ := h
    have := Wn_heavy hW h1
    have := hW _ _ _ h2
    have e : ((n + 1 : Nat) : Int) * Wm = n * Wm + Wm := by rw [Int.natCast_add, Int.add_mul]; omega
    omega
theorem rnds_reach {tl hd : Nat → Nat} {wt : Nat → Int} {m : Nat} {f : Nat → Int} {Wm : Int} (hW : ∀ a b w, EdR tl hd wt m a b w → w ≤ Wm) (hW0 : 0 ≤ Wm) (hW1 : 30 * Wm < FARI) {u : Nat} (hu : f u ≤ 0) : ∀ (n k : Nat), n ≤ k → n ≤ 25 → ∀ {v : Nat} {w : Int}, Wn (EdR tl hd wt m) n u v w → rnds tl hd wt m f k v ≤ w
  | 0, k, _, _, v, w, h => by
    obtain ⟨rfl, rfl⟩ := h
    induction k with
    | zero => exact hu
    | succ k ih =>
      have := relxs_le tl hd wt (rnds tl hd wt m f k) u m 0
      rw [Nat.zero_add] at this
      exact Int.le_trans this (ih (Nat.zero_le _))
  | n + 1, 0, hk, _, v, w, h => absurd hk (by omega)
  | n + 1, k + 1, hk, h25, v, w, h => by
    obtain ⟨c, w1, w2, h1, ⟨j, hj, rfl, rfl, rfl⟩, rfl⟩ := h
    have i1 := rnds_reach hW hW0 hW1 hu n k (by omega) (by omega) h1
    have hh := Wn_heavy hW h1
    have hn : (n : Int) * Wm ≤ 30 * Wm := Int.mul_le_mul_of_nonneg_right (by omega) hW0
    have := relxs_pass tl hd wt (rnds tl hd wt m f k) hj (by omega)
    exact Int.le_trans this (by omega)
