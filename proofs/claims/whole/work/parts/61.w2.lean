theorem php : ∀ (N : Nat) (x : Nat → Nat), (∀ i, i ≤ N → x i < N) → ∃ i j, i < j ∧ j ≤ N ∧ x i = x j
  | 0, x, h => absurd (h 0 (Nat.le_refl _)) (Nat.not_lt_zero _)
  | N + 1, x, h => by
    by_cases hv : ∃ i, i ≤ N ∧ x i = x (N + 1)
    · obtain ⟨i, hi, he⟩ := hv
      exact ⟨i, N + 1, Nat.lt_succ_of_le hi, Nat.le_refl _, he⟩
    · have hne : ∀ i, i ≤ N → x i ≠ x (N + 1) := fun i hi he => hv ⟨i, hi, he⟩
      have hlast := h (N + 1) (Nat.le_refl _)
      obtain ⟨i, j, h1, h2, h3⟩ := php N (fun i => if x (N + 1) < x i then x i - 1 else x i) (fun i hi => by
        have a1 := h i (Nat.le_succ_of_le hi)
        have a2 := hne i hi
        (try dsimp only)
        split <;> omega)
      refine ⟨i, j, h1, Nat.le_succ_of_le h2, ?_⟩
      have b1 := hne i (by omega)
      have b2 := hne j h2
      (try dsimp only at h3)
      split at h3 <;> split at h3 <;> omega
theorem Wn_seq {Ed : Nat → Nat → Int → Prop} {a : Nat} : ∀ {n b : Nat} {w : Int}, Wn Ed n a b w → ∃ (x : Nat → Nat) (s : Nat → Int), x 0 = a ∧ x n = b ∧ s 0 = 0 ∧ s n = w ∧ ∀ i, i < n → Ed (x i) (x (i + 1)) (s (i + 1) - s i)
  | 0, b, w, h => by
    obtain ⟨rfl, rfl⟩ := h
    exact ⟨fun _ => a, fun _ => 0, rfl, rfl, rfl, rfl, fun i hi => absurd hi (Nat.not_lt_zero _)⟩
  | n + 1, b, w, h => by
    obtain ⟨c, w1, w2, h1, h2, rfl⟩ := h
    obtain ⟨x, s, x0, xn, s0, sn, hs⟩ := Wn_seq h1
    refine ⟨fun i => if i ≤ n then x i else b, fun i => if i ≤ n then s i else w1 + w2, ?_, ?_, ?_, ?_, fun i hi => ?_⟩
    · simp [x0]
    · show (if n + 1 ≤ n then x (n + 1) else b) = b
      rw [if_neg (by omega)]
    · simp [s0]
    · show (if n + 1 ≤ n then s (n + 1) else w1 + w2) = w1 + w2
      rw [if_neg (by omega)]
    · by_cases hin : i + 1 ≤ n
      · have := hs i (by omega)
        simp only [if_pos hin, if_pos (show i ≤ n by omega)]
        exact this
      · have e : i = n := by omega
        subst e
        simp only [if_neg hin, if_pos (Nat.le_refl i), xn, sn]
        have : w1 + w2 - w1 = w2 := by omega
        rw [this]
        exact h2
theorem Wn_seg {Ed : Nat → Nat → Int → Prop} {x : Nat → Nat} {s : Nat → Int} {n : Nat} (hs : ∀ i, i < n → Ed (x i) (x (i + 1)) (s (i + 1) - s i)) : ∀ (m i : Nat), i + m ≤ n → Wn Ed m (x i) (x (i + m)) (s (i + m) - s i)
  | 0, i, _ => ⟨rfl, by rw [Nat.add_zero]; omega⟩
  | m + 1, i, h => ⟨x (i + m), s (i + m) - s i, s (i + m + 1) - s (i + m), Wn_seg hs m i (by omega), hs (i + m) (by omega), by rw [Nat.add_assoc]; omega⟩
theorem Wn_node {Ed : Nat → Nat → Int → Prop} {N : Nat} (hE : ∀ a b w, Ed a b w → a < N ∧ b < N) {x : Nat → Nat} {s : Nat → Int} {n : Nat} (hs : ∀ i, i < n → Ed (x i) (x (i + 1)) (s (i + 1) - s i)) (hn : 0 < n) : ∀ i, i ≤ n → x i < N := by
  intro i hi
  by_cases h : i < n
  · exact (hE _ _ _ (hs i h)).1
  · have e : i = (n - 1) + 1 := by omega
    rw [e]
    exact (hE _ _ _ (hs (n - 1) (by omega))).2
/-- a walk without detours: fewer than N steps, no heavier, if no circle is below 0 -/
theorem Wn_short {Ed : Nat → Nat → Int → Prop} {N : Nat} (hE : ∀ a b w, Ed a b w → a < N ∧ b < N) (hno : ¬ NegC Ed) : ∀ (n : Nat) {a b : Nat} {w : Int}, Wn Ed n a b w → ∃ n' w', n' < N + 1 ∧ n' ≤ n ∧ (n' < N ∨ n' = 0) ∧ w' ≤ w ∧ Wn Ed n' a b w' := by
  intro n
  induction n using Nat.strongRecOn with
  | ind n ih =>
    intro a b w h
    by_cases hn : n < N ∨ n = 0
    · exact ⟨n, w, by omega, Nat.le_refl _, hn, Int.le_refl _, h⟩
    · obtain ⟨x, s, x0, xn, s0, sn, hs⟩ := Wn_seq h
      have hnode := Wn_node hE hs (by omega)
      obtain ⟨i, j, h1, h2, h3⟩ := php N x (fun i hi => hnode i (by omega))
      have p1 := Wn_seg hs i 0 (by omega)
      have p2 := Wn_seg hs (j - i) i (by omega)
      have p3 := Wn_seg hs (n - j) j (by omega)
      rw [show i + (j - i) = j by omega] at p2
      rw [show j + (n - j) = n by omega] at p3
      rw [Nat.zero_add] at p1
      rw [← h3] at p3 p2
      have hc : ¬ (s j - s i < 0) := fun z => hno ⟨x i, _, ⟨_, p2⟩, z⟩
      have p := Wn_app p1 p3
      rw [x0, xn] at p
      obtain ⟨n', w', q1, q2, q3, q4, q5⟩ := ih (i + (n - j)) (by omega) p
      exact ⟨n', w', q1, by omega, q3, by omega, q5⟩
