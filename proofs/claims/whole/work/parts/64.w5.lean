theorem i_add {x y : Int32} (h1 : -2147483648 ≤ x.toInt + y.toInt) (h2 : x.toInt + y.toInt < 2147483648) : (x + y).toInt = x.toInt + y.toInt := by
  rw [Int32.toInt_add]
  exact Int.bmod_eq_of_le (by omega) (by omega)
theorem i_neg {x : Int32} (h1 : -2147483648 < x.toInt) : (-x).toInt = -x.toInt := by
  have := Int32.toInt_lt x
  rw [Int32.toInt_neg]
  exact Int.bmod_eq_of_le (by omega) (by omega)
def LEd (R : Nat → Nat → Int) (N : Nat) (M : Int) : Nat → Nat → Int → Prop := fun u v w => GEd R N M u v w ∧ -99 ≤ w ∧ w ≤ 99
def orig (u : Nat) : Prop := u = 0 ∨ u = 2
theorem first_heavy {R : Nat → Nat → Int} {N : Nat} {M : Int} {a : Nat} : ∀ {n b : Nat} {w : Int}, Wn (GEd R N M) n a b w → Wk (LEd R N M) a b w ∨ ∃ c d w1 w2 w3, Wk (LEd R N M) a c w1 ∧ GEd R N M c d w2 ∧ (orig c ∨ orig d) ∧ (-M ≤ w2 ∧ w2 ≤ M) ∧ Wk (GEd R N M) d b w3 ∧ w = w1 + w2 + w3
  | 0, b, w, h => Or.inl ⟨0, h⟩
  | n + 1, b, w, h => by
    obtain ⟨c', u1, u2, h1, h2, rfl⟩ := h
    rcases first_heavy h1 with h3 | ⟨c, d, w1, w2, w3, g1, g2, g3, g4, g5, rfl⟩
    · rcases h2.2.2.2.2 with hs | ⟨ho, hs⟩
      · exact Or.inl (Wk_app h3 (Wk_one ⟨h2, hs⟩))
      · exact Or.inr ⟨c', b, u1, u2, 0, h3, h2, by unfold orig; omega, hs, Wk_nil, by omega⟩
    · exact Or.inr ⟨c, d, w1, w2, w3 + u2, g1, g2, g3, g4, Wk_app g5 (Wk_one h2), by omega⟩
theorem last_heavy {R : Nat → Nat → Int} {N : Nat} {M : Int} {a : Nat} : ∀ {n b : Nat} {w : Int}, Wn (GEd R N M) n a b w → Wk (LEd R N M) a b w ∨ ∃ c d w1 w2 w3, Wk (GEd R N M) a c w1 ∧ GEd R N M c d w2 ∧ (orig c ∨ orig d) ∧ (-M ≤ w2 ∧ w2 ≤ M) ∧ Wk (LEd R N M) d b w3 ∧ w = w1 + w2 + w3
  | 0, b, w, h => Or.inl ⟨0, h⟩
  | n + 1, b, w, h => by
    obtain ⟨c', u1, u2, h1, h2, rfl⟩ := h
    rcases h2.2.2.2.2 with hs | ⟨ho, hs⟩
    · rcases last_heavy h1 with h3 | ⟨c, d, w1, w2, w3, g1, g2, g3, g4, g5, rfl⟩
      · exact Or.inl (Wk_app h3 (Wk_one ⟨h2, hs⟩))
      · exact Or.inr ⟨c, d, w1, w2, w3 + u2, g1, g2, g3, g4, Wk_app g5 (Wk_one ⟨h2, hs⟩), by omega⟩
    · exact Or.inr ⟨c', b, u1, u2, 0, ⟨n, h1⟩, h2, by unfold orig; omega, hs, Wk_nil, by omega⟩
theorem LEd_g {R : Nat → Nat → Int} {N : Nat} {M : Int} : ∀ a b w, LEd R N M a b w → GEd R N M a b w := fun _ _ _ h => h.1
theorem light_short {R : Nat → Nat → Int} {N : Nat} {M : Int} (hT : Tri R N) (hN : N ≤ 24) {a b : Nat} {w : Int} (h : Wk (LEd R N M) a b w) : ∃ w', w' ≤ w ∧ -2277 ≤ w' ∧ w' ≤ 2277 ∧ Wk (LEd R N M) a b w' := by
  obtain ⟨n, h⟩ := h
  obtain ⟨n', w', h1, h2, h3, h4, h5⟩ := Wn_short (fun a b w h => GEd_node a b w (LEd_g a b w h)) (fun z => GEd_noneg hT (NegC_mono LEd_g z)) n h
  have j1 := Wn_heavy (Wm := 99) (fun a b w h => h.2.2) h5
  have j2 := Wn_light (Wm := 99) (fun a b w h => h.2.1) h5
  have : n' ≤ 23 := by omega
  exact ⟨w', h4, by omega, by omega, n', h5⟩
theorem GEd_wk {R : Nat → Nat → Int} {N : Nat} {M : Int} (hT : Tri R N) {a b : Nat} {w : Int} (ha : a < N) (h : Wk (GEd R N M) a b w) : b < N ∧ R a b ≤ w ∧ R a b < FARI := by
  obtain ⟨n, h⟩ := h
  exact GEd_walk hT ha h
def Tie (R : Nat → Nat → Int) : Prop := R 0 2 = 0 ∧ R 2 0 = 0
theorem tie_to {R : Nat → Nat → Int} {N : Nat} (hT : Tri R N) (hN : 4 ≤ N) (ht : Tie R) {a d : Nat} (ha : a < N) (hd : orig d) (hf : R a d < FARI) : R a 0 = R a d := by
  rcases hd with rfl | rfl
  · rfl
  · have h1 := hT.2 a 2 0 ha (by omega) (by omega) hf (by rw [ht.2]; decide)
    have h2 := hT.2 a 0 2 ha (by omega) (by omega) h1.2 (by rw [ht.1]; decide)
    have := ht.1
    have := ht.2
    omega
theorem tie_of {R : Nat → Nat → Int} {N : Nat} (hT : Tri R N) (hN : 4 ≤ N) (ht : Tie R) {b d : Nat} (hb : b < N) (hd : orig d) (hf : R d b < FARI) : R 0 b = R d b := by
  rcases hd with rfl | rfl
  · rfl
  · have h1 := hT.2 0 2 b (by omega) (by omega) hb (by rw [ht.1]; decide) hf
    have h2 := hT.2 2 0 b (by omega) (by omega) hb (by rw [ht.2]; decide) h1.2
    have := ht.1
    have := ht.2
    omega
theorem orig_lt {d N : Nat} (hN : 4 ≤ N) (h : orig d) : d < N := by unfold orig at h; omega
theorem bnd_to {R : Nat → Nat → Int} {N : Nat} {M : Int} (hT : Tri R N) (h4 : 4 ≤ N) (hN : N ≤ 24) (ht : Tie R) (hG : GenP R N M) (hM : 0 ≤ M) {a : Nat} (ha : a < N) (hf : R a 0 < FARI) : -(2277 + M) ≤ R a 0 ∧ R a 0 ≤ 2277 + M := by
  obtain ⟨n, hw⟩ := hG a 0 ha (by omega) hf
  rcases first_heavy hw with h | ⟨c, d, w1, w2, w3, g1, g2, g3, g4, g5, e⟩
  · obtain ⟨w', i1, i2, i3, i4⟩ := light_short hT hN h
    have := GEd_wk hT ha (Wk_mono LEd_g i4)
    omega
  · obtain ⟨w', i1, i2, i3, i4⟩ := light_short hT hN g1
    have k1 := GEd_wk hT ha (Wk_mono LEd_g i4)
    rcases g3 with hc | hd
    · have k2 := GEd_wk hT (orig_lt h4 hc) (Wk_app (Wk_one g2) g5)
      have k3 := tie_to hT h4 ht ha hc k1.2.2
      have k4 := tie_to hT h4 ht (orig_lt h4 hc) hc (by rw [hT.1 c (orig_lt h4 hc)]; decide)
      have k5 := hT.1 c (orig_lt h4 hc)
      omega
    · have k1' := GEd_wk hT ha (Wk_app (Wk_mono LEd_g i4) (Wk_one g2))
      have k2 := GEd_wk hT (orig_lt h4 hd) g5
      have k3 := tie_to hT h4 ht ha hd k1'.2.2
      have k4 := tie_to hT h4 ht (orig_lt h4 hd) hd (by rw [hT.1 d (orig_lt h4 hd)]; decide)
      have k5 := hT.1 d (orig_lt h4 hd)
      omega
theorem bnd_of {R : Nat → Nat → Int} {N : Nat} {M : Int} (hT : Tri R N) (h4 : 4 ≤ N) (hN : N ≤ 24) (ht : Tie R) (hG : GenP R N M) (hM : 0 ≤ M) {b : Nat} (hb : b < N) (hf : R 0 b < FARI) : -(2277 + M) ≤ R 0 b ∧ R 0 b ≤ 2277 + M := by
  obtain ⟨n, hw⟩ := hG 0 b (by omega) hb hf
  rcases last_heavy hw with h | ⟨c, d, w1, w2, w3, g1, g2, g3, g4, g5, e⟩
  · obtain ⟨w', i1, i2, i3, i4⟩ := light_short hT hN h
    have := GEd_wk hT (by omega : 0 < N) (Wk_mono LEd_g i4)
    omega
  · obtain ⟨w', i1, i2, i3, i4⟩ := light_short hT hN g5
    have hcN := (GEd_node _ _ _ g2).1
    have hdN := (GEd_node _ _ _ g2).2
    have k1 := GEd_wk hT hdN (Wk_mono LEd_g i4)
    rcases g3 with hc | hd
    · have k1' := GEd_wk hT hcN (Wk_app (Wk_one g2) (Wk_mono LEd_g i4))
      have k2 := GEd_wk hT (by omega : 0 < N) g1
      have k3 := tie_of hT h4 ht hb hc k1'.2.2
      have k4 := tie_of hT h4 ht hcN hc (by rw [hT.1 c hcN]; decide)
      have k5 := hT.1 c hcN
      omega
    · have k2 := GEd_wk hT (by omega : 0 < N) (Wk_app g1 (Wk_one g2))
      have k3 := tie_of hT h4 ht hb hd k1.2.2
      have k4 := tie_of hT h4 ht hdN hd (by rw [hT.1 d hdN]; decide)
      have k5 := hT.1 d hdN
      omega
theorem bnd_all {R : Nat → Nat → Int} {N : Nat} {M : Int} (hT : Tri R N) (h4 : 4 ≤ N) (hN : N ≤ 24) (ht : Tie R) (hG : GenP R N M) (hM : 0 ≤ M) {a b : Nat} (ha : a < N) (hb : b < N) (hf : R a b < FARI) : -(4554 + 2 * M) ≤ R a b ∧ R a b ≤ 4554 + 2 * M := by
  obtain ⟨n, hw⟩ := hG a b ha hb hf
  have thru : ∀ x w1 w2, orig x → Wk (GEd R N M) a x w1 → Wk (GEd R N M) x b w2 → R a b = w1 + w2 → -(4554 + 2 * M) ≤ R a b ∧ R a b ≤ 4554 + 2 * M := by
    intro x w1 w2 hx g1 g2 e
    have hxN := orig_lt h4 hx
    have k1 := GEd_wk hT ha g1
    have k2 := GEd_wk hT hxN g2
    have k3 := tie_to hT h4 ht ha hx k1.2.2
    have k4 := tie_of hT h4 ht hb hx k2.2.2
    have k5 := hT.2 a x b ha hxN hb k1.2.2 k2.2.2
    have b1 := bnd_to hT h4 hN ht hG hM ha (by omega)
    have b2 := bnd_of hT h4 hN ht hG hM hb (by omega)
    omega
  rcases first_heavy hw with h | ⟨c, d, w1, w2, w3, g1, g2, g3, g4, g5, e⟩
  · obtain ⟨w', i1, i2, i3, i4⟩ := light_short hT hN h
    have := GEd_wk hT ha (Wk_mono LEd_g i4)
    omega
  · rcases g3 with hc | hd
    · exact thru c w1 (w2 + w3) hc (Wk_mono LEd_g g1) (Wk_app (Wk_one g2) g5) (by omega)
    · exact thru d (w1 + w2) w3 hd (Wk_app (Wk_mono LEd_g g1) (Wk_one g2)) g5 (by omega)
