/-- an upper matrix: the triangle's law, 0 on the line -/
def Tri (R : Nat → Nat → Int) (N : Nat) : Prop := (∀ a, a < N → R a a = 0) ∧ ∀ a b c, a < N → b < N → c < N → R a b < FARI → R b c < FARI → R a c ≤ R a b + R b c ∧ R a c < FARI
theorem Cl_tri {Ed : Nat → Nat → Int → Prop} {R : Nat → Nat → Int} {N : Nat} (hE : ∀ a b w, Ed a b w → a < N ∧ b < N) (hC : Cl Ed R N) : Tri R N := by
  refine ⟨fun a ha => ?_, fun a b c ha hb hc h1 h2 => (hC a c ha hc).2.2 _ (Wk_app ((hC a b ha hb).1 h1) ((hC b c hb hc).1 h2))⟩
  have h1 := (hC a a ha ha).2.2 0 Wk_nil
  have h2 : ¬ R a a < 0 := fun z => Cl_noneg hE hC ⟨a, _, (hC a a ha ha).1 h1.2, z⟩
  omega
def Sml (M : Int) (u v : Nat) (w : Int) : Prop := (-99 ≤ w ∧ w ≤ 99) ∨ ((u = 0 ∨ v = 0 ∨ u = 2 ∨ v = 2) ∧ -M ≤ w ∧ w ≤ M)
def GEd (R : Nat → Nat → Int) (N : Nat) (M : Int) : Nat → Nat → Int → Prop := fun u v w => u < N ∧ v < N ∧ R u v ≤ w ∧ R u v < FARI ∧ Sml M u v w
/-- every finite entry is the weight of a walk of small steps that the matrix itself allows -/
def GenP (R : Nat → Nat → Int) (N : Nat) (M : Int) : Prop := ∀ a b, a < N → b < N → R a b < FARI → Wk (GEd R N M) a b (R a b)
theorem Sml_neg {M : Int} {u v : Nat} {w : Int} (h : Sml M u v w) : Sml M v u (-w) := by
  rcases h with h | ⟨h1, h2⟩
  · exact Or.inl (by omega)
  · exact Or.inr ⟨by omega, by omega⟩
theorem GEd_node {R : Nat → Nat → Int} {N : Nat} {M : Int} : ∀ a b w, GEd R N M a b w → a < N ∧ b < N := fun _ _ _ h => ⟨h.1, h.2.1⟩
theorem GEd_walk {R : Nat → Nat → Int} {N : Nat} {M : Int} (hT : Tri R N) {a : Nat} (ha : a < N) : ∀ {n b : Nat} {w : Int}, Wn (GEd R N M) n a b w → b < N ∧ R a b ≤ w ∧ R a b < FARI
  | 0, b, w, h => by
    obtain ⟨rfl, rfl⟩ := h
    have := hT.1 a ha
    exact ⟨ha, by omega, by rw [this]; decide⟩
  | n + 1, b, w, h => by
    obtain ⟨c, w1, w2, h1, h2, rfl⟩ := h
    obtain ⟨i1, i2, i3⟩ := GEd_walk hT ha h1
    have := hT.2 a c b ha i1 h2.2.1 i3 h2.2.2.2.1
    have := h2.2.2.1
    exact ⟨h2.2.1, by omega, by omega⟩
theorem GEd_noneg {R : Nat → Nat → Int} {N : Nat} {M : Int} (hT : Tri R N) : ¬ NegC (GEd R N M) := by
  rintro ⟨a, w, ⟨n, hw⟩, hneg⟩
  cases n with
  | zero => obtain ⟨-, h⟩ := hw; omega
  | succ n =>
    have ha : a < N := by obtain ⟨c, w1, w2, h1, h2, rfl⟩ := hw; exact h2.2.1
    have h1 := GEd_walk hT ha hw
    have h2 := hT.1 a ha
    omega
theorem Sml_le {M : Int} (hM : 99 ≤ M) {u v : Nat} {w : Int} (h : Sml M u v w) : -M ≤ w ∧ w ≤ M := by
  rcases h with h | ⟨h1, h2⟩ <;> omega
theorem Wn_light {Ed : Nat → Nat → Int → Prop} {Wm : Int} (hW : ∀ a b w, Ed a b w → -Wm ≤ w) {a : Nat} : ∀ {n b : Nat} {w : Int}, Wn Ed n a b w → -(n * Wm) ≤ w
  | 0, b, w, h => by obtain ⟨-, rfl⟩ := h; omega
  | n + 1, b, w, h => by
    obtain ⟨c, w1, w2, h1, h2, rfl⟩ := h
    have := Wn_light hW h1
    have := hW _ _ _ h2
    have e : ((n + 1 : Nat) : Int) * Wm = n * Wm + Wm := by rw [Int.natCast_add, Int.add_mul]; omega
    omega
theorem GenP_bound {R : Nat → Nat → Int} {N : Nat} {M : Int} (hT : Tri R N) (hM : 99 ≤ M) (hG : GenP R N M) (hN : N ≤ 24) {a b : Nat} (ha : a < N) (hb : b < N) (hf : R a b < FARI) : -(24 * M) ≤ R a b ∧ R a b ≤ 24 * M := by
  obtain ⟨n, hw⟩ := hG a b ha hb hf
  obtain ⟨n', w', h1, h2, h3, h4, h5⟩ := Wn_short GEd_node (GEd_noneg hT) n hw
  have i1 := GEd_walk hT ha h5
  have e : w' = R a b := by omega
  have j1 := Wn_heavy (Wm := M) (fun a b w h => (Sml_le hM h.2.2.2.2).2) h5
  have j2 := Wn_light (Wm := M) (fun a b w h => (Sml_le hM h.2.2.2.2).1) h5
  have k : (n' : Int) * M ≤ 24 * M := Int.mul_le_mul_of_nonneg_right (by omega) (by omega)
  omega
theorem GEd_mono {R R' : Nat → Nat → Int} {N : Nat} {M : Int} (h : ∀ a b, a < N → b < N → R' a b ≤ R a b) : ∀ a b w, GEd R N M a b w → GEd R' N M a b w := fun a b w ⟨h1, h2, h3, h4, h5⟩ => ⟨h1, h2, by have := h a b h1 h2; omega, by have := h a b h1 h2; omega, h5⟩
theorem GenP_atom {R : Nat → Nat → Int} {N q p : Nat} {d M : Int} (hG : GenP R N M) (hq : q < N) (hp : p < N) (hs : Sml M q p d) (hT : Tri R N) (hfin : d < FARI) : GenP (RAdd R q p d) N M := by
  intro a b ha hb hf
  have up := @GEd_mono R (RAdd R q p d) N M (fun a b _ _ => RAdd_le)
  by_cases hc : R a q < FARI ∧ R p b < FARI ∧ R a q + d + R p b < R a b
  · have e : RAdd R q p d a b = R a q + d + R p b := by unfold RAdd; rw [if_pos hc]
    rw [e]
    have hqq := hT.1 q hq
    have hpp := hT.1 p hp
    have hle : RAdd R q p d q p ≤ d := by
      have := @RAdd_le2 R q p d q p (by rw [hqq]; decide) (by rw [hpp]; decide)
      omega
    exact Wk_app (Wk_app (Wk_mono up (hG a q ha hq hc.1)) (Wk_one ⟨hq, hp, hle, by omega, hs⟩)) (Wk_mono up (hG p b hp hb hc.2.1))
  · have e : RAdd R q p d a b = R a b := by unfold RAdd; rw [if_neg hc]
    rw [e] at hf ⊢
    exact Wk_mono up (hG a b ha hb hf)
/-- a tight bound: the way there turned round -/
theorem GenP_tight {R : Nat → Nat → Int} {N q p : Nat} {M : Int} (hG : GenP R N M) (hq : q < N) (hp : p < N) (hT : Tri R N) (hf0 : R p q < FARI) (hM : 99 ≤ M) (hMF : M < FARI) : GenP (RAdd R q p (- R p q)) N M := by
  intro a b ha hb hf
  have up := @GEd_mono R (RAdd R q p (- R p q)) N M (fun a b _ _ => RAdd_le)
  by_cases hc : R a q < FARI ∧ R p b < FARI ∧ R a q + (- R p q) + R p b < R a b
  · have e : RAdd R q p (- R p q) a b = R a q + (- R p q) + R p b := by unfold RAdd; rw [if_pos hc]
    rw [e]
    refine Wk_app (Wk_app (Wk_mono up (hG a q ha hq hc.1)) ?_) (Wk_mono up (hG p b hp hb hc.2.1))
    obtain ⟨n, hw⟩ := hG p q hp hq hf0
    obtain ⟨x, s, x0, xn, s0, sn, hs⟩ := Wn_seq hw
    have rev : ∀ m, m ≤ n → Wn (GEd (RAdd R q p (- R p q)) N M) m (x n) (x (n - m)) (s (n - m) - s n) := by
      intro m
      induction m with
      | zero => intro _; exact ⟨rfl, by rw [Nat.sub_zero]; omega⟩
      | succ m ih =>
        intro hm
        have i1 := ih (by omega)
        have hstep := hs (n - (m + 1)) (by omega)
        rw [show n - (m + 1) + 1 = n - m by omega] at hstep
        refine ⟨x (n - m), _, s (n - (m + 1)) - s (n - m), i1, ?_, by omega⟩
        have pre := GEd_walk hT hp (by have := Wn_seg hs (n - (m + 1)) 0 (by omega); rw [x0, Nat.zero_add] at this; exact this)
        have hxm := hstep.2.1
        have suf := GEd_walk hT hxm (by have := Wn_seg hs m (n - m) (by omega); rw [show n - m + m = n by omega, xn] at this; exact this)
        have hle := @RAdd_le2 R q p (- R p q) (x (n - m)) (x (n - (m + 1))) suf.2.2 pre.2.2
        have hsm := Sml_neg hstep.2.2.2.2
        rw [show -(s (n - m) - s (n - (m + 1))) = s (n - (m + 1)) - s (n - m) by omega] at hsm
        refine ⟨hxm, hstep.1, by omega, ?_, hsm⟩
        have b1 := Sml_le hM hsm
        omega
    have r := rev n (Nat.le_refl _)
    rw [Nat.sub_self, x0, xn, s0, sn] at r
    exact ⟨n, by rw [show (0 : Int) - R p q = - R p q by omega] at r; exact r⟩
  · have e : RAdd R q p (- R p q) a b = R a b := by unfold RAdd; rw [if_neg hc]
    rw [e] at hf ⊢
    exact Wk_mono up (hG a b ha hb hf)
