theorem pot_of {S : RS} {N : Nat} (hV : RV N 99 S) (hN : N ≤ 24) (hno : ¬ NegC (EdS S)) : ∃ φ : Nat → Int, ∀ a b w, EdS S a b w → φ b ≤ φ a + w := by
  have hF : FARI = 268435456 := rfl
  have z0 : ∀ k x, rn S (fun _ => 0) k x ≤ 0 := by
    intro k
    induction k with
    | zero => exact fun x => Int.le_refl _
    | succ k ih =>
      intro x
      have := relxs_le S.2.1 S.2.2.1 (fun k => (S.2.2.2 k).toInt) (rn S (fun _ => 0) k) x S.1 0
      rw [Nat.zero_add] at this
      have h2 := ih x
      exact Int.le_trans this h2
  have s0 : ∀ x, (fun _ : Nat => (0 : Int)) x < FARI → Sw (EdS S) (fun _ => True) x ((fun _ : Nat => (0 : Int)) x) := fun x _ => ⟨x, trivial, Wk_nil⟩
  refine ⟨rn S (fun _ => 0) 24, ?_⟩
  rintro a b w ⟨j, hj, rfl, rfl, rfl⟩
  have h1 : rn S (fun _ => 0) 24 (S.2.1 j) < FARI := by
    have := z0 24 (S.2.1 j)
    omega
  obtain ⟨u, -, hw⟩ := rnds_sound s0 24 (S.2.1 j) h1
  obtain ⟨n, hw2⟩ := Wk_app hw (Wk_one (show EdS S (S.2.1 j) (S.2.2.1 j) (S.2.2.2 j).toInt from ⟨j, hj, rfl, rfl, rfl⟩))
  obtain ⟨n', w'', g1, g2, g3, g4, g5⟩ := Wn_short (RV_nd hV) hno n hw2
  have r := rnds_reach (tl := S.2.1) (hd := S.2.2.1) (wt := fun k => (S.2.2.2 k).toInt) (m := S.1) (f := fun _ => (0 : Int)) (Wm := 99) (fun a b w h => by obtain ⟨k, hk, -, -, rfl⟩ := h; exact (hV k hk).2.2.2.2) (by omega) (by omega) (u := u) (Int.le_refl _) n' 24 (by omega) (by omega) g5
  have r' : rn S (fun _ => 0) 24 (S.2.2.1 j) ≤ w'' := r
  have g4' : w'' ≤ rn S (fun _ => 0) 24 (S.2.1 j) + (S.2.2.2 j).toInt := g4
  show rn S (fun _ => 0) 24 (S.2.2.1 j) ≤ rn S (fun _ => 0) 24 (S.2.1 j) + (S.2.2.2 j).toInt
  omega
theorem pot_no {Ed : Nat → Nat → Int → Prop} {φ : Nat → Int} (h : ∀ a b w, Ed a b w → φ b ≤ φ a + w) : ¬ NegC Ed := by
  have wk : ∀ {n a b : Nat} {w : Int}, Wn Ed n a b w → φ b ≤ φ a + w := by
    intro n
    induction n with
    | zero => intro a b w hw; obtain ⟨rfl, rfl⟩ := hw; omega
    | succ n ih =>
      intro a b w hw
      obtain ⟨c, w1, w2, h1, h2, rfl⟩ := hw
      have := ih h1
      have := h _ _ _ h2
      omega
  rintro ⟨a, w, ⟨n, hw⟩, hneg⟩
  have := wk hw
  omega
def KE (κ : K5) (a b : Nat) (w : Int) : Prop := (a = κ.1 ∧ b = κ.2.1 ∧ w = (-κ.2.2.1).toInt) ∨ (κ.2.2.2.1 = 0 ∧ a = κ.2.1 ∧ b = κ.1 ∧ w = (- -κ.2.2.1).toInt)
def CE (cs : Nat → Option K5) (i a b : Nat) (w : Int) : Prop := ∃ j κ, j < i ∧ cs j = some κ ∧ κ.2.2.2.2 = 0 ∧ KE κ a b w
theorem EdS_K {S : RS} {κ : K5} (a b : Nat) (w : Int) : EdS (rqK S κ) a b w ↔ EdS S a b w ∨ KE κ a b w := by
  unfold rqK KE
  by_cases c : κ.2.2.2.1 = 0
  · rw [if_pos c]
    unfold exA atL
    rw [EdS_add]
    unfold EdAdd
    rw [EdS_add]
    unfold EdAdd
    constructor
    · rintro ((h | h) | h)
      · exact Or.inl h
      · exact Or.inr (Or.inl h)
      · exact Or.inr (Or.inr ⟨c, h⟩)
    · rintro (h | h | ⟨-, h⟩)
      · exact Or.inl (Or.inl h)
      · exact Or.inl (Or.inr h)
      · exact Or.inr h
  · rw [if_neg c]
    unfold atL
    rw [EdS_add]
    unfold EdAdd
    constructor
    · rintro (h | h)
      · exact Or.inl h
      · exact Or.inr (Or.inl h)
    · rintro (h | h | ⟨h, -⟩)
      · exact Or.inl h
      · exact Or.inr h
      · exact absurd h c
theorem EdS_C {S : RS} {cs : Nat → Option K5} (a b : Nat) (w : Int) : ∀ i, EdS (rqC S cs i) a b w ↔ EdS S a b w ∨ CE cs i a b w
  | 0 => ⟨Or.inl, fun h => h.elim id (fun ⟨j, κ, hj, _⟩ => absurd hj (Nat.not_lt_zero _))⟩
  | i + 1 => by
    have ih := EdS_C (S := S) (cs := cs) a b w i
    cases e : cs i with
    | none =>
      have : rqC S cs (i + 1) = rqC S cs i := by show (match cs i with | some κ => _ | none => _) = _; rw [e]
      rw [this, ih]
      constructor
      · rintro (h | ⟨j, κ, h1, h2⟩)
        · exact Or.inl h
        · exact Or.inr ⟨j, κ, by omega, h2⟩
      · rintro (h | ⟨j, κ, h1, h2, h3⟩)
        · exact Or.inl h
        · refine Or.inr ⟨j, κ, ?_, h2, h3⟩
          have : j ≠ i := by rintro rfl; rw [e] at h2; cases h2
          omega
    | some κ =>
      by_cases s : κ.2.2.2.2 = 0
      · have : rqC S cs (i + 1) = rqK (rqC S cs i) κ := by show (match cs i with | some κ => _ | none => _) = _; rw [e]; exact if_pos s
        rw [this, EdS_K, ih]
        constructor
        · rintro ((h | ⟨j, κ', h1, h2⟩) | h)
          · exact Or.inl h
          · exact Or.inr ⟨j, κ', by omega, h2⟩
          · exact Or.inr ⟨i, κ, by omega, e, s, h⟩
        · rintro (h | ⟨j, κ', h1, h2, h3, h4⟩)
          · exact Or.inl (Or.inl h)
          · by_cases e2 : j = i
            · subst e2; rw [e] at h2; cases h2; exact Or.inr h4
            · exact Or.inl (Or.inr ⟨j, κ', by omega, h2, h3, h4⟩)
      · have : rqC S cs (i + 1) = rqC S cs i := by show (match cs i with | some κ => _ | none => _) = _; rw [e]; exact if_neg s
        rw [this, ih]
        constructor
        · rintro (h | ⟨j, κ', h1, h2⟩)
          · exact Or.inl h
          · exact Or.inr ⟨j, κ', by omega, h2⟩
        · rintro (h | ⟨j, κ', h1, h2, h3, h4⟩)
          · exact Or.inl h
          · refine Or.inr ⟨j, κ', ?_, h2, h3, h4⟩
            have : j ≠ i := by rintro rfl; rw [e] at h2; cases h2; exact s h3
            omega
def feas (w h : Int32) (nb : Nat) (cs : Nat → Option K5) : Prop := cfM (rqM w h nb cs) = false
theorem rq_RV {w h : Int32} {nb : Nat} {cs : Nat → Option K5} (hnb : 1 ≤ nb ∧ nb ≤ 6) (hwh : whV w h) (hc : csV nb cs) : RV (4 * nb) 99 (rqM w h nb cs) := (da_RQ (fun _ _ => 0) hnb hwh hc).2.2
theorem feas_iff {w h : Int32} {nb : Nat} {cs : Nat → Option K5} (hnb : 1 ≤ nb ∧ nb ≤ 6) (hwh : whV w h) (hc : csV nb cs) : feas w h nb cs ↔ ¬ NegC (EdS (rqM w h nb cs)) := cfM_iff (rq_RV hnb hwh hc) (rq_len hnb.2) (by omega)
theorem csV_none {nb i : Nat} {cs : Nat → Option K5} (hc : csV nb cs) : csV nb (gup cs i none) := by
  intro j κ hj he
  by_cases e : j = i
  · subst e; rw [gup_same] at he; cases he
  · rw [gup_ne e] at he; exact hc j κ hj he
theorem csV_some {nb i : Nat} {cs : Nat → Option K5} {κ0 : K5} (hc : csV nb cs) (h0 : κ0.1 < 4 * nb ∧ κ0.2.1 < 4 * nb ∧ ax κ0.1 = ax κ0.2.1 ∧ -99 ≤ κ0.2.2.1.toInt ∧ κ0.2.2.1.toInt ≤ 99) : csV nb (gup cs i (some κ0)) := by
  intro j κ hj he
  by_cases e : j = i
  · subst e; rw [gup_same] at he; cases he; exact h0
  · rw [gup_ne e] at he; exact hc j κ hj he
theorem csV_up {nb : Nat} {cs : Nat → Option K5} (hc : csV nb cs) : csV (nb + 1) cs := fun j κ hj he => by
  obtain ⟨h1, h2, h3⟩ := hc j κ hj he
  exact ⟨by omega, by omega, h3⟩
theorem feas_none {w h : Int32} {nb i : Nat} {cs : Nat → Option K5} (hnb : 1 ≤ nb ∧ nb ≤ 6) (hwh : whV w h) (hc : csV nb cs) (hf : feas w h nb cs) : feas w h nb (gup cs i none) := by
  rw [feas_iff hnb hwh (csV_none hc)]
  rw [feas_iff hnb hwh hc] at hf
  refine fun hn => hf (NegC_mono (fun a b x => ?_) hn)
  unfold rqM
  rw [EdS_C, EdS_C]
  rintro (z | ⟨j, κ, h1, h2, h3⟩)
  · exact Or.inl z
  · refine Or.inr ⟨j, κ, h1, ?_, h3⟩
    by_cases e : j = i
    · subst e; rw [gup_same] at h2; cases h2
    · rw [gup_ne e] at h2; exact h2
theorem feas_up {w h : Int32} {nb : Nat} {cs : Nat → Option K5} (hnb : 1 ≤ nb ∧ nb < 6) (hwh : whV w h) (hc : csV nb cs) (hf : feas w h nb cs) : feas w h (nb + 1) cs := by
  rw [feas_iff (by omega) hwh (csV_up hc)]
  rw [feas_iff (by omega) hwh hc] at hf
  have hV := rq_RV (by omega) hwh hc
  obtain ⟨φ, hφ⟩ := pot_of hV (by omega) hf
  refine pot_no (φ := fun x => if x < 4 * nb then φ x else 0) (fun a b x he => ?_)
  have old : EdS (rqM w h nb cs) a b x → (if b < 4 * nb then φ b else 0) ≤ (if a < 4 * nb then φ a else 0) + x := by
    intro z
    have n := RV_nd hV a b x z
    rw [if_pos n.1, if_pos n.2]
    exact hφ a b x z
  have z0 : (-0 : Int32).toInt = 0 := rfl
  unfold rqM at he
  rw [EdS_C] at he
  rcases he with he | he
  · have e1 : rqB (rq0 w h) (nb + 1) = atL (atL (rqB (rq0 w h) nb) (4 * nb + 1) (4 * nb) 0) (4 * nb + 3) (4 * nb + 2) 0 := rfl
    rw [e1] at he
    unfold atL at he
    rw [EdS_add] at he
    rcases he with he | ⟨rfl, rfl, rfl⟩
    · rw [EdS_add] at he
      rcases he with he | ⟨rfl, rfl, rfl⟩
      · refine old ?_
        unfold rqM
        rw [EdS_C]; exact Or.inl he
      · rw [if_neg (by omega), if_neg (by omega), z0]; omega
    · rw [if_neg (by omega), if_neg (by omega), z0]; omega
  · refine old ?_
    unfold rqM
    rw [EdS_C]; exact Or.inr he
theorem feas_0 {w h : Int32} (hwh : whV w h) (hw : 0 ≤ w.toInt) (hh : 0 ≤ h.toInt) : feas w h 1 (fun _ => none) := by
  have hc : csV 1 (fun _ => none) := fun j κ hj he => by cases he
  rw [feas_iff (by omega) hwh hc]
  have a1 := hwh.1
  have a2 := hwh.2
  have n1 : (-w).toInt = -w.toInt := i_neg (by omega)
  have n2 : (-h).toInt = -h.toInt := i_neg (by omega)
  have n3 : - -w = w := Int32.neg_neg
  have n4 : - -h = h := Int32.neg_neg
  have z0 : (-0 : Int32).toInt = 0 := rfl
  refine pot_no (φ := fun x => if x = 1 then w.toInt else if x = 3 then h.toInt else 0) (fun a b x he => ?_)
  unfold rqM at he
  rw [EdS_C] at he
  rcases he with he | ⟨j, κ, -, h2, -⟩
  · have e1 : rqB (rq0 w h) 1 = rwA (rwA (rwA (rwA (rwA (rwA (0, fun _ => 0, fun _ => 0, fun _ => 0) 1 0 (-w)) 0 1 (- -w)) 3 2 (-h)) 2 3 (- -h)) 1 0 (-0)) 3 2 (-0) := rfl
    rw [e1, EdS_add] at he
    rcases he with he | ⟨rfl, rfl, rfl⟩
    · rw [EdS_add] at he
      rcases he with he | ⟨rfl, rfl, rfl⟩
      · rw [EdS_add] at he
        rcases he with he | ⟨rfl, rfl, rfl⟩
        · rw [EdS_add] at he
          rcases he with he | ⟨rfl, rfl, rfl⟩
          · rw [EdS_add] at he
            rcases he with he | ⟨rfl, rfl, rfl⟩
            · rw [EdS_add] at he
              rcases he with ⟨k, hk, -⟩ | ⟨rfl, rfl, rfl⟩
              · exact absurd hk (Nat.not_lt_zero _)
              · rw [n1]; simp; omega
            · rw [n3]; simp
          · rw [n2]; simp; omega
        · rw [n4]; simp
      · rw [z0]; simp; exact hw
    · rw [z0]; simp; exact hh
  · cases h2
