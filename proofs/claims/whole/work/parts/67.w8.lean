abbrev rn (S : RS) (F : Nat → Int) (k : Nat) : Nat → Int := rnds S.2.1 S.2.2.1 (fun k => (S.2.2.2 k).toInt) S.1 F k
theorem rn_up {S : RS} {F : Nat → Int} (h : ∀ x, F x ≤ FARI) : ∀ k x, rn S F k x ≤ FARI
  | 0, x => h x
  | k + 1, x => relxs_up (rn_up h k) S.1 x
theorem lwR_eq {S : RS} {f : Nat → Int32} {F : Nat → Int} {B W : Int} {K : Nat} (hB : 0 ≤ B ∧ B ≤ 500000000) (hW : ∀ k, k < S.1 → -W ≤ (S.2.2.2 k).toInt ∧ (S.2.2.2 k).toInt ≤ W) (hW0 : 0 ≤ W ∧ W ≤ 500000000) (hf : ∀ x, (f x).toInt = F x) (hu : ∀ x, F x ≤ FARI) (hl : ∀ r, r < K → ∀ k, k ≤ S.1 → ∀ x, -B ≤ relxs S.2.1 S.2.2.1 (fun k => (S.2.2.2 k).toInt) (rn S F r) k x) : ∀ k, k ≤ K → ∀ x, (lwR S f k x).toInt = rn S F k x
  | 0, _, x => hf x
  | k + 1, hk, x => (pass_eq hB hW hW0 (lwR_eq hB hW hW0 hf hu hl k (by omega)) (rn_up hu k) (hl k (by omega)) S.1 (Nat.le_refl _)).1 x
theorem most_eq {S : RS} {N : Nat} {M W : Int} {C : Nat → Nat → Int32} (hk : KS N M (EdC S) C) (hb : KB N C) (hV : RV N W S) (hN : 4 ≤ N ∧ N ≤ 24) (hW : 0 ≤ W ∧ W ≤ 8000000) {p q : Nat} (hp : p < N) (hq : q < N) (ha : ax p = ax q) : (mostM S p q).toInt = iR C p q := by
  obtain ⟨hE, hC, hG⟩ := hk
  obtain ⟨L, hL0, hL⟩ := hb
  have hF : FARI = 268435456 := rfl
  have hno : ¬ NegC (EdS S) := fun z => Cl_noneg hE hC (NegC_mono EdC_up z)
  have wn : ∀ x w, Wk (EdS S) p x w → x < N ∧ iR C p x ≤ w ∧ iR C p x < FARI := by
    intro x w hw
    have hx : x < N := by
      obtain ⟨n, h⟩ := hw
      cases n with
      | zero => obtain ⟨rfl, -⟩ := h; exact hp
      | succ n => obtain ⟨c, w1, w2, h1, h2, -⟩ := h; exact (RV_nd hV _ _ _ h2).2
    exact ⟨hx, (hC p x hp hx).2.2 w (Wk_mono EdC_up hw)⟩
  have hf : ∀ x, (moF p x).toInt = if x = p then 0 else FARI := by
    intro x
    unfold moF
    by_cases e : x = p
    · subst e; rw [gup_same, if_pos rfl]; rfl
    · rw [gup_ne e, if_neg e]; exact FAR_i
  have hu : ∀ x, (fun x => if x = p then (0 : Int) else FARI) x ≤ FARI := by
    intro x
    dsimp only
    split <;> omega
  have s0 : ∀ x, (fun x => if x = p then (0 : Int) else FARI) x < FARI → Sw (EdS S) (fun u => u = p) x ((fun x => if x = p then (0 : Int) else FARI) x) := by
    intro x hx
    dsimp only at hx ⊢
    by_cases e : x = p
    · subst e; rw [if_pos rfl]; exact ⟨x, rfl, Wk_nil⟩
    · rw [if_neg e] at hx; omega
  have hl : ∀ r, r < 25 → ∀ k, k ≤ S.1 → ∀ x, -L ≤ relxs S.2.1 S.2.2.1 (fun k => (S.2.2.2 k).toInt) (rn S (fun x => if x = p then (0 : Int) else FARI) r) k x := by
    intro r hr k hk x
    by_cases c : relxs S.2.1 S.2.2.1 (fun k => (S.2.2.2 k).toInt) (rn S (fun x => if x = p then (0 : Int) else FARI) r) k x < FARI
    · obtain ⟨u, hup, hw⟩ := relxs_sound (m := S.1) (rnds_sound s0 r) k hk x c
      have hup' : u = p := hup
      rw [hup'] at hw
      have g := wn x _ hw
      have g2 : iR C p x ≤ relxs S.2.1 S.2.2.1 (fun k => (S.2.2.2 k).toInt) (rn S (fun x => if x = p then (0 : Int) else FARI) r) k x := g.2.1
      have := hL p x hp g.1 g.2.2
      omega
    · omega
  have key := lwR_eq (K := 25) (B := L) (W := W) ⟨hL0.1, by omega⟩ (fun k hk => (hV k hk).2.2.2) ⟨hW.1, by omega⟩ hf hu hl 25 (Nat.le_refl _) q
  have key' : (mostM S p q).toInt = rn S (fun x => if x = p then (0 : Int) else FARI) 25 q := key
  rw [key']
  have ub := rn_up (S := S) hu 25 q
  have snd : rn S (fun x => if x = p then (0 : Int) else FARI) 25 q < FARI → iR C p q ≤ rn S (fun x => if x = p then (0 : Int) else FARI) 25 q ∧ iR C p q < FARI := by
    intro h
    obtain ⟨u, rfl, hw⟩ := rnds_sound s0 25 q h
    exact (wn q _ hw).2
  by_cases c : iR C p q < FARI
  · obtain ⟨n, hw⟩ := (hC p q hp hq).1 c
    obtain ⟨w', g1, n2, g2⟩ := (proj hV hno hw).1 ha
    obtain ⟨n', w'', h1, h2, h3, h4, h5⟩ := Wn_short (RV_nd hV) hno n2 g2
    have r := rnds_reach (tl := S.2.1) (hd := S.2.2.1) (wt := fun k => (S.2.2.2 k).toInt) (m := S.1) (f := fun x => if x = p then (0 : Int) else FARI) (Wm := W) (fun a b w h => by obtain ⟨k, hk, -, -, rfl⟩ := h; exact (hV k hk).2.2.2.2) hW.1 (by omega) (u := p) (by show (if p = p then (0 : Int) else FARI) ≤ 0; rw [if_pos rfl]; exact Int.le_refl _) n' 25 (by omega) (by omega) h5
    have r' : rn S (fun x => if x = p then (0 : Int) else FARI) 25 q ≤ w'' := r
    have := snd (by omega)
    omega
  · have := (hC p q hp hq).2.1
    by_cases d : rn S (fun x => if x = p then (0 : Int) else FARI) 25 q < FARI
    · exact absurd (snd d).2 c
    · omega
theorem relx_lo {f : Nat → Int} {u v : Nat} {w L W : Int} (h : ∀ x, -L ≤ f x) (hw : -W ≤ w) (hW : 0 ≤ W) (x : Nat) : -(L + W) ≤ relx f u v w x := by
  have h1 := h x
  have h2 := h u
  unfold relx
  split
  · dsimp only
    split <;> omega
  · omega
theorem relxs_lo {tl hd : Nat → Nat} {wt : Nat → Int} {f : Nat → Int} {L : Int} {m : Nat} (h : ∀ x, -L ≤ f x) (hw : ∀ k, k < m → -99 ≤ wt k) : ∀ k, k ≤ m → ∀ x, -(L + k * 99) ≤ relxs tl hd wt f k x
  | 0, _, x => by
    have := h x
    show -(L + ((0 : Nat) : Int) * 99) ≤ f x
    omega
  | k + 1, hk, x => by
    have := relx_lo (u := tl k) (v := hd k) (w := wt k) (W := 99) (relxs_lo (tl := tl) (hd := hd) h hw k (by omega)) (hw k (by omega)) (by omega) x
    show -(L + ((k + 1 : Nat) : Int) * 99) ≤ relx (relxs tl hd wt f k) (tl k) (hd k) (wt k) x
    have e : ((k + 1 : Nat) : Int) = (k : Int) + 1 := rfl
    omega
theorem relxs_fix {tl hd : Nat → Nat} {wt : Nat → Int} {f : Nat → Int} {m : Nat} (h : ∀ j, j < m → ¬ (f (tl j) < FARI ∧ f (tl j) + wt j < f (hd j))) : ∀ k, k ≤ m → relxs tl hd wt f k = f
  | 0, _ => rfl
  | k + 1, hk => by
    have ih := relxs_fix h k (by omega)
    show relx (relxs tl hd wt f k) (tl k) (hd k) (wt k) = f
    rw [ih]
    unfold relx
    rw [if_neg (h k (by omega))]
theorem relxs_fix2 {tl hd : Nat → Nat} {wt : Nat → Int} {f : Nat → Int} {m : Nat} (h : ∀ j, j < m → ¬ (relxs tl hd wt f j (tl j) < FARI ∧ relxs tl hd wt f j (tl j) + wt j < relxs tl hd wt f j (hd j))) : ∀ k, k ≤ m → relxs tl hd wt f k = f
  | 0, _ => rfl
  | k + 1, hk => by
    have ih := relxs_fix2 h k (by omega)
    show relx (relxs tl hd wt f k) (tl k) (hd k) (wt k) = f
    have := h k (by omega)
    rw [ih] at this ⊢
    unfold relx
    rw [if_neg this]
theorem cfM_iff {S : RS} {N : Nat} (hV : RV N 99 S) (hS : S.1 ≤ 120) (hN : N ≤ 24) : cfM S = false ↔ ¬ NegC (EdS S) := by
  have hF : FARI = 268435456 := rfl
  have lo : ∀ r : Nat, r ≤ 25 → ∀ x, -((r : Int) * 11880) ≤ rn S (fun _ => 0) r x := by
    intro r
    induction r with
    | zero => intro _ x; show -(((0 : Nat) : Int) * 11880) ≤ 0; omega
    | succ r ih =>
      intro hr x
      have := relxs_lo (tl := S.2.1) (hd := S.2.2.1) (wt := fun k => (S.2.2.2 k).toInt) (m := S.1) (ih (by omega)) (fun k hk => (hV k hk).2.2.2.1) S.1 (Nat.le_refl _) x
      show -(((r + 1 : Nat) : Int) * 11880) ≤ relxs S.2.1 S.2.2.1 (fun k => (S.2.2.2 k).toInt) (rn S (fun _ => 0) r) S.1 x
      have e : ((r + 1 : Nat) : Int) = (r : Int) + 1 := rfl
      omega
  have hl : ∀ r : Nat, r < 25 → ∀ k, k ≤ S.1 → ∀ x, -300000 ≤ relxs S.2.1 S.2.2.1 (fun k => (S.2.2.2 k).toInt) (rn S (fun _ => 0) r) k x := by
    intro r hr k hk x
    have h1 := relxs_lo (tl := S.2.1) (hd := S.2.2.1) (wt := fun k => (S.2.2.2 k).toInt) (m := S.1) (lo r (by omega)) (fun k hk => (hV k hk).2.2.2.1) k hk x
    omega
  have hu : ∀ x, (fun _ : Nat => (0 : Int)) x ≤ FARI := fun x => by show (0 : Int) ≤ FARI; omega
  have hW : ∀ k, k < S.1 → -99 ≤ (S.2.2.2 k).toInt ∧ (S.2.2.2 k).toInt ≤ 99 := fun k hk => (hV k hk).2.2.2
  have e24 := lwR_eq (S := S) (f := fun _ => 0) (F := fun _ => 0) (K := 25) (B := 300000) (W := 99) (by omega) hW (by omega) (fun _ => rfl) hu hl 24 (by omega)
  have fl := (pass_eq (S := S) (f := lwR S (fun _ => 0) 24) (F := rn S (fun _ => 0) 24) (B := 300000) (W := 99) (by omega) hW (by omega) e24 (rn_up hu 24) (hl 24 (by omega)) S.1 (Nat.le_refl _)).2
  have fl' : cfM S = false ↔ _ := fl
  rw [fl']
  have z0 : ∀ k x, rn S (fun _ => 0) k x ≤ 0 := by
    intro k
    induction k with
    | zero => exact fun x => Int.le_refl _
    | succ k ih =>
      intro x
      have := relxs_le S.2.1 S.2.2.1 (fun k => (S.2.2.2 k).toInt) (rn S (fun _ => 0) k) x S.1 0
      rw [Nat.zero_add] at this
      have h2 := ih x
      exact Int.le_trans this h2
  constructor
  · intro h
    have fx := relxs_fix2 (m := S.1) h
    have st : ∀ j, j < S.1 → rn S (fun _ => 0) 24 (S.2.2.1 j) ≤ rn S (fun _ => 0) 24 (S.2.1 j) + (S.2.2.2 j).toInt := by
      intro j hj
      have := h j hj
      rw [fx j (by omega)] at this
      have := z0 24 (S.2.1 j)
      omega
    have wk : ∀ {n a b : Nat} {w : Int}, Wn (EdS S) n a b w → rn S (fun _ => 0) 24 b ≤ rn S (fun _ => 0) 24 a + w := by
      intro n
      induction n with
      | zero => intro a b w hw; obtain ⟨rfl, rfl⟩ := hw; omega
      | succ n ih =>
        intro a b w hw
        obtain ⟨c, w1, w2, h1, ⟨j, hj, rfl, rfl, rfl⟩, rfl⟩ := hw
        have := ih h1
        have := st j hj
        show rn S (fun _ => 0) 24 (S.2.2.1 j) ≤ rn S (fun _ => 0) 24 a + (w1 + (S.2.2.2 j).toInt)
        omega
    rintro ⟨a, w, ⟨n, hw⟩, hneg⟩
    have := wk hw
    omega
  · intro hno
    have s0 : ∀ x, (fun _ : Nat => (0 : Int)) x < FARI → Sw (EdS S) (fun _ => True) x ((fun _ : Nat => (0 : Int)) x) := fun x _ => ⟨x, trivial, Wk_nil⟩
    have st : ∀ j, j < S.1 → ¬ (rn S (fun _ => 0) 24 (S.2.1 j) < FARI ∧ rn S (fun _ => 0) 24 (S.2.1 j) + (S.2.2.2 j).toInt < rn S (fun _ => 0) 24 (S.2.2.1 j)) := by
      rintro j hj ⟨h1, h2⟩
      obtain ⟨u, -, hw⟩ := rnds_sound s0 24 (S.2.1 j) h1
      obtain ⟨n, hw2⟩ := Wk_app hw (Wk_one (show EdS S (S.2.1 j) (S.2.2.1 j) (S.2.2.2 j).toInt from ⟨j, hj, rfl, rfl, rfl⟩))
      obtain ⟨n', w'', g1, g2, g3, g4, g5⟩ := Wn_short (RV_nd hV) hno n hw2
      have r := rnds_reach (tl := S.2.1) (hd := S.2.2.1) (wt := fun k => (S.2.2.2 k).toInt) (m := S.1) (f := fun _ => (0 : Int)) (Wm := 99) (fun a b w h => by obtain ⟨k, hk, -, -, rfl⟩ := h; exact (hV k hk).2.2.2.2) (by omega) (by omega) (u := u) (Int.le_refl _) n' 24 (by omega) (by omega) g5
      have r' : rn S (fun _ => 0) 24 (S.2.2.1 j) ≤ w'' := r
      have g4' : w'' ≤ rn S (fun _ => 0) 24 (S.2.1 j) + (S.2.2.2 j).toInt := g4
      omega
    intro j hj
    rw [relxs_fix (m := S.1) st j (by omega)]
    exact st j hj
