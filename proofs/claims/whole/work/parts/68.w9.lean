def Ed0 : Nat → Nat → Int → Prop := fun _ _ _ => False
def RQ (N : Nat) (Ed : Nat → Nat → Int → Prop) (P : S2) : Prop := (P.2 = 0 ∧ KS N 99 Ed P.1) ∨ (P.2 = 1 ∧ NegC Ed ∧ ∃ Ed', KS N 99 Ed' P.1)
theorem KB_99 {N : Nat} (hN : N ≤ 24) {Ed : Nat → Nat → Int → Prop} {C : Nat → Nat → Int32} (hk : KS N 99 Ed C) : KB N C := ⟨2376, by omega, fun a b ha hb hf => by
  have := GenP_bound (Cl_tri hk.1 hk.2.1) (by omega) hk.2.2 hN ha hb hf
  omega⟩
theorem RQ_kam {N p q : Nat} {d : Int32} {P : S2} {Ed : Nat → Nat → Int → Prop} (hN : N ≤ 24) (h : RQ N Ed P) (hp : p < N) (hq : q < N) (hd : -99 ≤ d.toInt ∧ d.toInt ≤ 99) : KOk P.1 p q d ∧ RQ N (EdAdd Ed q p d.toInt) (kamP P p q d N) := by
  have hF : FARI = 268435456 := rfl
  rcases h with ⟨h1, h2⟩ | ⟨h1, h2, Ed', h3⟩
  · obtain ⟨k1, k2⟩ := KS_add (cf := P.2) h2 (KB_99 hN h2) (by omega) hp hq (by omega) (Or.inl (Or.inl hd))
    refine ⟨k1, ?_⟩
    rcases k2 with ⟨g1, g2, -⟩ | ⟨-, g2, g3, g4⟩
    · exact Or.inl ⟨g2.trans h1, g1⟩
    · exact Or.inr ⟨g3, g4, Ed, by show KS N 99 Ed (kamM P.1 p q d N); rw [g2]; exact h2⟩
  · obtain ⟨k1, k2⟩ := KS_add (cf := P.2) h3 (KB_99 hN h3) (by omega) hp hq (by omega) (Or.inl (Or.inl hd))
    refine ⟨k1, Or.inr ⟨?_, NegC_mono (fun a b w z => Or.inl z) h2, ?_⟩⟩
    · rcases k2 with ⟨g1, g2, -⟩ | ⟨-, g2, g3, g4⟩
      · exact g2.trans h1
      · exact g3
    · rcases k2 with ⟨g1, g2, -⟩ | ⟨-, g2, g3, g4⟩
      · exact ⟨_, g1⟩
      · exact ⟨Ed', by show KS N 99 Ed' (kamM P.1 p q d N); rw [g2]; exact h3⟩
theorem RQ_wk {N : Nat} {P : S2} {Ed Ed' : Nat → Nat → Int → Prop} (h : RQ N Ed P) (hn : ∀ a b w, Ed' a b w → a < N ∧ b < N) (he : ∀ a b w, Wk Ed a b w ↔ Wk Ed' a b w) : RQ N Ed' P := by
  rcases h with ⟨h1, h2⟩ | ⟨h1, ⟨a, w, h2, h4⟩, h3⟩
  · exact Or.inl ⟨h1, hn, Cl_wk he h2.2.1, h2.2.2⟩
  · exact Or.inr ⟨h1, ⟨a, w, (he _ _ _).mp h2, h4⟩, h3⟩
theorem RQ_iff {N : Nat} {P : S2} {Ed Ed' : Nat → Nat → Int → Prop} (he : ∀ a b w, Ed a b w ↔ Ed' a b w) (h : RQ N Ed P) : RQ N Ed' P := by
  rcases h with ⟨h1, h2⟩ | ⟨h1, h2, h3⟩
  · exact Or.inl ⟨h1, KS_iff he h2⟩
  · exact Or.inr ⟨h1, NegC_mono (fun a b w => (he a b w).mp) h2, h3⟩
theorem RQ_fix {N p q : Nat} {d : Int32} {P : S2} {Ed : Nat → Nat → Int → Prop} (hN : N ≤ 24) (h : RQ N Ed P) (hp : p < N) (hq : q < N) (hd : -99 ≤ d.toInt ∧ d.toInt ≤ 99) : fixK P p q d N ∧ RQ N (EdAdd (EdAdd Ed q p d.toInt) p q (-d.toInt)) (fixP P p q d N) := by
  have hn : (-d).toInt = -d.toInt := i_neg (by omega)
  obtain ⟨k1, r1⟩ := RQ_kam hN h hp hq hd
  obtain ⟨k2, r2⟩ := RQ_kam (d := -d) hN r1 hq hp (by omega)
  rw [hn] at r2
  exact ⟨⟨k1, k2⟩, r2⟩
theorem Wk_0 {a b : Nat} {w : Int} (h : Wk Ed0 a b w) : a = b ∧ w = 0 := by
  obtain ⟨n, h⟩ := h
  cases n with
  | zero => exact h
  | succ n => obtain ⟨c, w1, w2, h1, h2, -⟩ := h; exact absurd h2 id
theorem KS_0 {N : Nat} {R : Nat → Nat → Int32} : KS N 99 Ed0 (opR R N) := by
  have hF : FARI = 268435456 := rfl
  have e : ∀ a b, a < N → iR (opR R N) a b = if a = b then 0 else FARI := by
    intro a b ha
    unfold iR opR
    rw [if_pos ha]
    by_cases c : a = b
    · rw [if_pos c, if_pos c]; rfl
    · rw [if_neg c, if_neg c]; exact FAR_i
  refine ⟨fun a b w h => absurd h id, fun a b ha hb => ⟨fun h => ?_, ?_, fun w h => ?_⟩, fun a b ha hb h => ?_⟩
  · rw [e a b ha] at h ⊢
    by_cases c : a = b
    · subst c; rw [if_pos rfl]; exact Wk_nil
    · rw [if_neg c] at h; omega
  · rw [e a b ha]; split <;> omega
  · obtain ⟨rfl, rfl⟩ := Wk_0 h
    rw [e a a ha, if_pos rfl]; omega
  · by_cases c : a = b
    · subst c
      have : iR (opR R N) a a = 0 := by rw [e a a ha, if_pos rfl]
      rw [this]; exact Wk_nil
    · rw [e a b ha, if_neg c] at h; omega
theorem EdC_ex {S : RS} {p q : Nat} {c : Int32} (hc : -2147483648 < c.toInt) (a b : Nat) (w : Int) : EdC (exA S p q c) a b w ↔ EdAdd (EdAdd (EdC S) q p c.toInt) p q (-c.toInt) a b w := by
  have h1 : (-c).toInt = -c.toInt := i_neg hc
  have h2 : - -c = c := Int32.neg_neg
  unfold exA atL
  rw [EdC_add, h2]
  unfold EdAdd
  rw [EdC_add, h1]
  unfold EdAdd
  constructor
  · rintro ((h | h) | h)
    · exact Or.inl (Or.inl h)
    · exact Or.inr h
    · exact Or.inl (Or.inr h)
  · rintro ((h | h) | h)
    · exact Or.inl (Or.inl h)
    · exact Or.inr h
    · exact Or.inl (Or.inr h)
theorem RV_ex {N : Nat} {W : Int} {S : RS} {p q : Nat} {x : Int32} (h : RV N W S) (hp : p < N) (hq : q < N) (ha : ax p = ax q) (hx : -W ≤ x.toInt ∧ x.toInt ≤ W) (hW : W ≤ 1000000000) : RV N W (exA S p q x) := by
  have h1 : (-x).toInt = -x.toInt := i_neg (by omega)
  have h2 : - -x = x := Int32.neg_neg
  unfold exA atL
  refine RV_add (RV_add h hp hq ha (by omega)) hq hp ha.symm ?_
  rw [h2]; exact hx
theorem RV_at {N : Nat} {W : Int} {S : RS} {p q : Nat} {x : Int32} (h : RV N W S) (hp : p < N) (hq : q < N) (ha : ax p = ax q) (hx : -W ≤ x.toInt ∧ x.toInt ≤ W) (hW : W ≤ 1000000000) : RV N W (atL S p q x) := by
  have h1 : (-x).toInt = -x.toInt := i_neg (by omega)
  unfold atL
  exact RV_add h hp hq ha (by omega)
theorem RV_mono {N : Nat} {W W' : Int} {S : RS} (h : RV N W S) (hW : W ≤ W') : RV N W' S := fun k hk => by
  have := h k hk
  exact ⟨this.1, this.2.1, this.2.2.1, by omega, by omega⟩
theorem RQ_at {N p q : Nat} {c : Int32} {P : S2} {S : RS} (hN : N ≤ 24) (h : RQ N (EdC S) P) (hp : p < N) (hq : q < N) (hd : -99 ≤ c.toInt ∧ c.toInt ≤ 99) : KOk P.1 p q (-c) ∧ RQ N (EdC (atL S q p c)) (kamP P p q (-c) N) := by
  have h1 : (-c).toInt = -c.toInt := i_neg (by omega)
  obtain ⟨k1, r1⟩ := RQ_kam (d := -c) hN h hp hq (by omega)
  exact ⟨k1, RQ_iff (fun a b w => (EdC_add a b w).symm) r1⟩
theorem RQ_ex {N p q : Nat} {c : Int32} {P : S2} {S : RS} (hN : N ≤ 24) (h : RQ N (EdC S) P) (hp : p < N) (hq : q < N) (hd : -99 ≤ c.toInt ∧ c.toInt ≤ 99) : fixK P p q c N ∧ RQ N (EdC (exA S p q c)) (fixP P p q c N) := by
  obtain ⟨k1, r1⟩ := RQ_fix hN h hp hq hd
  exact ⟨k1, RQ_iff (fun a b w => (EdC_ex (by omega) a b w).symm) r1⟩
theorem RV_0 {N : Nat} {W : Int} : RV N W (0, fun _ => 0, fun _ => 0, fun _ => 0) := fun k hk => absurd hk (Nat.not_lt_zero _)
theorem rq0_RV {N : Nat} {w h : Int32} (h4 : 4 ≤ N) (hw : -99 ≤ w.toInt ∧ w.toInt ≤ 99) (hh : -99 ≤ h.toInt ∧ h.toInt ≤ 99) : RV N 99 (rq0 w h) := RV_ex (RV_ex RV_0 (by omega) (by omega) (by decide) hw (by omega)) (by omega) (by omega) (by decide) hh (by omega)
theorem d0_RQ {N : Nat} {w h : Int32} {R : Nat → Nat → Int32} (h4 : 4 ≤ N) (hN : N ≤ 24) (hw : -99 ≤ w.toInt ∧ w.toInt ≤ 99) (hh : -99 ≤ h.toInt ∧ h.toInt ≤ 99) : d0K R w h N ∧ RQ N (EdC (rq0 w h)) (d0P R w h N) := by
  have z0 : (0 : Int32).toInt = 0 := rfl
  obtain ⟨k1, r1⟩ := RQ_fix (p := 1) (q := 0) (d := w) (P := (opR R N, 0)) hN (Or.inl ⟨rfl, KS_0⟩) (by omega) (by omega) hw
  obtain ⟨k2, r2⟩ := RQ_fix (p := 2) (q := 0) (d := 0) hN r1 (by omega) (by omega) (by rw [z0]; omega)
  obtain ⟨k3, r3⟩ := RQ_fix (p := 3) (q := 0) (d := h) hN r2 (by omega) (by omega) hh
  refine ⟨⟨k1, k2, k3⟩, RQ_wk r3 (RV_ndC (rq0_RV h4 hw hh) h4) (Wk_eqv ?_ ?_)⟩
  · have eC : ∀ a b v, EdAdd (EdAdd (EdC (exA (0, fun _ => 0, fun _ => 0, fun _ => 0) 1 0 w)) 2 3 h.toInt) 3 2 (-h.toInt) a b v → EdC (rq0 w h) a b v := fun a b v z => (EdC_ex (by omega) a b v).mpr z
    have eD : ∀ a b v, EdAdd (EdAdd (EdC (0, fun _ => 0, fun _ => 0, fun _ => 0)) 0 1 w.toInt) 1 0 (-w.toInt) a b v → EdC (exA (0, fun _ => 0, fun _ => 0, fun _ => 0) 1 0 w) a b v := fun a b v z => (EdC_ex (by omega) a b v).mpr z
    have t1 : EdC (rq0 w h) 0 2 0 := Or.inr ⟨rfl, Or.inl ⟨rfl, rfl⟩⟩
    have t2 : EdC (rq0 w h) 2 0 0 := Or.inr ⟨rfl, Or.inr ⟨rfl, rfl⟩⟩
    rintro a b v ((((((h1 | ⟨rfl, rfl, rfl⟩) | ⟨rfl, rfl, rfl⟩) | ⟨rfl, rfl, rfl⟩) | ⟨rfl, rfl, rfl⟩) | ⟨rfl, rfl, rfl⟩) | ⟨rfl, rfl, rfl⟩)
    · exact absurd h1 id
    · exact Wk_one (eC _ _ _ (Or.inl (Or.inl (eD _ _ _ (Or.inl (Or.inr ⟨rfl, rfl, rfl⟩))))))
    · exact Wk_one (eC _ _ _ (Or.inl (Or.inl (eD _ _ _ (Or.inr ⟨rfl, rfl, rfl⟩)))))
    · exact Wk_one t1
    · exact Wk_one t2
    · have := Wk_app (Wk_one t1) (Wk_one (eC 2 3 h.toInt (Or.inl (Or.inr ⟨rfl, rfl, rfl⟩))))
      rw [Int.zero_add] at this; exact this
    · have := Wk_app (Wk_one (eC 3 2 (-h.toInt) (Or.inr ⟨rfl, rfl, rfl⟩))) (Wk_one t2)
      rw [Int.add_zero] at this; exact this
  · intro a b v z
    have z1 := (EdC_ex (by omega) a b v).mp z
    have tt : ∀ a b v, (v = 0 ∧ (a = 0 ∧ b = 2 ∨ a = 2 ∧ b = 0)) → EdAdd (EdAdd (EdAdd (EdAdd (EdAdd (EdAdd Ed0 0 1 w.toInt) 1 0 (-w.toInt)) 0 2 (0 : Int32).toInt) 2 0 (-(0 : Int32).toInt)) 0 3 h.toInt) 3 0 (-h.toInt) a b v := by
      rintro a b v ⟨rfl, ⟨rfl, rfl⟩ | ⟨rfl, rfl⟩⟩
      · exact Or.inl (Or.inl (Or.inl (Or.inr ⟨rfl, rfl, rfl⟩)))
      · exact Or.inl (Or.inl (Or.inr ⟨rfl, rfl, rfl⟩))
    rcases z1 with (z1 | ⟨rfl, rfl, rfl⟩) | ⟨rfl, rfl, rfl⟩
    · have z2 := (EdC_ex (by omega) a b v).mp z1
      rcases z2 with (z2 | ⟨rfl, rfl, rfl⟩) | ⟨rfl, rfl, rfl⟩
      · rcases z2 with ⟨k, hk, -⟩ | z2
        · exact absurd hk (Nat.not_lt_zero _)
        · exact Wk_one (tt _ _ _ z2)
      · exact Wk_one (Or.inl (Or.inl (Or.inl (Or.inl (Or.inl (Or.inr ⟨rfl, rfl, rfl⟩))))))
      · exact Wk_one (Or.inl (Or.inl (Or.inl (Or.inl (Or.inr ⟨rfl, rfl, rfl⟩)))))
    · have := Wk_app (Wk_one (tt 2 0 0 ⟨rfl, Or.inr ⟨rfl, rfl⟩⟩)) (Wk_one (Ed := EdAdd (EdAdd (EdAdd (EdAdd (EdAdd (EdAdd Ed0 0 1 w.toInt) 1 0 (-w.toInt)) 0 2 (0 : Int32).toInt) 2 0 (-(0 : Int32).toInt)) 0 3 h.toInt) 3 0 (-h.toInt)) (a := 0) (b := 3) (w := h.toInt) (Or.inl (Or.inr ⟨rfl, rfl, rfl⟩)))
      rw [Int.zero_add] at this; exact this
    · have := Wk_app (Wk_one (Ed := EdAdd (EdAdd (EdAdd (EdAdd (EdAdd (EdAdd Ed0 0 1 w.toInt) 1 0 (-w.toInt)) 0 2 (0 : Int32).toInt) 2 0 (-(0 : Int32).toInt)) 0 3 h.toInt) 3 0 (-h.toInt)) (a := 3) (b := 0) (w := -h.toInt) (Or.inr ⟨rfl, rfl, rfl⟩)) (Wk_one (tt 0 2 0 ⟨rfl, Or.inl ⟨rfl, rfl⟩⟩))
      rw [Int.add_zero] at this; exact this
def csV (nb : Nat) (cs : Nat → Option K5) : Prop := ∀ i κ, i < 16 → cs i = some κ → κ.1 < 4 * nb ∧ κ.2.1 < 4 * nb ∧ ax κ.1 = ax κ.2.1 ∧ -99 ≤ κ.2.2.1.toInt ∧ κ.2.2.1.toInt ≤ 99
theorem ax_4 (b k : Nat) : ax (4 * b + k) = ax k := by unfold ax; rw [Nat.mul_add_mod]
theorem db_RQ {N : Nat} {P : S2} {S : RS} (hN : N ≤ 24) (h : RQ N (EdC S) P) (hV : RV N 99 S) : ∀ b, 4 * b ≤ N → (∀ c, c < b → dbK P N c) ∧ RQ N (EdC (rqB S b)) (dbP P N b) ∧ RV N 99 (rqB S b)
  | 0, _ => ⟨fun c hc => absurd hc (Nat.not_lt_zero _), h, hV⟩
  | b + 1, hb => by
    obtain ⟨i1, i2, i3⟩ := db_RQ hN h hV b (by omega)
    have z0 : (0 : Int32).toInt = 0 := rfl
    obtain ⟨k1, r1⟩ := RQ_at (p := 4 * b) (q := 4 * b + 1) (c := 0) hN i2 (by omega) (by omega) (by rw [z0]; omega)
    obtain ⟨k2, r2⟩ := RQ_at (p := 4 * b + 2) (q := 4 * b + 3) (c := 0) hN r1 (by omega) (by omega) (by rw [z0]; omega)
    refine ⟨fun c hc => ?_, r2, ?_⟩
    · by_cases e : c = b
      · subst e; exact ⟨k1, k2⟩
      · exact i1 c (by omega)
    · refine RV_at (RV_at i3 (by omega) (by omega) ?_ (by rw [z0]; omega) (by omega)) (by omega) (by omega) ?_ (by rw [z0]; omega) (by omega)
      · rw [ax_4]; exact (ax_4 b 0).symm
      · rw [ax_4, ax_4]; rfl
theorem dem_RQ {N : Nat} {P : S2} {S : RS} {κ : K5} (hN : N ≤ 24) (h : RQ N (EdC S) P) (hV : RV N 99 S) (h1 : κ.1 < N) (h2 : κ.2.1 < N) (h3 : ax κ.1 = ax κ.2.1) (h4 : -99 ≤ κ.2.2.1.toInt ∧ κ.2.2.1.toInt ≤ 99) : demK P.1 κ N ∧ RQ N (EdC (rqK S κ)) (demP P κ N) ∧ RV N 99 (rqK S κ) := by
  by_cases c : κ.2.2.2.1 = 0
  · obtain ⟨k1, r1⟩ := RQ_ex hN h h1 h2 h4
    refine ⟨⟨fun _ => k1, fun z => absurd c z⟩, ?_, ?_⟩
    · unfold rqK demP demM demC
      rw [if_pos c, if_pos c, if_pos c]
      exact r1
    · unfold rqK
      rw [if_pos c]
      exact RV_ex hV h1 h2 h3 h4 (by omega)
  · obtain ⟨k1, r1⟩ := RQ_at hN h h2 h1 h4
    refine ⟨⟨fun z => absurd z c, fun _ => k1⟩, ?_, ?_⟩
    · unfold rqK demP demM demC
      rw [if_neg c, if_neg c, if_neg c]
      exact r1
    · unfold rqK
      rw [if_neg c]
      exact RV_at hV h1 h2 h3 h4 (by omega)
theorem dc_RQ {nb : Nat} {P : S2} {S : RS} {cs : Nat → Option K5} (hN : 4 * nb ≤ 24) (h : RQ (4 * nb) (EdC S) P) (hV : RV (4 * nb) 99 S) (hc : csV nb cs) : ∀ i, i ≤ 16 → (∀ j κ, j < i → cs j = some κ → κ.2.2.2.2 = 0 → demK (dcP P cs (4 * nb) j).1 κ (4 * nb)) ∧ RQ (4 * nb) (EdC (rqC S cs i)) (dcP P cs (4 * nb) i) ∧ RV (4 * nb) 99 (rqC S cs i)
  | 0, _ => ⟨fun c κ hc => absurd hc (Nat.not_lt_zero _), h, hV⟩
  | i + 1, hi => by
    obtain ⟨i1, i2, i3⟩ := dc_RQ hN h hV hc i (by omega)
    cases e : cs i with
    | none =>
      refine ⟨fun j κ hj hk => ?_, ?_, ?_⟩
      · by_cases e2 : j = i
        · subst e2; rw [e] at hk; cases hk
        · exact i1 j κ (by omega) hk
      · unfold rqC dcP; rw [e]; exact i2
      · unfold rqC; rw [e]; exact i3
    | some κ =>
      obtain ⟨g1, g2, g3, g4⟩ := hc i κ (by omega) e
      by_cases s : κ.2.2.2.2 = 0
      · obtain ⟨k1, k2, k3⟩ := dem_RQ hN i2 i3 g1 g2 g3 g4
        refine ⟨fun j κ' hj hk hs => ?_, ?_, ?_⟩
        · by_cases e2 : j = i
          · subst e2; rw [e] at hk; cases hk; exact k1
          · exact i1 j κ' (by omega) hk hs
        · unfold rqC dcP; rw [e]; dsimp only; rw [if_pos s, if_pos s]; exact k2
        · unfold rqC; rw [e]; dsimp only; rw [if_pos s]; exact k3
      · refine ⟨fun j κ' hj hk hs => ?_, ?_, ?_⟩
        · by_cases e2 : j = i
          · subst e2; rw [e] at hk; cases hk; exact absurd hs s
          · exact i1 j κ' (by omega) hk hs
        · unfold rqC dcP; rw [e]; dsimp only; rw [if_neg s, if_neg s]; exact i2
        · unfold rqC; rw [e]; dsimp only; rw [if_neg s]; exact i3
def whV (w h : Int32) : Prop := (-99 ≤ w.toInt ∧ w.toInt ≤ 99) ∧ (-99 ≤ h.toInt ∧ h.toInt ≤ 99)
theorem da_RQ {nb : Nat} {w h : Int32} {cs : Nat → Option K5} (R : Nat → Nat → Int32) (hnb : 1 ≤ nb ∧ nb ≤ 6) (hwh : whV w h) (hc : csV nb cs) : daK R w h nb cs ∧ RQ (4 * nb) (EdC (rqM w h nb cs)) (daP R w h nb cs) ∧ RV (4 * nb) 99 (rqM w h nb cs) := by
  obtain ⟨k0, r0⟩ := d0_RQ (N := 4 * nb) (R := R) (by omega) (by omega) hwh.1 hwh.2
  obtain ⟨k1, r1, v1⟩ := db_RQ (by omega) r0 (rq0_RV (by omega) hwh.1 hwh.2) nb (Nat.le_refl _)
  obtain ⟨k2, r2, v2⟩ := dc_RQ (by omega) r1 v1 hc 16 (Nat.le_refl _)
  exact ⟨⟨k0, k1, k2⟩, r2, v2⟩
theorem rq_len {w h : Int32} {nb : Nat} {cs : Nat → Option K5} (hnb : nb ≤ 6) : (rqM w h nb cs).1 ≤ 120 := by
  have h1 := rqM_len (w := w) (h := h) (nb := nb) (cs := cs)
  have h2 := cnS_sum (cs := cs) 16
  omega
theorem da_cf {nb : Nat} {w h : Int32} {cs : Nat → Option K5} (R : Nat → Nat → Int32) (hnb : 1 ≤ nb ∧ nb ≤ 6) (hwh : whV w h) (hc : csV nb cs) : ((daP R w h nb cs).2 = 0 ↔ cfM (rqM w h nb cs) = false) ∧ ((daP R w h nb cs).2 = 0 → KS (4 * nb) 99 (EdC (rqM w h nb cs)) (daP R w h nb cs).1) := by
  obtain ⟨-, r, v⟩ := da_RQ R hnb hwh hc
  rw [cfM_iff v (rq_len hnb.2) (by omega), ← neg_proj v]
  rcases r with ⟨r1, r2⟩ | ⟨r1, r2, r3⟩
  · exact ⟨⟨fun _ => Cl_noneg r2.1 r2.2.1, fun _ => r1⟩, fun _ => r2⟩
  · have n1 : (daP R w h nb cs).2 ≠ 0 := by rw [r1]; decide
    exact ⟨⟨fun z => absurd z n1, fun z => absurd r2 z⟩, fun z => absurd z n1⟩
