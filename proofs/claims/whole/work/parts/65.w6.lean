def iR (C : Nat → Nat → Int32) : Nat → Nat → Int := fun a b => (C a b).toInt
theorem Wk_sim {Ed Ed' : Nat → Nat → Int → Prop} (h : ∀ a b w, Ed a b w → Wk Ed' a b w) {a : Nat} : ∀ {n b : Nat} {w : Int}, Wn Ed n a b w → Wk Ed' a b w
  | 0, b, w, hw => ⟨0, hw⟩
  | n + 1, b, w, hw => by
    obtain ⟨c, w1, w2, h1, h2, rfl⟩ := hw
    exact Wk_app (Wk_sim h h1) (h _ _ _ h2)
theorem Wk_eqv {Ed Ed' : Nat → Nat → Int → Prop} (h : ∀ a b w, Ed a b w → Wk Ed' a b w) (h' : ∀ a b w, Ed' a b w → Wk Ed a b w) (a b : Nat) (w : Int) : Wk Ed a b w ↔ Wk Ed' a b w := ⟨fun ⟨_, z⟩ => Wk_sim h z, fun ⟨_, z⟩ => Wk_sim h' z⟩
theorem Cl_wk {Ed Ed' : Nat → Nat → Int → Prop} {R : Nat → Nat → Int} {N : Nat} (h : ∀ a b w, Wk Ed a b w ↔ Wk Ed' a b w) (hC : Cl Ed R N) : Cl Ed' R N := fun a b ha hb => ⟨fun z => (h _ _ _).mp ((hC a b ha hb).1 z), (hC a b ha hb).2.1, fun w hw => (hC a b ha hb).2.2 w ((h _ _ _).mpr hw)⟩
theorem Cl_iff {Ed Ed' : Nat → Nat → Int → Prop} {R : Nat → Nat → Int} {N : Nat} (h : ∀ a b w, Ed a b w ↔ Ed' a b w) (hC : Cl Ed R N) : Cl Ed' R N := Cl_wk (Wk_eqv (fun a b w z => Wk_one ((h a b w).mp z)) (fun a b w z => Wk_one ((h a b w).mpr z))) hC
theorem Cl_cg {Ed : Nat → Nat → Int → Prop} {R R' : Nat → Nat → Int} {N : Nat} (h : ∀ a b, a < N → b < N → R' a b = R a b) (hC : Cl Ed R N) : Cl Ed R' N := fun a b ha hb => by rw [h a b ha hb]; exact hC a b ha hb
theorem GenP_cg {R R' : Nat → Nat → Int} {N : Nat} {M : Int} (h : ∀ a b, a < N → b < N → R' a b = R a b) (hG : GenP R N M) : GenP R' N M := by
  intro a b ha hb hf
  rw [h a b ha hb] at hf ⊢
  refine Wk_mono (fun u v w ⟨h1, h2, h3, h4, h5⟩ => ⟨h1, h2, by rw [h u v h1 h2]; exact h3, by rw [h u v h1 h2]; exact h4, h5⟩) (hG a b ha hb hf)
theorem FAR_i : (268435456 : Int32).toInt = FARI := by decide
theorem kam_step {N p q : Nat} {d cf : Int32} {C : Nat → Nat → Int32} {Ed : Nat → Nat → Int → Prop} {L : Int} (hE : ∀ a b w, Ed a b w → a < N ∧ b < N) (hC : Cl Ed (iR C) N) (hL : ∀ a b, a < N → b < N → iR C a b < FARI → -L ≤ iR C a b ∧ iR C a b ≤ L) (hL0 : 0 ≤ L ∧ L ≤ 50000000) (hd : -50000000 ≤ d.toInt ∧ d.toInt ≤ 50000000) (hp : p < N) (hq : q < N) :
    KOk C p q d ∧ ((iR C q p ≤ d.toInt ∧ iR C q p < FARI ∧ kamM C p q d N = C ∧ kamC C p q d cf = cf) ∨ (d.toInt < iR C q p ∧ (iR C p q < FARI → 0 ≤ iR C p q + d.toInt) ∧ (∀ a b, a < N → b < N → iR (kamM C p q d N) a b = RAdd (iR C) q p d.toInt a b) ∧ kamC C p q d cf = cf) ∨ (d.toInt < -iR C p q ∧ iR C p q < FARI ∧ kamM C p q d N = C ∧ kamC C p q d cf = 1)) := by
  have hT := Cl_tri hE hC
  have hF : FARI = 268435456 := rfl
  have ub : ∀ a b, a < N → b < N → iR C a b ≤ FARI := fun a b ha hb => (hC a b ha hb).2.1
  have lb : ∀ a b, a < N → b < N → -L ≤ iR C a b := fun a b ha hb => by
    by_cases c : iR C a b < FARI
    · exact (hL a b ha hb c).1
    · omega
  have npq : (-(C p q)).toInt = -iR C p q := by
    have := lb p q hp hq
    exact i_neg (by show -2147483648 < iR C p q; omega)
  have upq := ub p q hp hq
  have lpq := lb p q hp hq
  have hpp := hT.1 p hp
  refine ⟨?_, ?_⟩
  · intro h1 h2
    rintro ⟨h3, h4⟩
    rw [Int32.le_iff_toInt_le, npq] at h2
    rw [Int32.le_iff_toInt_le, FAR_i] at h3
    rw [Int32.lt_iff_toInt_lt] at h4
    have h3' : ¬ FARI ≤ iR C p q := h3
    have h4' : (C p q + d).toInt < iR C p p := h4
    rw [i_add (by show -2147483648 ≤ iR C p q + d.toInt; omega) (by show iR C p q + d.toInt < 2147483648; omega)] at h4'
    have h4'' : iR C p q + d.toInt < iR C p p := h4'
    omega
  · by_cases c1 : d < C q p
    · have c1' : d.toInt < iR C q p := Int32.lt_iff_toInt_lt.mp c1
      by_cases c2 : -(C p q) ≤ d
      · have c2' : -iR C p q ≤ d.toInt := by rw [Int32.le_iff_toInt_le, npq] at c2; exact c2
        refine Or.inr (Or.inl ⟨c1', fun _ => by omega, fun a b ha hb => ?_, by unfold kamC; rw [if_pos c1, if_pos c2]⟩)
        have e : kamM C p q d N = kamR C p q d N := by unfold kamM; rw [if_pos c1, if_pos c2]
        rw [e]
        have uaq := ub a q ha hq
        have laq := lb a q ha hq
        have uap := ub a p ha hp
        have lap := lb a p ha hp
        have upb := ub p b hp hb
        have lpb := lb p b hp hb
        have uab := ub a b ha hb
        have lab := lb a b ha hb
        have s1 : (C a q + d).toInt = iR C a q + d.toInt := i_add (by show -2147483648 ≤ iR C a q + d.toInt; omega) (by show iR C a q + d.toInt < 2147483648; omega)
        have s2 : (C a q + d + C p b).toInt = iR C a q + d.toInt + iR C p b := by
          have : (C a q + d).toInt + (C p b).toInt = iR C a q + d.toInt + iR C p b := by rw [s1]; rfl
          rw [i_add (by omega) (by omega)]; exact this
        unfold kamR RAdd
        show Int32.toInt (if _ then _ else _) = _
        by_cases g : iR C a q < FARI ∧ iR C p b < FARI ∧ iR C a q + d.toInt + iR C p b < iR C a b
        · have g1 : ¬ (268435456 : Int32) ≤ C a q := by rw [Int32.le_iff_toInt_le, FAR_i]; show ¬ FARI ≤ iR C a q; omega
          have g2 : ¬ (268435456 : Int32) ≤ C p b := by rw [Int32.le_iff_toInt_le, FAR_i]; show ¬ FARI ≤ iR C p b; omega
          have g3 : ¬ C a b ≤ C a q + d + C p b := by rw [Int32.le_iff_toInt_le, s2]; show ¬ iR C a b ≤ _; omega
          have g4 : C a q + d < C a p := by
            rw [Int32.lt_iff_toInt_lt, s1]
            show _ < iR C a p
            by_cases k : iR C a p < FARI
            · have := hT.2 a p b ha hp hb k g.2.1
              omega
            · have := (hL a q ha hq g.1).2
              omega
          rw [if_pos ⟨ha, hb, g1, g4, g2, g3⟩, if_pos g, s2]
        · rw [if_neg (fun z => g ?_), if_neg g]
          · rfl
          · obtain ⟨-, -, z1, z2, z3, z4⟩ := z
            rw [Int32.le_iff_toInt_le, FAR_i] at z1 z3
            rw [Int32.le_iff_toInt_le, s2] at z4
            have z1' : ¬ FARI ≤ iR C a q := z1
            have z3' : ¬ FARI ≤ iR C p b := z3
            have z4' : ¬ iR C a b ≤ iR C a q + d.toInt + iR C p b := z4
            omega
      · have c2' : ¬ -iR C p q ≤ d.toInt := by rw [Int32.le_iff_toInt_le, npq] at c2; exact c2
        refine Or.inr (Or.inr ⟨by omega, by omega, by unfold kamM; rw [if_pos c1, if_neg c2], by unfold kamC; rw [if_pos c1, if_neg c2]⟩)
    · have c1' : ¬ d.toInt < iR C q p := fun z => c1 (Int32.lt_iff_toInt_lt.mpr z)
      exact Or.inl ⟨by omega, by omega, by unfold kamM; rw [if_neg c1], by unfold kamC; rw [if_neg c1]⟩
/-- the class's matrix is the closure of Ed, and small -/
def KS (N : Nat) (M : Int) (Ed : Nat → Nat → Int → Prop) (C : Nat → Nat → Int32) : Prop := (∀ a b w, Ed a b w → a < N ∧ b < N) ∧ Cl Ed (iR C) N ∧ GenP (iR C) N M
def KB (N : Nat) (C : Nat → Nat → Int32) : Prop := ∃ L : Int, (0 ≤ L ∧ L ≤ 50000000) ∧ ∀ a b, a < N → b < N → iR C a b < FARI → -L ≤ iR C a b ∧ iR C a b ≤ L
theorem KS_iff {N : Nat} {M : Int} {Ed Ed' : Nat → Nat → Int → Prop} {C : Nat → Nat → Int32} (h : ∀ a b w, Ed a b w ↔ Ed' a b w) (hk : KS N M Ed C) : KS N M Ed' C := ⟨fun a b w z => hk.1 a b w ((h a b w).mpr z), Cl_iff h hk.2.1, hk.2.2⟩
theorem KS_nd {N : Nat} {Ed : Nat → Nat → Int → Prop} {q p : Nat} {d : Int} (hE : ∀ a b w, Ed a b w → a < N ∧ b < N) (hq : q < N) (hp : p < N) : ∀ a b w, EdAdd Ed q p d a b w → a < N ∧ b < N := by
  rintro a b w (h | ⟨rfl, rfl, rfl⟩)
  · exact hE a b w h
  · exact ⟨hq, hp⟩
theorem KS_add {N p q : Nat} {d cf : Int32} {C : Nat → Nat → Int32} {Ed : Nat → Nat → Int → Prop} {M : Int} (hk : KS N M Ed C) (hb : KB N C) (hd : -50000000 ≤ d.toInt ∧ d.toInt ≤ 50000000) (hp : p < N) (hq : q < N) (hM : 99 ≤ M ∧ M < FARI) (hs : Sml M q p d.toInt ∨ (iR C p q < FARI ∧ d.toInt = -iR C p q)) :
    KOk C p q d ∧ ((KS N M (EdAdd Ed q p d.toInt) (kamM C p q d N) ∧ kamC C p q d cf = cf ∧ (iR C p q < FARI → 0 ≤ iR C p q + d.toInt)) ∨ (d.toInt < -iR C p q ∧ kamM C p q d N = C ∧ kamC C p q d cf = 1 ∧ NegC (EdAdd Ed q p d.toInt))) := by
  obtain ⟨hE, hC, hG⟩ := hk
  obtain ⟨L, hL0, hL⟩ := hb
  have hT := Cl_tri hE hC
  have hF : FARI = 268435456 := rfl
  obtain ⟨h1, h2⟩ := kam_step (cf := cf) hE hC hL hL0 hd hp hq
  refine ⟨h1, ?_⟩
  rcases h2 with ⟨g1, g2, g3, g4⟩ | ⟨g1, g2, g3, g4⟩ | ⟨g1, g2, g3, g4⟩
  · refine Or.inl ⟨?_, g4, fun z => ?_⟩
    · rw [g3]
      exact ⟨KS_nd hE hq hp, Cl_same hE hC hq hp g1 g2, hG⟩
    · have := hT.2 p q p hp hq hp z g2
      have := hT.1 p hp
      omega
  · refine Or.inl ⟨⟨KS_nd hE hq hp, Cl_cg g3 (Cl_add hE hC hq hp g2 (fun a b ha hb z1 z2 => ?_)), GenP_cg g3 ?_⟩, g4, g2⟩
    · have := hL a q ha hq z1
      have := hL p b hp hb z2
      omega
    · rcases hs with hs | ⟨hs1, hs2⟩
      · exact GenP_atom hG hq hp hs hT (by omega)
      · rw [hs2]
        exact GenP_tight hG hq hp hT hs1 hM.1 hM.2
  · exact Or.inr ⟨g1, g3, g4, Cl_conf hC hq hp g2 g1⟩
