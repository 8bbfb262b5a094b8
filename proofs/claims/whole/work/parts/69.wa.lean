def TE (Ed : Nat → Nat → Int → Prop) : Prop := Ed 0 2 0 ∧ Ed 2 0 0
theorem TE_C {S : RS} : TE (EdC S) := ⟨Or.inr ⟨rfl, Or.inl ⟨rfl, rfl⟩⟩, Or.inr ⟨rfl, Or.inr ⟨rfl, rfl⟩⟩⟩
theorem TE_add {Ed : Nat → Nat → Int → Prop} {q p : Nat} {d : Int} (h : TE Ed) : TE (EdAdd Ed q p d) := ⟨Or.inl h.1, Or.inl h.2⟩
theorem TE_tie {N : Nat} {M : Int} {Ed : Nat → Nat → Int → Prop} {C : Nat → Nat → Int32} (h4 : 4 ≤ N) (ht : TE Ed) (hk : KS N M Ed C) : Tie (iR C) := by
  have hT := Cl_tri hk.1 hk.2.1
  have e1 := (hk.2.1 0 2 (by omega) (by omega)).2.2 0 (Wk_one ht.1)
  have e2 := (hk.2.1 2 0 (by omega) (by omega)).2.2 0 (Wk_one ht.2)
  have e3 := hT.2 0 2 0 (by omega) (by omega) (by omega) e1.2 e2.2
  have e4 := hT.1 0 (by omega)
  exact ⟨by omega, by omega⟩
theorem TE_KB {N : Nat} {M : Int} {Ed : Nat → Nat → Int → Prop} {C : Nat → Nat → Int32} (h4 : 4 ≤ N) (hN : N ≤ 24) (hM : 99 ≤ M ∧ M ≤ 2000000) (ht : TE Ed) (hk : KS N M Ed C) : KB N C := ⟨4554 + 2 * M, by omega, fun a b ha hb hf => bnd_all (Cl_tri hk.1 hk.2.1) h4 hN (TE_tie h4 ht hk) hk.2.2 (by omega) ha hb hf⟩
theorem KS_val {N p q : Nat} {d : Int32} {M : Int} {Ed : Nat → Nat → Int → Prop} {C : Nat → Nat → Int32} (hk : KS N M Ed C) (hb : KB N C) (hd : -50000000 ≤ d.toInt ∧ d.toInt ≤ 50000000) (hp : p < N) (hq : q < N) (h1 : -iR C p q ≤ d.toInt) (h2 : d.toInt ≤ iR C q p) : iR (kamM C p q d N) q p = d.toInt := by
  have hF : FARI = 268435456 := rfl
  have hT := Cl_tri hk.1 hk.2.1
  obtain ⟨L, hL0, hL⟩ := hb
  obtain ⟨-, g⟩ := kam_step (cf := 0) hk.1 hk.2.1 hL hL0 hd hp hq
  rcases g with ⟨g1, g2, g3, -⟩ | ⟨g1, g2, g3, -⟩ | ⟨g1, -⟩
  · rw [g3]; omega
  · rw [g3 q p hq hp]
    unfold RAdd
    rw [hT.1 q hq, hT.1 p hp, if_pos ⟨by omega, by omega, by omega⟩]
    omega
  · omega
theorem nearI_i (c l u : Int32) : (nearI c l u).toInt = if l.toInt ≤ c.toInt then (if c.toInt ≤ u.toInt then c.toInt else u.toInt) else l.toInt := by
  unfold nearI
  by_cases h1 : l ≤ c
  · rw [if_pos h1, if_pos (Int32.le_iff_toInt_le.mp h1)]
    by_cases h2 : c ≤ u
    · rw [if_pos h2, if_pos (Int32.le_iff_toInt_le.mp h2)]
    · rw [if_neg h2, if_neg (fun z => h2 (Int32.le_iff_toInt_le.mpr z))]
  · rw [if_neg h1, if_neg (fun z => h1 (Int32.le_iff_toInt_le.mpr z))]
theorem KS_fix {N p q : Nat} {c d cf : Int32} {M : Int} {Ed : Nat → Nat → Int → Prop} {C : Nat → Nat → Int32} (h4 : 4 ≤ N) (hN : N ≤ 24) (hM : 99 ≤ M ∧ M ≤ 2000000) (hk : KS N M Ed C) (ht : TE Ed) (hp : p < N) (hq : q < N) (hs : Sml M q p c.toInt) (hd : d = nearI c (-(C p q)) (C q p)) :
    KOk C p q d ∧ KOk (kamM C p q d N) q p (-d) ∧ KS N M (EdAdd (EdAdd Ed q p d.toInt) p q (-d.toInt)) (fixM C p q d N) ∧ (-(4554 + 2 * M) ≤ d.toInt ∧ d.toInt ≤ 4554 + 2 * M) ∧ fixC C p q d N cf = cf ∧ (d.toInt = c.toInt ∨ (d.toInt = iR C q p ∧ iR C q p < FARI) ∨ (d.toInt = -iR C p q ∧ iR C p q < FARI)) := by
  have hF : FARI = 268435456 := rfl
  have hT := Cl_tri hk.1 hk.2.1
  have hti := TE_tie h4 ht hk
  have hb := TE_KB h4 hN hM ht hk
  have ub : ∀ a b, a < N → b < N → iR C a b ≤ FARI := fun a b ha hb => (hk.2.1 a b ha hb).2.1
  have bn : ∀ a b, a < N → b < N → iR C a b < FARI → -(4554 + 2 * M) ≤ iR C a b ∧ iR C a b ≤ 4554 + 2 * M := fun a b ha hb hf => bnd_all hT h4 hN hti hk.2.2 (by omega) ha hb hf
  have lb : ∀ a b, a < N → b < N → -(4554 + 2 * M) ≤ iR C a b := fun a b ha hb => by
    by_cases c : iR C a b < FARI
    · exact (bn a b ha hb c).1
    · omega
  have npq : (-(C p q)).toInt = -iR C p q := by
    have := lb p q hp hq
    exact i_neg (by show -2147483648 < iR C p q; omega)
  have hc := Sml_le hM.1 hs
  have u1 := ub p q hp hq
  have u2 := ub q p hq hp
  have l1 := lb p q hp hq
  have l2 := lb q p hq hp
  have hlu : -iR C p q ≤ iR C q p := by
    by_cases f1 : iR C p q < FARI
    · by_cases f2 : iR C q p < FARI
      · have := (hT.2 p q p hp hq hp f1 f2).1
        have := hT.1 p hp
        omega
      · omega
    · omega
  have e : d.toInt = if -iR C p q ≤ c.toInt then (if c.toInt ≤ iR C q p then c.toInt else iR C q p) else -iR C p q := by
    rw [hd, nearI_i, npq]; rfl
  have e3 : d.toInt = c.toInt ∨ (d.toInt = iR C q p ∧ iR C q p < FARI) ∨ (d.toInt = -iR C p q ∧ iR C p q < FARI) := by
    split at e
    · split at e
      · exact Or.inl e
      · exact Or.inr (Or.inl ⟨e, by omega⟩)
    · exact Or.inr (Or.inr ⟨e, by omega⟩)
  have b1 : -iR C p q ≤ d.toInt := by
    split at e
    · split at e <;> omega
    · omega
  have b2 : d.toInt ≤ iR C q p := by
    split at e
    · split at e <;> omega
    · omega
  have bd : -(4554 + 2 * M) ≤ d.toInt ∧ d.toInt ≤ 4554 + 2 * M := by
    rcases e3 with e3 | ⟨e3, e4⟩ | ⟨e3, e4⟩
    · omega
    · have := bn q p hq hp e4; omega
    · have := bn p q hp hq e4; omega
  have s1 : KOk C p q d ∧ KS N M (EdAdd Ed q p d.toInt) (kamM C p q d N) ∧ kamC C p q d cf = cf := by
    by_cases e1 : d.toInt = iR C q p
    · obtain ⟨L, hL0, hL⟩ := hb
      obtain ⟨k, g⟩ := kam_step (cf := cf) (d := d) hk.1 hk.2.1 hL hL0 (by omega) hp hq
      rcases g with ⟨g1, g2, g3, g4⟩ | ⟨g1, g2, g3, g4⟩ | ⟨g1, -⟩
      · refine ⟨k, ?_, g4⟩
        rw [g3]
        exact ⟨KS_nd hk.1 hq hp, Cl_same hk.1 hk.2.1 hq hp g1 g2, hk.2.2⟩
      · omega
      · omega
    · have hs' : Sml M q p d.toInt ∨ (iR C p q < FARI ∧ d.toInt = -iR C p q) := by
        rcases e3 with e3 | ⟨e3, e4⟩ | ⟨e3, e4⟩
        · rw [e3]; exact Or.inl hs
        · exact absurd e3 e1
        · exact Or.inr ⟨e4, e3⟩
      obtain ⟨k, g⟩ := KS_add (cf := cf) hk hb (by omega) hp hq (by omega) hs'
      rcases g with ⟨g1, g2, g3⟩ | ⟨g1, -⟩
      · exact ⟨k, g1, g2⟩
      · omega
  obtain ⟨k1, r1, f1⟩ := s1
  have v := KS_val hk hb (by omega) hp hq b1 b2
  have hnd : (-d).toInt = -d.toInt := i_neg (by omega)
  obtain ⟨k2, g⟩ := KS_add (cf := kamC C p q d cf) (d := -d) r1 (TE_KB h4 hN hM (TE_add ht) r1) (by omega) hq hp (by omega) (Or.inr ⟨by rw [v]; omega, by rw [v, hnd]⟩)
  rcases g with ⟨g1, g2, -⟩ | ⟨g1, -⟩
  · rw [hnd] at g1
    exact ⟨k1, k2, g1, bd, g2.trans f1, e3⟩
  · rw [hnd, v] at g1; omega
def VS (N : Nat) (M : Int) (S : RS) (C : Nat → Nat → Int32) : Prop := KS N M (EdC S) C ∧ RV N (4554 + 2 * M) S
theorem VS_most {N : Nat} {M : Int} {S : RS} {C : Nat → Nat → Int32} (h4 : 4 ≤ N) (hN : N ≤ 24) (hM : 99 ≤ M ∧ M ≤ 1700000) (h : VS N M S C) {p q : Nat} (hp : p < N) (hq : q < N) (ha : ax p = ax q) : mostM S p q = C p q := Int32.toInt_inj.mp (most_eq h.1 (TE_KB h4 hN (by omega) TE_C h.1) h.2 ⟨h4, hN⟩ (by omega) hp hq ha)
theorem VS_st {N p q : Nat} {c cf : Int32} {M : Int} {S : RS} {C : Nat → Nat → Int32} (h4 : 4 ≤ N) (hN : N ≤ 24) (hM : 99 ≤ M ∧ M ≤ 1700000) (h : VS N M S C) (hp : p < N) (hq : q < N) (ha : ax p = ax q) (hs : Sml M q p c.toInt) :
    stD S p q c = nearI c (-(C p q)) (C q p) ∧ KOk C p q (nearI c (-(C p q)) (C q p)) ∧ KOk (kamM C p q (nearI c (-(C p q)) (C q p)) N) q p (-(nearI c (-(C p q)) (C q p))) ∧ VS N M (stS2 S p q c) (fixM C p q (nearI c (-(C p q)) (C q p)) N) ∧ fixC C p q (nearI c (-(C p q)) (C q p)) N cf = cf := by
  have e : stD S p q c = nearI c (-(C p q)) (C q p) := by
    unfold stD
    rw [VS_most h4 hN hM h hp hq ha, VS_most h4 hN hM h hq hp ha.symm]
  obtain ⟨k1, k2, k3, k4, k5, -⟩ := KS_fix (cf := cf) h4 hN (by omega) h.1 TE_C hp hq hs rfl
  refine ⟨e, k1, k2, ⟨?_, ?_⟩, k5⟩
  · unfold stS2
    rw [e]
    exact KS_iff (fun a b w => (EdC_ex (by omega) a b w).symm) k3
  · unfold stS2
    rw [e]
    exact RV_ex h.2 hp hq ha k4 (by omega)
theorem VS_at {N p q : Nat} {c cf : Int32} {M : Int} {S : RS} {C : Nat → Nat → Int32} (h4 : 4 ≤ N) (hN : N ≤ 24) (hM : 99 ≤ M ∧ M ≤ 1700000) (h : VS N M S C) (hp : p < N) (hq : q < N) (ha : ax p = ax q) (hs : -99 ≤ c.toInt ∧ c.toInt ≤ 99) :
    (if c ≤ mostM S q p then c else mostM S q p) = (if C q p < c then C q p else c) ∧ KOk C q p (-(if C q p < c then C q p else c)) ∧ VS N M (atL S p q (if C q p < c then C q p else c)) (kamM C q p (-(if C q p < c then C q p else c)) N) ∧ kamC C q p (-(if C q p < c then C q p else c)) cf = cf := by
  have hF : FARI = 268435456 := rfl
  have e : (if c ≤ mostM S q p then c else mostM S q p) = (if C q p < c then C q p else c) := by
    rw [VS_most h4 hN hM h hq hp ha.symm]
    by_cases k : C q p < c
    · rw [if_pos k, if_neg (fun z => by rw [Int32.lt_iff_toInt_lt] at k; rw [Int32.le_iff_toInt_le] at z; omega)]
    · rw [if_neg k, if_pos (by rw [Int32.lt_iff_toInt_lt] at k; rw [Int32.le_iff_toInt_le]; omega)]
  refine ⟨e, ?_⟩
  have hb := TE_KB h4 hN (by omega) TE_C h.1
  have bn := fun hf => bnd_all (Cl_tri h.1.1 h.1.2.1) h4 hN (TE_tie h4 TE_C h.1) h.1.2.2 (M := M) (by omega) hq hp hf
  have hv : ((if C q p < c then C q p else c).toInt = iR C q p ∧ iR C q p < FARI ∧ iR C q p < c.toInt) ∨ ((if C q p < c then C q p else c).toInt = c.toInt ∧ c.toInt ≤ iR C q p) := by
    by_cases k : C q p < c
    · rw [if_pos k]
      have : iR C q p < c.toInt := Int32.lt_iff_toInt_lt.mp k
      exact Or.inl ⟨rfl, by omega, this⟩
    · rw [if_neg k]
      have : ¬ iR C q p < c.toInt := fun z => k (Int32.lt_iff_toInt_lt.mpr z)
      exact Or.inr ⟨rfl, by omega⟩
  generalize hD : (if C q p < c then C q p else c) = D at hv ⊢
  have bd : -(4554 + 2 * M) ≤ D.toInt ∧ D.toInt ≤ 4554 + 2 * M := by
    rcases hv with ⟨g1, g2, g3⟩ | ⟨g1, g2⟩
    · have := bn g2; omega
    · omega
  have hn : (-D).toInt = -D.toInt := i_neg (by omega)
  obtain ⟨k, g⟩ := KS_add (cf := cf) (d := -D) h.1 hb (by omega) hq hp (by omega) (by
    rcases hv with ⟨g1, g2, g3⟩ | ⟨g1, g2⟩
    · exact Or.inr ⟨g2, by omega⟩
    · exact Or.inl (Or.inl (by omega)))
  refine ⟨k, ?_⟩
  rcases g with ⟨g1, g2, -⟩ | ⟨g1, -⟩
  · refine ⟨⟨?_, RV_at h.2 hp hq ha bd (by omega)⟩, g2⟩
    exact KS_iff (fun a b w => (EdC_add a b w).symm) g1
  · rcases hv with ⟨g2, g3, g4⟩ | ⟨g2, g3⟩ <;> omega
theorem og_R {N : Nat} {M : Int} {S : RS} {C : Nat → Nat → Int32} (h4 : 4 ≤ N) (h : KS N M (EdC S) C) {e : Nat} (he : e < N) : iR C e (ogN e) = iR C e 0 ∧ iR C (ogN e) e = iR C 0 e := by
  have hT := Cl_tri h.1 h.2.1
  have ht := TE_tie h4 TE_C h
  have hF : FARI = 268435456 := rfl
  have ho : orig (ogN e) := by unfold orig ogN; split <;> simp
  have hn := orig_lt h4 ho
  have t1 : iR C 0 2 = 0 := ht.1
  have t2 : iR C 2 0 = 0 := ht.2
  have ub : ∀ a b, a < N → b < N → iR C a b ≤ FARI := fun a b ha hb => (h.2.1 a b ha hb).2.1
  have z : ogN e = 0 ∨ ogN e = 2 := ho
  rcases z with z | z
  · rw [z]; exact ⟨rfl, rfl⟩
  · rw [z]
    constructor
    · by_cases f : iR C e 2 < FARI
      · exact (tie_to hT h4 ht he (Or.inr rfl) f).symm
      · by_cases f0 : iR C e 0 < FARI
        · have := (hT.2 e 0 2 he (by omega) (by omega) f0 (by omega)).2
          omega
        · have := ub e 2 he (by omega)
          have := ub e 0 he (by omega)
          omega
    · by_cases f : iR C 2 e < FARI
      · exact (tie_of hT h4 ht he (Or.inr rfl) f).symm
      · by_cases f0 : iR C 0 e < FARI
        · have := (hT.2 2 0 e (by omega) (by omega) he (by omega) f0).2
          omega
        · have := ub 2 e (by omega) he
          have := ub 0 e (by omega) he
          omega
theorem VS_og {N e : Nat} {c cf : Int32} {M : Int} {S : RS} {C : Nat → Nat → Int32} (h4 : 4 ≤ N) (hN : N ≤ 24) (hM : 99 ≤ M ∧ M ≤ 1700000) (h : VS N M S C) (he : e < N) (hs : -M ≤ c.toInt ∧ c.toInt ≤ M) :
    stD S e (ogN e) c = nearI c (-(C e 0)) (C 0 e) ∧ KOk C e 0 (nearI c (-(C e 0)) (C 0 e)) ∧ KOk (kamM C e 0 (nearI c (-(C e 0)) (C 0 e)) N) 0 e (-(nearI c (-(C e 0)) (C 0 e))) ∧ VS N M (stS2 S e (ogN e) c) (fixM C e 0 (nearI c (-(C e 0)) (C 0 e)) N) ∧ fixC C e 0 (nearI c (-(C e 0)) (C 0 e)) N cf = cf ∧ -(2277 + M) ≤ (nearI c (-(C e 0)) (C 0 e)).toInt ∧ (nearI c (-(C e 0)) (C 0 e)).toInt ≤ 2277 + M := by
  have ho : orig (ogN e) := by unfold orig ogN; split <;> simp
  have hn := orig_lt h4 ho
  obtain ⟨o1, o2⟩ := og_R h4 h.1 he
  have o1' : C e (ogN e) = C e 0 := Int32.toInt_inj.mp o1
  have o2' : C (ogN e) e = C 0 e := Int32.toInt_inj.mp o2
  have e1 : stD S e (ogN e) c = nearI c (-(C e 0)) (C 0 e) := by
    unfold stD
    rw [VS_most h4 hN hM h he hn (ax_og e).symm, VS_most h4 hN hM h hn he (ax_og e), o1', o2']
  obtain ⟨k1, k2, k3, k4, k5, k6⟩ := KS_fix (p := e) (q := 0) (c := c) (cf := cf) h4 hN (by omega) h.1 TE_C he (by omega) (Or.inr ⟨Or.inl rfl, hs⟩) rfl
  have hT := Cl_tri h.1.1 h.1.2.1
  have ht := TE_tie h4 TE_C h.1
  refine ⟨e1, k1, k2, ⟨?_, ?_⟩, k5, ?_⟩
  · unfold stS2
    rw [e1]
    generalize nearI c (-(C e 0)) (C 0 e) = D at k3 k4 ⊢
    have hV : RV N (4554 + 2 * M) (exA S e (ogN e) D) := RV_ex h.2 he hn (ax_og e).symm k4 (by omega)
    refine ⟨RV_ndC hV h4, Cl_wk (Wk_eqv ?_ ?_) k3.2.1, k3.2.2⟩
    · have t : ∀ a b w, EdAdd (EdAdd (EdC S) (ogN e) e D.toInt) e (ogN e) (-D.toInt) a b w → EdC (exA S e (ogN e) D) a b w := fun a b w z => (EdC_ex (by omega) a b w).mpr z
      have t1 : Wk (EdC (exA S e (ogN e) D)) 0 (ogN e) 0 := by
        have z : ogN e = 0 ∨ ogN e = 2 := ho
        rcases z with z | z
        · rw [z]; exact Wk_nil
        · rw [z]; exact Wk_one TE_C.1
      have t2 : Wk (EdC (exA S e (ogN e) D)) (ogN e) 0 0 := by
        have z : ogN e = 0 ∨ ogN e = 2 := ho
        rcases z with z | z
        · rw [z]; exact Wk_nil
        · rw [z]; exact Wk_one TE_C.2
      rintro a b w ((z | ⟨rfl, rfl, rfl⟩) | ⟨rfl, rfl, rfl⟩)
      · exact Wk_one (t _ _ _ (Or.inl (Or.inl z)))
      · have := Wk_app t1 (Wk_one (t _ _ _ (Or.inl (Or.inr ⟨rfl, rfl, rfl⟩))))
        rw [Int.zero_add] at this; exact this
      · have := Wk_app (Wk_one (t _ _ _ (Or.inr ⟨rfl, rfl, rfl⟩))) t2
        rw [Int.add_zero] at this; exact this
    · have t1 : Wk (EdAdd (EdAdd (EdC S) 0 e D.toInt) e 0 (-D.toInt)) 0 (ogN e) 0 := by
        have z : ogN e = 0 ∨ ogN e = 2 := ho
        rcases z with z | z
        · rw [z]; exact Wk_nil
        · rw [z]; exact Wk_one (Or.inl (Or.inl TE_C.1))
      have t2 : Wk (EdAdd (EdAdd (EdC S) 0 e D.toInt) e 0 (-D.toInt)) (ogN e) 0 0 := by
        have z : ogN e = 0 ∨ ogN e = 2 := ho
        rcases z with z | z
        · rw [z]; exact Wk_nil
        · rw [z]; exact Wk_one (Or.inl (Or.inl TE_C.2))
      intro a b w z0
      rcases (EdC_ex (by omega) a b w).mp z0 with (z | ⟨rfl, rfl, rfl⟩) | ⟨rfl, rfl, rfl⟩
      · exact Wk_one (Or.inl (Or.inl z))
      · have := Wk_app t2 (Wk_one (Ed := EdAdd (EdAdd (EdC S) 0 b D.toInt) b 0 (-D.toInt)) (Or.inl (Or.inr ⟨rfl, rfl, rfl⟩)))
        rw [Int.zero_add] at this; exact this
      · have := Wk_app (Wk_one (Ed := EdAdd (EdAdd (EdC S) 0 a D.toInt) a 0 (-D.toInt)) (Or.inr ⟨rfl, rfl, rfl⟩)) t1
        rw [Int.add_zero] at this; exact this
  · unfold stS2
    rw [e1]
    exact RV_ex h.2 he hn (ax_og e).symm k4 (by omega)
  · rcases k6 with k6 | ⟨k6, k7⟩ | ⟨k6, k7⟩
    · omega
    · have := bnd_of hT h4 hN ht h.1.2.2 (by omega) he k7
      omega
    · have := bnd_to hT h4 hN ht h.1.2.2 (by omega) he k7
      omega
