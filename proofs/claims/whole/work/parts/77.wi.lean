theorem CV_cong {nb : Nat} {par : Nat → Option Nat} {B : Nat → BS} {od : Nat → Nat} {kd : Nat → Int32} {hd li : Nat → Bool} {ct : Nat → Int32} {rk : Nat → Nat} {rks : Nat} {w h : Int32} {pl : Nat → Int32} {cs : Nat → Option K5} {fo pr : Option Nat} {ar : Nat → Nat → Bool} {co : Nat → Int32} {k : Nat} {ar' : Nat → Nat → Bool} {co' : Nat → Int32} (hV : CV nb par B od kd hd li ct rk rks w h pl cs fo pr ar co k) (ha : ∀ i j, j < 384 → ar' i j = ar i j) (hc : ∀ i, i < nb → co' i = co i) : CV nb par B od kd hd li ct rk rks w h pl cs fo pr ar' co' k := by
  obtain ⟨⟨h1, h2, h3, h4, h6, h7, h8, h9, h11, h12⟩, hA, hco, f1⟩ := hV
  refine ⟨⟨h1, h2, h3, h4, fun i hi => ?_, h7, h8, h9, fun i hi => ?_, h12⟩, hA, fun i hi => ?_, f1⟩
  · obtain ⟨a1, a2, a3, a4, a5, a6, a7⟩ := h6 i hi
    exact ⟨a1, a2.trans (hc i hi).symm, a3, a4, a5, a6, fun j hj => by rw [ha i j hj]; exact a7 j hj⟩
  · obtain ⟨a1, a2, a3, a4⟩ := h11 i hi
    exact ⟨a1, a2, a3, fun j hj => by rw [ha i j hj]; exact a4 j hj⟩
  · rw [hc i hi]; exact hco i hi
theorem CV_id {nb : Nat} {par : Nat → Option Nat} {B : Nat → BS} {od : Nat → Nat} {kd : Nat → Int32} {hd li : Nat → Bool} {ct : Nat → Int32} {rk : Nat → Nat} {rks : Nat} {w h : Int32} {pl : Nat → Int32} {cs : Nat → Option K5} {fo pr : Option Nat} {ar : Nat → Nat → Bool} {co : Nat → Int32} {k : Nat} {D' : Nat → Bool} (hV : CV nb par B od kd hd li ct rk rks w h pl cs fo pr ar co k) : (∀ i j, j < 384 → (lookS nb par kd hd li pl fo pr ar co D').1 i j = ar i j) ∧ (∀ i, i < nb → (lookS nb par kd hd li pl fo pr ar co D').2.1 i = co i) ∧ ∀ j, (lookS nb par kd hd li pl fo pr ar co D').2.2 j = D' j := by
  have hin := CV_in hV
  obtain ⟨⟨h1, h2, h3, h4, h6, h7, h8, h9, h11, h12⟩, hA, hco, f1, f2⟩ := hV
  have el : (lookS nb par kd hd li pl fo pr ar co D') = lkS (nwM par pl hd) (colM kd li (atM par pl hd kd fo) (atM par pl hd kd pr)) (ar, co, D') nb := rfl
  obtain ⟨l1, l2, l3⟩ := lk_at (N := nwM par pl hd) (c := colM kd li (atM par pl hd kd fo) (atM par pl hd kd pr)) (s := (ar, co, D')) nb
  rw [f1, f2] at l1 l2 l3
  rw [el, f1, f2]
  have ha : ∀ i j, i < nb → j < 384 → ar i j = nwM par pl hd i j := by
    intro i j hi hj
    have a7 := (h6 i hi).2.2.2.2.2.2 j hj
    rw [Bool.eq_iff_iff, a7]
    exact hin i hi _ _
  refine ⟨fun i j hj => ?_, fun i hi => ?_, fun j => ?_⟩
  · by_cases c : i < nb
    · rw [(l2 i c).2 j hj]; exact (ha i j c hj).symm
    · rw [(l1 i (by omega)).1]
  · rw [(l2 i hi).1]; exact (hco i hi).symm
  · rw [Bool.eq_iff_iff, l3 j]
    constructor
    · rintro (z | ⟨i, hi, z, -⟩)
      · exact z
      · rcases z with z | ⟨q, hq, z⟩
        · exact absurd (hco i hi) z
        · exact absurd (ha i q hi hq) z
    · exact Or.inl
theorem arC_0 (r : A4) : arC (0, 0, 0, 0) r = A0 := by
  have e : arE (arM (0, 0, 0, 0) r) := by
    rw [arM_E]
    have z : (0 : Int32).toInt = 0 := rfl
    show min (0 : Int32).toInt r.2.1.toInt ≤ max (0 : Int32).toInt r.1.toInt ∨ _
    rw [z]
    left
    omega
  exact if_pos e
theorem CV_box {nb : Nat} {par : Nat → Option Nat} {B : Nat → BS} {od : Nat → Nat} {kd : Nat → Int32} {hd li : Nat → Bool} {ct : Nat → Int32} {rk : Nat → Nat} {rks : Nat} {w h : Int32} {pl : Nat → Int32} {cs : Nat → Option K5} {fo pr : Option Nat} {ar : Nat → Nat → Bool} {co : Nat → Int32} {k : Nat} {p : Nat} {kd0 : Int32} (hV : CV nb par B od kd hd li ct rk rks w h pl cs fo pr ar co k) (hn : nb < 6) (hpn : p < nb) (hk0 : kd0 = 0 ∨ kd0 = 1 ∨ kd0 = 2) : CV (nb + 1) (gup par nb (some p)) (gup B nb (nwB kd0 nb)) (gup od nb nb) (gup kd nb kd0) hd li ct (gup rk nb (rks + 1)) (rks + 1) w h pl cs fo pr ar (gup co nb (nI (nb + 1))) (k + 1) := by
  have hat := fun o ho => CV_at hV (o := o) ho
  obtain ⟨⟨h1, h2, h3, ⟨h4, h5⟩, h6, h7, ⟨w1, w2, w3, w4⟩, ⟨h9, h10⟩, h11, hfo, hpr⟩, hA, hco, f1, f2⟩ := hV
  obtain ⟨d1, d2, d3, d4⟩ := h11 nb (Nat.le_refl _)
  have hPT := PT_up h2 h1.1 hpn
  have hA' : ArF (nb + 1) (gup par nb (some p)) pl hd (fun i => (gup B nb (nwB kd0 nb) i).2.2.2.2.2.1) := by
    intro i hi
    by_cases e : i = nb
    · subst e
      dsimp only
      rw [gup_same, gup_same, d1]
      dsimp only
      have e4 : fa4 pl (i * 4) = (0, 0, 0, 0) := by
        unfold fa4
        rw [h10 (i * 4) (by omega), h10 (i * 4 + 1) (by omega), h10 (i * 4 + 2) (by omega), h10 (i * 4 + 3) (by omega)]
      rw [e4, arC_0]
      rfl
    · have := hA i (by omega)
      dsimp only at this ⊢
      rw [gup_ne e, gup_ne e, this]
      cases hpar : par i with
      | none => rfl
      | some q =>
        have := h2.1 i q (by omega) hpar
        dsimp only
        rw [gup_ne (show q ≠ nb by omega)]
  have hBR : BR (nb + 1) (gup B nb (nwB kd0 nb)) (gup kd nb kd0) hd li ct (gup co nb (nI (nb + 1))) ar := by
    intro i hi
    by_cases e : i = nb
    · subst e
      rw [gup_same, gup_same, gup_same]
      refine ⟨rfl, ?_, d3.symm, d1.symm, d2.symm, Or.inl rfl, fun j hj => ?_⟩
      · show 1 + nI i = nI (i + 1)
        rw [Int32.add_comm, nI_1]
      · rw [d4 j hj]
        exact ⟨(fun z => by cases z), fun z => absurd z (A0_H _ _)⟩
    · rw [gup_ne e, gup_ne e, gup_ne e]; exact h6 i (by omega)
  have hKD : KD (nb + 1) (gup kd nb kd0) li := by
    intro i hi
    by_cases e : i = nb
    · subst e
      rw [gup_same]
      exact ⟨hk0, fun z => by rw [d2] at z; cases z⟩
    · rw [gup_ne e]; exact h7 i (by omega)
  have hkd : ∀ i, i < nb + 1 → (gup B nb (nwB kd0 nb) i).1 = gup kd nb kd0 i := fun i hi => (hBR i hi).1
  have same : ∀ o : Option Nat, (∀ i, o = some i → i < nb) → attP (gup B nb (nwB kd0 nb)) o = attP B o := by
    intro o ho
    cases o with
    | none => rfl
    | some i =>
      have := ho i rfl
      unfold attP
      dsimp only
      rw [gup_ne (by omega)]
  have ff : ∀ o : Option Nat, (∀ i, o = some i → i < nb) → atM par pl hd kd o = o → atM (gup par nb (some p)) pl hd (gup kd nb kd0) o = o := by
    intro o ho hoo
    rw [← attP_eq hPT (by omega) hA' w1 w2 hKD hkd (fun i hi => by have := ho i hi; omega), same o ho, hat o ho]
    exact hoo
  refine ⟨⟨by omega, hPT, nw_Or h3 h4, ⟨fun j hj => ?_, by omega⟩, hBR, hKD, ⟨w1, w2, csV_up w3, feas_up ⟨h1.1, hn⟩ (szV_wh w2) w3 w4⟩, ⟨fun j hj => ?_, fun j hj => h10 j (by omega)⟩, fun i hi => h11 i (by omega), fun i hi => by have := hfo i hi; omega, fun i hi => by have := hpr i hi; omega⟩, hA', fun i hi => ?_, ff fo hfo f1, ff pr hpr f2⟩
  · by_cases e : j = nb
    · subst e; rw [gup_same]; omega
    · rw [gup_ne e]; have := h4 j (by omega); omega
  · by_cases c : j < 4 * nb
    · have := h9 j c
      omega
    · have z : (0 : Int32).toInt = 0 := rfl
      rw [h10 j (by omega), z]
      omega
  · by_cases e : i = nb
    · subst e
      rw [gup_same]
      have n1 : ¬ fo = some i := fun z => by have := hfo i z; omega
      have n2 : ¬ pr = some i := fun z => by have := hpr i z; omega
      unfold colM colB colA
      rw [if_neg n2, if_neg n1, if_neg (fun z => by rw [d2] at z; exact absurd z.2 (by decide)), Int32.add_comm, nI_1]
    · have := hco i (by omega)
      rw [gup_ne e, this]
      unfold colM colB colA
      rw [gup_ne e]
theorem near_i (x : Int32) : (1 ≤ (nearI x 1 24).toInt ∧ (nearI x 1 24).toInt ≤ 24) ∧ 1 ≤ (nearI x 1 16).toInt ∧ (nearI x 1 16).toInt ≤ 16 := by
  have z1 : (1 : Int32).toInt = 1 := rfl
  have z2 : (24 : Int32).toInt = 24 := rfl
  have z3 : (16 : Int32).toInt = 16 := rfl
  rw [nearI_i, nearI_i, z1, z2, z3]
  refine ⟨?_, ?_⟩
  · split
    · split <;> omega
    · omega
  · split
    · split <;> omega
    · omega
theorem sz_init (x y : Int32) : szV (nearI x 1 24) (nearI y 1 16) := ⟨(near_i x).1.1, (near_i x).1.2, (near_i y).2.1, (near_i y).2.2⟩
theorem PV_init (x y : Int32) {B0 : Nat → BS} {od0 : Nat → Nat} : PV 1 (fun _ => none) (gup B0 0 (nwB 0 0)) (gup od0 0 0) (fun _ => 0) (fun _ => false) (fun _ => false) (fun _ => 0) (fun _ => 0) 0 (nearI x 1 24) (nearI y 1 16) (pl0 x y) (fun _ => none) none none (fun _ _ => false) (fun _ => 1) 0 := by
  have sz := sz_init x y
  have hw : winP (nearI x 1 24) (nearI y 1 16) (pl0 x y) := ⟨rfl, rfl, rfl, rfl⟩
  refine ⟨by omega, ⟨(fun i p hi he => by cases he), fun i hi => ⟨(fun _ => by omega), fun _ => rfl⟩⟩, ⟨fun k hk => ?_, (fun k l hk hl _ => by omega), fun j hj => ⟨0, by omega, ?_⟩, (fun k l h1 h2 => by omega)⟩, ⟨fun j hj => Nat.le_refl _, Nat.le_refl _⟩, fun i hi => ?_, fun i hi => ⟨Or.inl rfl, (fun z => by cases z)⟩, ⟨hw, sz, (fun i κ hi he => by cases he), feas_0 (szV_wh sz) (by have := sz.1; omega) (by have := sz.2.2.1; omega)⟩, ⟨fun j hj => ?_, fun j hj => ?_⟩, fun i hi => ⟨rfl, rfl, rfl, fun _ _ => rfl⟩, fun i hi => (by cases hi), fun i hi => (by cases hi)⟩
  · have : k = 0 := by omega
    subst this; rw [gup_same]; omega
  · rw [gup_same]; omega
  · have : i = 0 := by omega
    subst this
    rw [gup_same]
    exact ⟨rfl, by show (1 : Int32) + nI 0 = 1; rw [nI_0]; rfl, rfl, rfl, rfl, Or.inl rfl, fun j hj => ⟨(fun z => by cases z), fun z => absurd z (A0_H _ _)⟩⟩
  · have z : (0 : Int32).toInt = 0 := rfl
    obtain ⟨s1, s2, s3, s4⟩ := sz
    unfold pl0
    split
    · omega
    · split
      · omega
      · rw [z]; omega
  · unfold pl0
    rw [if_neg (by omega), if_neg (by omega)]
theorem gup_none (a : Nat) : gup (fun _ => (none : Option Nat)) a none = fun _ => none := by
  funext j
  unfold gup
  split <;> rfl

theorem CV_init (x y : Int32) {B0 : Nat → BS} {od0 : Nat → Nat} : CV 1 (fun _ => none) (scS (fun _ => none) (pl0 x y) (gup B0 0 (nwB 0 0)) 1 none none (fun _ => false)).1 (gup od0 0 0) (fun _ => 0) (fun _ => false) (fun _ => false) (fun _ => 0) (fun _ => 0) 0 (nearI x 1 24) (nearI y 1 16) (pl0 x y) (fun _ => none) (atM (fun _ => none) (pl0 x y) (fun _ => false) (fun _ => 0) none) (atM (fun _ => none) (pl0 x y) (fun _ => false) (fun _ => 0) none) (lookS 1 (fun _ => none) (fun _ => 0) (fun _ => false) (fun _ => false) (pl0 x y) none none (fun _ _ => false) (fun _ => 0) (fun _ => false)).1 (lookS 1 (fun _ => none) (fun _ => 0) (fun _ => false) (fun _ => false) (pl0 x y) none none (fun _ _ => false) (fun _ => 0) (fun _ => false)).2.1 0 ∧ (∀ j, j < 384 → (scS (fun _ => none) (pl0 x y) (gup B0 0 (nwB 0 0)) 1 none none (fun _ => false)).2 j = (lookS 1 (fun _ => none) (fun _ => 0) (fun _ => false) (fun _ => false) (pl0 x y) none none (fun _ _ => false) (fun _ => 0) (fun _ => false)).2.2 j) ∧ attP (scB (fun _ => none) (pl0 x y) (gup B0 0 (nwB 0 0)) 1) none = (atM (fun _ => none) (pl0 x y) (fun _ => false) (fun _ => 0) none) := by
  have sz := sz_init x y
  obtain ⟨g1, g2, g3, g4⟩ := PV_look (D := fun _ => false) (D' := fun _ => false) (PV_init x y (B0 := B0) (od0 := od0)) (fun _ _ => rfl)
  have hp : inM (fun _ => none) (pl0 x y) (fun _ => false) 0 (nI (0 % 24)) (nI (0 / 24)) = true := by
    rw [in_root rfl]
    refine ⟨by decide, ?_, rfl⟩
    rw [arH_i]
    have z : (nI (0 % 24)).toInt = 0 := by decide
    have z' : (nI (0 / 24)).toInt = 0 := by decide
    have z0 : (0 : Int32).toInt = 0 := rfl
    rw [z]
    obtain ⟨s1, s2, s3, s4⟩ := sz
    show (0 : Int32).toInt ≤ 0 ∧ 0 < (nearI x 1 24).toInt ∧ (0 : Int32).toInt ≤ 0 ∧ 0 < (nearI y 1 16).toInt
    rw [z0]
    omega
  have lk : ∀ co : Nat → Int32, lkP (nwM (fun _ => none) (pl0 x y) (fun _ => false)) (colM (fun _ => 0) (fun _ => false) (atM (fun _ => none) (pl0 x y) (fun _ => false) (fun _ => 0) none) (atM (fun _ => none) (pl0 x y) (fun _ => false) (fun _ => 0) none)) ((fun _ _ => false), co, (fun _ => false)) 0 := fun co => Or.inr ⟨0, by omega, by
    show false ≠ inM (fun _ => none) (pl0 x y) (fun _ => false) 0 (nI (0 % 24)) (nI (0 / 24))
    rw [hp]; decide⟩
  obtain ⟨a1, a2, a3⟩ := lk_at (N := nwM (fun _ => none) (pl0 x y) (fun _ => false)) (c := colM (fun _ => 0) (fun _ => false) (atM (fun _ => none) (pl0 x y) (fun _ => false) (fun _ => 0) none) (atM (fun _ => none) (pl0 x y) (fun _ => false) (fun _ => 0) none)) (s := ((fun _ _ => false), (fun _ => 0), (fun _ => false))) 1
  obtain ⟨b1, b2, b3⟩ := lk_at (N := nwM (fun _ => none) (pl0 x y) (fun _ => false)) (c := colM (fun _ => 0) (fun _ => false) (atM (fun _ => none) (pl0 x y) (fun _ => false) (fun _ => 0) none) (atM (fun _ => none) (pl0 x y) (fun _ => false) (fun _ => 0) none)) (s := ((fun _ _ => false), (fun _ => 1), (fun _ => false))) 1
  have e0 : (lookS 1 (fun _ => none) (fun _ => 0) (fun _ => false) (fun _ => false) (pl0 x y) none none (fun _ _ => false) (fun _ => 0) (fun _ => false)) = lkS (nwM (fun _ => none) (pl0 x y) (fun _ => false)) (colM (fun _ => 0) (fun _ => false) (atM (fun _ => none) (pl0 x y) (fun _ => false) (fun _ => 0) none) (atM (fun _ => none) (pl0 x y) (fun _ => false) (fun _ => 0) none)) ((fun _ _ => false), (fun _ => 0), (fun _ => false)) 1 := rfl
  have e1 : (lookS 1 (fun _ => none) (fun _ => 0) (fun _ => false) (fun _ => false) (pl0 x y) none none (fun _ _ => false) (fun _ => 1) (fun _ => false)) = lkS (nwM (fun _ => none) (pl0 x y) (fun _ => false)) (colM (fun _ => 0) (fun _ => false) (atM (fun _ => none) (pl0 x y) (fun _ => false) (fun _ => 0) none) (atM (fun _ => none) (pl0 x y) (fun _ => false) (fun _ => 0) none)) ((fun _ _ => false), (fun _ => 1), (fun _ => false)) 1 := rfl
  refine ⟨CV_cong g1 (fun i j hj => ?_) (fun i hi => ?_), fun j hj => (g2 j hj).trans ?_, g3⟩
  · rw [e0, e1]
    by_cases c : i < 1
    · rw [(a2 i c).2 j hj, (b2 i c).2 j hj]
    · rw [(a1 i (by omega)).1, (b1 i (by omega)).1]
  · rw [e0, e1, (a2 i hi).1, (b2 i hi).1]
  · rw [e0, e1, Bool.eq_iff_iff, a3 j, b3 j]
    have i0 : ∀ i, i < 1 → i = 0 := fun i hi => by omega
    constructor
    · rintro (z | ⟨i, h1, h2, h3⟩)
      · exact Or.inl z
      · cases i0 i h1
        exact Or.inr ⟨0, h1, lk _, h3⟩
    · rintro (z | ⟨i, h1, h2, h3⟩)
      · exact Or.inl z
      · cases i0 i h1
        exact Or.inr ⟨0, h1, lk _, h3⟩
