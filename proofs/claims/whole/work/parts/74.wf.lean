theorem an_add {par : Nat → Option Nat} {a u : Nat} {k : Nat} (h : anP par a k = some u) : ∀ d, anP par a (k + d) = anP par u d
  | 0 => h
  | d + 1 => by
    show (anP par a (k + d)).bind par = (anP par u d).bind par
    rw [an_add h d]
theorem an_dec {nb : Nat} {par : Nat → Option Nat} (hp : PT nb par) {a u v : Nat} (ha : a < nb) {k l : Nat} (hkl : k < l) (h1 : anP par a k = some u) (h2 : anP par a l = some v) : v < u := by
  have h3 := an_add h1 (l - k)
  rw [show k + (l - k) = l by omega, h2] at h3
  have := an_le hp ha k u h1
  have := an_le hp (show u < nb by omega) (l - k) v h3.symm
  omega
def Anc (par : Nat → Option Nat) (a b : Nat) : Prop := ∃ k, anP par b k = some a
theorem Anc_rf {par : Nat → Option Nat} {a : Nat} : Anc par a a := ⟨0, rfl⟩
theorem Anc_tr {par : Nat → Option Nat} {a b c : Nat} (h1 : Anc par a b) (h2 : Anc par b c) : Anc par a c := by
  obtain ⟨k, hk⟩ := h1
  obtain ⟨l, hl⟩ := h2
  exact ⟨l + k, by rw [an_add hl]; exact hk⟩
theorem Anc_le {nb : Nat} {par : Nat → Option Nat} (hp : PT nb par) {a b : Nat} (hb : b < nb) (h : Anc par a b) : a ≤ b := by
  obtain ⟨k, hk⟩ := h
  have := an_le hp hb k a hk
  omega
theorem Anc_par {par : Nat → Option Nat} {a b : Nat} (h : par b = some a) : Anc par a b := ⟨1, h⟩
theorem an_sib {nb : Nat} {par : Nat → Option Nat} (hp : PT nb par) {b t u : Nat} (hb : b < nb) {j l : Nat} (h1 : anP par b j = some t) (h2 : anP par b l = some u) (he : par u = par t) : ¬ j < l := by
  intro hjl
  have h3 : anP par b (j + 1) = par t := by show (anP par b j).bind par = _; rw [h1]; rfl
  have h4 : anP par b (l + 1) = par u := by show (anP par b l).bind par = _; rw [h2]; rfl
  cases e : par t with
  | none =>
    have h5 : ∀ d, anP par b (j + 1 + d) = none := by
      intro d
      induction d with
      | zero => rw [e] at h3; exact h3
      | succ d ih => show (anP par b (j + 1 + d)).bind par = none; rw [ih]; rfl
    have := h5 (l - (j + 1))
    rw [show j + 1 + (l - (j + 1)) = l by omega, h2] at this
    cases this
  | some v =>
    rw [e] at h3 he
    rw [he] at h4
    have := an_dec hp hb (show j + 1 < l + 1 by omega) h3 h4
    omega
theorem Anc_sib {nb : Nat} {par : Nat → Option Nat} (hp : PT nb par) {b t u : Nat} (hb : b < nb) (h1 : Anc par t b) (h2 : Anc par u b) (he : par u = par t) : u = t := by
  obtain ⟨j, h1⟩ := h1
  obtain ⟨l, h2⟩ := h2
  have n1 := an_sib hp hb h1 h2 he
  have n2 := an_sib hp hb h2 h1 he.symm
  have : j = l := by omega
  subst this
  rw [h1] at h2
  cases h2; rfl
theorem ifJ_none {par : Nat → Option Nat} {rk : Nat → Nat} {a b u : Nat} (h : ∀ t, Anc par t b → ¬ u = t ∧ ¬ par u = par t) : ∀ n j, ifJ par rk a b u n j = none
  | 0, _ => rfl
  | n + 1, j => by
    unfold ifJ
    cases e : anP par b j with
    | none => rfl
    | some t =>
      obtain ⟨h1, h2⟩ := h t ⟨j, e⟩
      dsimp only
      rw [if_neg h1, if_neg h2]
      exact ifJ_none h n (j + 1)
theorem ifJ_go {par : Nat → Option Nat} {rk : Nat → Nat} {a b u t j : Nat} (ht : anP par b j = some t) (h : ∀ j' t', j' < j → anP par b j' = some t' → ¬ u = t' ∧ ¬ par u = par t') : ∀ n j0, j0 ≤ j → j < j0 + n → ifJ par rk a b u n j0 = if u = t then some (decide (t = b) && decide (¬ a = b)) else if par u = par t then some (decide (rk t < rk u)) else ifJ par rk a b u (n - 1 - (j - j0)) (j + 1)
  | 0, j0, h1, h2 => by omega
  | n + 1, j0, h1, h2 => by
    by_cases e : j0 = j
    · subst e
      have : n + 1 - 1 - (j0 - j0) = n := by omega
      rw [this]
      show (match anP par b j0 with | none => none | some t => if u = t then some (decide (t = b) && decide (¬ a = b)) else if par u = par t then some (decide (rk t < rk u)) else ifJ par rk a b u n (j0 + 1)) = _
      rw [ht]
    · cases e2 : anP par b j0 with
      | none =>
        have h5 : ∀ d, anP par b (j0 + d) = none := by
          intro d
          induction d with
          | zero => exact e2
          | succ d ih => show (anP par b (j0 + d)).bind par = none; rw [ih]; rfl
        have := h5 (j - j0)
        rw [show j0 + (j - j0) = j by omega, ht] at this
        cases this
      | some t' =>
        obtain ⟨g1, g2⟩ := h j0 t' (by omega) e2
        have ih := ifJ_go (rk := rk) (a := a) ht h n (j0 + 1) (by omega) (by omega)
        have : ifJ par rk a b u (n + 1) j0 = ifJ par rk a b u n (j0 + 1) := by
          show (match anP par b j0 with | none => none | some t => if u = t then some (decide (t = b) && decide (¬ a = b)) else if par u = par t then some (decide (rk t < rk u)) else ifJ par rk a b u n (j0 + 1)) = _
          rw [e2]
          dsimp only
          rw [if_neg g1, if_neg g2]
        rw [this, ih, show n + 1 - 1 - (j - j0) = n - 1 - (j - (j0 + 1)) by omega]
theorem ifK_go {par : Nat → Option Nat} {rk : Nat → Nat} {a b u k : Nat} {r : Bool} (hu : anP par a k = some u) (hr : ifJ par rk a b u 6 0 = some r) (h : ∀ k' u', k' < k → anP par a k' = some u' → ifJ par rk a b u' 6 0 = none) : ∀ n k0, k0 ≤ k → k < k0 + n → ifK par rk a b n k0 = r
  | 0, k0, h1, h2 => by omega
  | n + 1, k0, h1, h2 => by
    unfold ifK
    by_cases e : k0 = k
    · subst e
      rw [hu]
      dsimp only
      rw [hr]
    · cases e2 : anP par a k0 with
      | none =>
        have h5 : ∀ d, anP par a (k0 + d) = none := by
          intro d
          induction d with
          | zero => exact e2
          | succ d ih => show (anP par a (k0 + d)).bind par = none; rw [ih]; rfl
        have := h5 (k - k0)
        rw [show k0 + (k - k0) = k by omega, hu] at this
        cases this
      | some u' =>
        dsimp only
        rw [h k0 u' (by omega) e2]
        exact ifK_go hu hr h n (k0 + 1) (by omega) (by omega)
theorem fr_sib {nb : Nat} {par : Nat → Option Nat} {rk : Nat → Nat} (hp : PT nb par) (hnb : nb ≤ 6) {a b u t : Nat} (ha : a < nb) (hb : b < nb) (h1 : Anc par u a) (h2 : Anc par t b) (he : par u = par t) (hne : ¬ u = t) : frM par rk a b = decide (rk t < rk u) := by
  obtain ⟨k, hk⟩ := h1
  obtain ⟨j, hj⟩ := h2
  have k6 := an_le hp ha k u hk
  have j6 := an_le hp hb j t hj
  have nu : ¬ Anc par u b := fun z => hne (Anc_sib hp hb ⟨j, hj⟩ z he)
  refine ifK_go hk ?_ ?_ 6 0 (by omega) (by omega)
  · rw [ifJ_go (u := u) hj (fun j' t' hj' ht' => ⟨fun z => nu (by rw [z]; exact ⟨j', ht'⟩), fun z => an_sib hp hb ht' hj (he.symm.trans z) hj'⟩) 6 0 (by omega) (by omega), if_neg hne, if_pos he]
  · intro k' u' hk' hu'
    have hd := an_add hu' (k - k')
    rw [show k' + (k - k') = k by omega, hk] at hd
    refine ifJ_none (fun t' ht' => ⟨fun z => nu ?_, fun z => nu ?_⟩) 6 0
    · subst z
      exact Anc_tr ⟨k - k', hd.symm⟩ ht'
    · refine Anc_tr ⟨k - k', ?_⟩ ht'
      have e : k - k' = (k - k' - 1) + 1 := by omega
      rw [e, an_su] at hd ⊢
      rw [← z]; exact hd.symm
theorem fr_anc {nb : Nat} {par : Nat → Option Nat} {rk : Nat → Nat} (hp : PT nb par) (hnb : nb ≤ 6) {a b : Nat} (ha : a < nb) (h : Anc par b a) (hne : ¬ b = a) : frM par rk a b = true ∧ frM par rk b a = false := by
  have hba := Anc_le hp ha h
  obtain ⟨k, hk⟩ := h
  have k6 := an_le hp ha k b hk
  have up : ∀ k' u', k' < k → anP par a k' = some u' → b < u' ∧ ∃ v, par u' = some v ∧ b ≤ v := by
    intro k' u' hk' hu'
    refine ⟨an_dec hp ha hk' hu' hk, ?_⟩
    have h1 : anP par a (k' + 1) = par u' := by show (anP par a k').bind par = _; rw [hu']; rfl
    by_cases e : k' + 1 = k
    · rw [e, hk] at h1; exact ⟨b, h1.symm, Nat.le_refl _⟩
    · cases e2 : par u' with
      | none =>
        rw [e2] at h1
        have h5 : ∀ d, anP par a (k' + 1 + d) = none := by
          intro d
          induction d with
          | zero => exact h1
          | succ d ih => show (anP par a (k' + 1 + d)).bind par = none; rw [ih]; rfl
        have := h5 (k - (k' + 1))
        rw [show k' + 1 + (k - (k' + 1)) = k by omega, hk] at this
        cases this
      | some v =>
        rw [e2] at h1
        exact ⟨v, rfl, Nat.le_of_lt (an_dec hp ha (show k' + 1 < k by omega) h1 hk)⟩
  constructor
  · refine ifK_go hk ?_ ?_ 6 0 (by omega) (by omega)
    · rw [ifJ_go (j := 0) (t := b) rfl (fun j' t' hj' => absurd hj' (Nat.not_lt_zero _)) 6 0 (by omega) (by omega), if_pos rfl]
      have : ¬ a = b := fun z => hne z.symm
      rw [decide_eq_true (rfl : b = b), decide_eq_true this]; rfl
    · intro k' u' hk' hu'
      obtain ⟨g1, v, g2, g3⟩ := up k' u' hk' hu'
      refine ifJ_none (fun t' ht' => ?_) 6 0
      have := Anc_le hp (by omega) ht'
      refine ⟨by omega, fun z => ?_⟩
      rw [g2] at z
      have := hp.1 t' v (by omega) z.symm
      omega
  · refine ifK_go (k := 0) (u := b) rfl ?_ (fun k' u' hk' => absurd hk' (Nat.not_lt_zero _)) 6 0 (by omega) (by omega)
    rw [ifJ_go hk (fun j' t' hj' ht' => ?_) 6 0 (by omega) (by omega), if_pos rfl, decide_eq_false hne]
    · rfl
    · obtain ⟨g1, v, g2, g3⟩ := up j' t' hj' ht'
      refine ⟨by omega, fun z => ?_⟩
      rw [g2] at z
      have := hp.1 b v (by omega) z
      omega
def OrV (nb : Nat) (par : Nat → Option Nat) (od rk : Nat → Nat) : Prop := (∀ k, k < nb → od k < nb) ∧ (∀ k l, k < nb → l < nb → od k = od l → k = l) ∧ (∀ j, j < nb → ∃ k, k < nb ∧ od k = j) ∧ ∀ k l, k < l → l < nb → par (od k) = par (od l) → rk (od k) < rk (od l)
theorem fc_some {od : Nat → Nat} {par : Nat → Option Nat} {H : Nat → Prop} [DecidablePred H] {p : Option Nat} {i : Nat} : ∀ n, fcP od par H p n = some i → ∃ k, k < n ∧ od k = i ∧ par i = p ∧ H i ∧ ∀ l, k < l → l < n → ¬ (par (od l) = p ∧ H (od l))
  | 0, h => by cases h
  | n + 1, h => by
    unfold fcP at h
    by_cases c : par (od n) = p ∧ H (od n)
    · rw [if_pos c] at h
      cases h
      exact ⟨n, by omega, rfl, c.1, c.2, fun l h1 h2 => by omega⟩
    · rw [if_neg c] at h
      obtain ⟨k, h1, h2, h3, h4, h5⟩ := fc_some n h
      refine ⟨k, by omega, h2, h3, h4, fun l g1 g2 => ?_⟩
      by_cases e : l = n
      · subst e; exact c
      · exact h5 l g1 (by omega)
theorem fc_none {od : Nat → Nat} {par : Nat → Option Nat} {H : Nat → Prop} [DecidablePred H] {p : Option Nat} : ∀ n, fcP od par H p n = none → ∀ l, l < n → ¬ (par (od l) = p ∧ H (od l))
  | 0, _, l, hl => absurd hl (Nat.not_lt_zero _)
  | n + 1, h, l, hl => by
    unfold fcP at h
    by_cases c : par (od n) = p ∧ H (od n)
    · rw [if_pos c] at h; cases h
    · rw [if_neg c] at h
      by_cases e : l = n
      · subst e; exact c
      · exact fc_none n h l (by omega)
theorem fcN_some {nb : Nat} {par : Nat → Option Nat} {od rk : Nat → Nat} {B : Nat → BS} {x y : Int32} {p : Option Nat} {i : Nat} (ho : OrV nb par od rk) (h : fcN od par B nb x y p = some i) : i < nb ∧ par i = p ∧ arAt B x y i ∧ ∀ j, j < nb → par j = p → arAt B x y j → ¬ j = i → rk j < rk i := by
  obtain ⟨k, h1, h2, h3, h4, h5⟩ := fc_some nb h
  refine ⟨h2 ▸ ho.1 k h1, h3, h4, fun j hj hpj haj hne => ?_⟩
  obtain ⟨l, hl, rfl⟩ := ho.2.2.1 j hj
  have : l ≠ k := by rintro rfl; exact hne h2
  by_cases c : k < l
  · exact absurd ⟨hpj, haj⟩ (h5 l c hl)
  · have := ho.2.2.2 l k (by omega) h1 (by rw [hpj, h2, h3])
    rw [h2] at this; exact this
theorem fcN_none {nb : Nat} {par : Nat → Option Nat} {od rk : Nat → Nat} {B : Nat → BS} {x y : Int32} {p : Option Nat} (ho : OrV nb par od rk) (h : fcN od par B nb x y p = none) : ∀ j, j < nb → par j = p → ¬ arAt B x y j := by
  intro j hj hpj haj
  obtain ⟨l, hl, rfl⟩ := ho.2.2.1 j hj
  exact fc_none nb h l hl ⟨hpj, haj⟩
theorem Anc_0 {nb : Nat} {par : Nat → Option Nat} (hp : PT nb par) : ∀ n b, b < n → b < nb → Anc par 0 b
  | 0, b, hb, _ => absurd hb (Nat.not_lt_zero _)
  | n + 1, b, hb, hn => by
    cases e : par b with
    | none => rw [(hp.2 b hn).mp e]; exact Anc_rf
    | some p =>
      have := hp.1 b p hn e
      exact Anc_tr (Anc_0 hp n p (by omega) (by omega)) (Anc_par e)
theorem Anc_child {nb : Nat} {par : Nat → Option Nat} (hp : PT nb par) {a b : Nat} (hb : b < nb) (h : Anc par a b) (hne : ¬ b = a) : ∃ t, par t = some a ∧ Anc par t b := by
  obtain ⟨k, hk⟩ := h
  cases k with
  | zero => cases hk; exact absurd rfl hne
  | succ k =>
    have h1 : (anP par b k).bind par = some a := hk
    cases e : anP par b k with
    | none => rw [e] at h1; cases h1
    | some t => rw [e] at h1; exact ⟨t, h1, ⟨k, e⟩⟩
theorem in_anc {nb : Nat} {par : Nat → Option Nat} {pl : Nat → Int32} {hd : Nat → Bool} {x y : Int32} (hp : PT nb par) (hnb : nb ≤ 6) {a b : Nat} (hb : b < nb) (h : Anc par a b) (hi : inM par pl hd b x y = true) : inM par pl hd a x y = true := by
  rw [in_iff] at hi ⊢
  obtain ⟨l, hl⟩ := h
  refine ⟨hi.1, fun k c hk hc => ?_⟩
  have h2 := an_add hl k
  rw [hc] at h2
  have := an_le hp hb (l + k) c h2
  exact hi.2 (l + k) c (by omega) h2
def Frt (nb : Nat) (par : Nat → Option Nat) (pl : Nat → Int32) (hd : Nat → Bool) (rk : Nat → Nat) (x y : Int32) (i : Nat) : Prop := i < nb ∧ inM par pl hd i x y = true ∧ ∀ c, c < nb → inM par pl hd c x y = true → Anc par i c ∨ (Anc par c i ∧ ¬ c = i) ∨ ∃ u t, Anc par u i ∧ Anc par t c ∧ par u = par t ∧ ¬ u = t ∧ rk t < rk u
theorem fb_inv {nb : Nat} {par : Nat → Option Nat} {pl : Nat → Int32} {hd : Nat → Bool} {od rk : Nat → Nat} {B : Nat → BS} {x y : Int32} (hp : PT nb par) (hnb : nb ≤ 6) (ho : OrV nb par od rk) (hA : ∀ i, i < nb → (arAt B x y i ↔ inM par pl hd i x y = true)) : ∀ k, ((fbP (fcN od par B nb x y) k).1 = none ∧ (fbP (fcN od par B nb x y) k).2 = fcN od par B nb x y none ∧ (k = 0 ∨ fcN od par B nb x y none = none)) ∨ ∃ i, (fbP (fcN od par B nb x y) k).1 = some i ∧ (fbP (fcN od par B nb x y) k).2 = fcN od par B nb x y (some i) ∧ Frt nb par pl hd rk x y i ∧ (k ≤ i + 1 ∨ fcN od par B nb x y (some i) = none)
  | 0 => Or.inl ⟨rfl, rfl, Or.inl rfl⟩
  | k + 1 => by
    have e : fbP (fcN od par B nb x y) (k + 1) = match (fbP (fcN od par B nb x y) k).2 with
      | some i => (some i, fcN od par B nb x y (some i))
      | none => fbP (fcN od par B nb x y) k := rfl
    rcases fb_inv hp hnb ho hA k with ⟨h1, h2, h3⟩ | ⟨i, h1, h2, h3, h4⟩
    · cases c : fcN od par B nb x y none with
      | none =>
        rw [h2, c] at e
        dsimp only at e
        rw [e]
        exact Or.inl ⟨h1, h2.trans c, Or.inr rfl⟩
      | some i =>
        rw [h2, c] at e
        dsimp only at e
        rw [e]
        obtain ⟨g1, g2, g3, g4⟩ := fcN_some ho c
        have i0 : i = 0 := (hp.2 i g1).mp g2
        right
        refine ⟨i, rfl, rfl, ⟨g1, (hA i g1).mp g3, fun c hc _ => Or.inl ?_⟩, Or.inl ?_⟩
        · rw [i0]; exact Anc_0 hp nb c hc hc
        · rcases h3 with h3 | h3
          · omega
          · rw [c] at h3; cases h3
    · right
      cases c : fcN od par B nb x y (some i) with
      | none =>
        rw [h2, c] at e
        dsimp only at e
        rw [e]
        exact ⟨i, h1, h2, h3, Or.inr c⟩
      | some j =>
        rw [h2, c] at e
        dsimp only at e
        rw [e]
        obtain ⟨g1, g2, g3, g4⟩ := fcN_some ho c
        have hij := hp.1 j i g1 g2
        obtain ⟨f1, f2, f3⟩ := h3
        refine ⟨j, rfl, rfl, ⟨g1, (hA j g1).mp g3, fun d hd' hin => ?_⟩, Or.inl ?_⟩
        · rcases f3 d hd' hin with z | ⟨z, z'⟩ | ⟨u, t, z1, z2, z3⟩
          · by_cases e2 : d = i
            · subst e2
              exact Or.inr (Or.inl ⟨Anc_par g2, by omega⟩)
            · obtain ⟨t, t1, t2⟩ := Anc_child hp hd' z e2
              have tn : t < nb := by have := Anc_le hp hd' t2; omega
              by_cases e3 : t = j
              · subst e3; exact Or.inl t2
              · have := g4 t tn t1 ((hA t tn).mpr (in_anc hp hnb hd' t2 hin)) e3
                exact Or.inr (Or.inr ⟨j, t, Anc_rf, t2, g2.trans t1.symm, fun z => e3 z.symm, this⟩)
          · refine Or.inr (Or.inl ⟨Anc_tr z (Anc_par g2), ?_⟩)
            have := Anc_le hp f1 z
            omega
          · exact Or.inr (Or.inr ⟨u, t, Anc_tr z1 (Anc_par g2), z2, z3⟩)
        · rcases h4 with h4 | h4
          · omega
          · rw [c] at h4; cases h4
theorem ht_none {par : Nat → Option Nat} {pl : Nat → Int32} {hd : Nat → Bool} {rk : Nat → Nat} {x y : Int32} : ∀ n, (∀ c, c < n → inM par pl hd c x y = false) → htM par pl hd rk x y n = none
  | 0, _ => rfl
  | n + 1, h => by
    unfold htM
    rw [if_neg (by rw [h n (by omega)]; decide)]
    exact ht_none n (fun c hc => h c (by omega))
theorem ht_in {par : Nat → Option Nat} {pl : Nat → Int32} {hd : Nat → Bool} {rk : Nat → Nat} {x y : Int32} : ∀ n c, htM par pl hd rk x y n = some c → c < n ∧ inM par pl hd c x y = true
  | 0, c, h => by cases h
  | n + 1, c, h => by
    unfold htM at h
    by_cases e : inM par pl hd n x y = true
    · rw [if_pos e] at h
      cases e2 : htM par pl hd rk x y n with
      | none => rw [e2] at h; cases h; exact ⟨by omega, e⟩
      | some d =>
        rw [e2] at h
        dsimp only at h
        have := ht_in n d e2
        split at h
        · cases h; exact ⟨by omega, e⟩
        · cases h; exact ⟨by omega, this.2⟩
    · rw [if_neg e] at h
      have := ht_in n c h
      exact ⟨by omega, this.2⟩
theorem ht_some {par : Nat → Option Nat} {pl : Nat → Int32} {hd : Nat → Bool} {rk : Nat → Nat} {x y : Int32} {r nb : Nat} (hr : inM par pl hd r x y = true) (h : ∀ c, c < nb → inM par pl hd c x y = true → ¬ c = r → frM par rk r c = true ∧ frM par rk c r = false) : ∀ n, n ≤ nb → r < n → htM par pl hd rk x y n = some r
  | 0, _, h0 => absurd h0 (Nat.not_lt_zero _)
  | n + 1, hn, hrn => by
    unfold htM
    by_cases e : r = n
    · subst e
      rw [if_pos hr]
      cases e2 : htM par pl hd rk x y r with
      | none => rfl
      | some d =>
        have := ht_in r d e2
        dsimp only
        rw [if_pos (h d (by omega) this.2 (by omega)).1]
    · have ih := ht_some hr h n (by omega) (by omega)
      by_cases c : inM par pl hd n x y = true
      · rw [if_pos c, ih]
        dsimp only
        rw [if_neg (by rw [(h n (by omega) c (fun z => e z.symm)).2]; decide)]
      · rw [if_neg c]; exact ih
theorem hit_eq {nb : Nat} {par : Nat → Option Nat} {pl : Nat → Int32} {hd : Nat → Bool} {od rk : Nat → Nat} {B : Nat → BS} {x y : Int32} (hp : PT nb par) (hn1 : 1 ≤ nb) (hnb : nb ≤ 6) (ho : OrV nb par od rk) (hA : ∀ i, i < nb → (arAt B x y i ↔ inM par pl hd i x y = true)) : hitP od par B nb x y = htM par pl hd rk x y nb := by
  unfold hitP
  rcases fb_inv hp hnb ho hA 6 with ⟨h1, h2, h3⟩ | ⟨i, h1, h2, h3, h4⟩
  · have h0 : fcN od par B nb x y none = none := by
      rcases h3 with h3 | h3
      · omega
      · exact h3
    rw [h1]
    refine (ht_none nb (fun c hc => ?_)).symm
    cases e : inM par pl hd c x y with
    | false => rfl
    | true =>
      have p0 : par 0 = none := (hp.2 0 (by omega)).mpr rfl
      exact absurd ((hA 0 (by omega)).mpr (in_anc hp hnb hc (Anc_0 hp nb c hc hc) e)) (fcN_none ho h0 0 (by omega) p0)
  · have h0 : fcN od par B nb x y (some i) = none := by
      rcases h4 with h4 | h4
      · cases c : fcN od par B nb x y (some i) with
        | none => rfl
        | some j =>
          obtain ⟨g1, g2, -⟩ := fcN_some ho c
          have := hp.1 j i g1 g2
          omega
      · exact h4
    rw [h1]
    obtain ⟨f1, f2, f3⟩ := h3
    refine (ht_some f2 (fun c hc hin hne => ?_) nb (Nat.le_refl _) f1).symm
    rcases f3 c hc hin with z | ⟨z, z'⟩ | ⟨u, t, z1, z2, z3, z4, z5⟩
    · obtain ⟨t, t1, t2⟩ := Anc_child hp hc z hne
      have tn : t < nb := by have := Anc_le hp hc t2; omega
      exact absurd ((hA t tn).mpr (in_anc hp hnb hc t2 hin)) (fcN_none ho h0 t tn t1)
    · exact fr_anc hp hnb f1 z z'
    · rw [fr_sib hp hnb f1 hc z1 z2 z3 z4, fr_sib hp hnb hc f1 z2 z1 z3.symm (fun y => z4 y.symm)]
      exact ⟨decide_eq_true z5, decide_eq_false (by omega)⟩
