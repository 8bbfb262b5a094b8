def PV (nb : Nat) (par : Nat → Option Nat) (B : Nat → BS) (od : Nat → Nat) (kd : Nat → Int32) (hd li : Nat → Bool) (ct : Nat → Int32) (rk : Nat → Nat) (rks : Nat) (w h : Int32) (pl : Nat → Int32) (cs : Nat → Option K5) (fo pr : Option Nat) (ar : Nat → Nat → Bool) (co : Nat → Int32) (k : Nat) : Prop := (1 ≤ nb ∧ nb ≤ 6) ∧ PT nb par ∧ OrV nb par od rk ∧ ((∀ j, j < nb → rk j ≤ rks) ∧ rks ≤ k) ∧ BR nb B kd hd li ct co ar ∧ KD nb kd li ∧ (winP w h pl ∧ szV w h ∧ csV nb cs ∧ feas w h nb cs) ∧ (plB nb (99 + 2277 * (k : Int)) pl ∧ ∀ j, 4 * nb ≤ j → pl j = 0) ∧ (∀ i, nb ≤ i → hd i = false ∧ li i = false ∧ ct i = 0 ∧ ∀ j, j < 384 → ar i j = false) ∧ (∀ i, fo = some i → i < nb) ∧ ∀ i, pr = some i → i < nb
def CV (nb : Nat) (par : Nat → Option Nat) (B : Nat → BS) (od : Nat → Nat) (kd : Nat → Int32) (hd li : Nat → Bool) (ct : Nat → Int32) (rk : Nat → Nat) (rks : Nat) (w h : Int32) (pl : Nat → Int32) (cs : Nat → Option K5) (fo pr : Option Nat) (ar : Nat → Nat → Bool) (co : Nat → Int32) (k : Nat) : Prop := PV nb par B od kd hd li ct rk rks w h pl cs fo pr ar co k ∧ ArF nb par pl hd (fun i => (B i).2.2.2.2.2.1) ∧ (∀ i, i < nb → co i = colM kd li fo pr i) ∧ atM par pl hd kd fo = fo ∧ atM par pl hd kd pr = pr
theorem atM_idem {par : Nat → Option Nat} {pl : Nat → Int32} {hd : Nat → Bool} {kd : Nat → Int32} {o : Option Nat} : atM par pl hd kd (atM par pl hd kd o) = atM par pl hd kd o := by
  unfold atM
  by_cases c : canM par pl hd kd o = true
  · rw [if_pos c, if_pos c]
  · rw [if_neg c]
    split <;> rfl
theorem szV_wh {w h : Int32} (hz : szV w h) : whV w h := by
  obtain ⟨h1, h2, h3, h4⟩ := hz
  exact ⟨by omega, by omega⟩
theorem PV_k {nb : Nat} {par : Nat → Option Nat} {B : Nat → BS} {od : Nat → Nat} {kd : Nat → Int32} {hd li : Nat → Bool} {ct : Nat → Int32} {rk : Nat → Nat} {rks : Nat} {w h : Int32} {pl : Nat → Int32} {cs : Nat → Option K5} {fo pr : Option Nat} {ar : Nat → Nat → Bool} {co : Nat → Int32} {k : Nat} (hV : PV nb par B od kd hd li ct rk rks w h pl cs fo pr ar co k) : PV nb par B od kd hd li ct rk rks w h pl cs fo pr ar co (k + 1) := by
  obtain ⟨h1, h2, h3, ⟨h4, h5⟩, h6, h7, h8, ⟨h9, h10⟩, h11⟩ := hV
  refine ⟨h1, h2, h3, ⟨h4, by omega⟩, h6, h7, h8, ⟨fun j hj => ?_, h10⟩, h11⟩
  have := h9 j hj
  omega
theorem CV_k {nb : Nat} {par : Nat → Option Nat} {B : Nat → BS} {od : Nat → Nat} {kd : Nat → Int32} {hd li : Nat → Bool} {ct : Nat → Int32} {rk : Nat → Nat} {rks : Nat} {w h : Int32} {pl : Nat → Int32} {cs : Nat → Option K5} {fo pr : Option Nat} {ar : Nat → Nat → Bool} {co : Nat → Int32} {k : Nat} (hV : CV nb par B od kd hd li ct rk rks w h pl cs fo pr ar co k) : CV nb par B od kd hd li ct rk rks w h pl cs fo pr ar co (k + 1) := ⟨PV_k hV.1, hV.2⟩
theorem PV_look {nb : Nat} {par : Nat → Option Nat} {B : Nat → BS} {od : Nat → Nat} {kd : Nat → Int32} {hd li : Nat → Bool} {ct : Nat → Int32} {rk : Nat → Nat} {rks : Nat} {w h : Int32} {pl : Nat → Int32} {cs : Nat → Option K5} {fo pr : Option Nat} {ar : Nat → Nat → Bool} {co : Nat → Int32} {k : Nat} {D D' : Nat → Bool} (hV : PV nb par B od kd hd li ct rk rks w h pl cs fo pr ar co k) (hD : ∀ j, j < 384 → D j = D' j) : CV nb par (scS par pl B nb fo pr D).1 od kd hd li ct rk rks w h pl cs (atM par pl hd kd fo) (atM par pl hd kd pr) (lookS nb par kd hd li pl fo pr ar co D').1 (lookS nb par kd hd li pl fo pr ar co D').2.1 k ∧ (∀ j, j < 384 → (scS par pl B nb fo pr D).2 j = (lookS nb par kd hd li pl fo pr ar co D').2.2 j) ∧ attP (scB par pl B nb) fo = atM par pl hd kd fo ∧ attP (scB par pl B nb) pr = atM par pl hd kd pr := by
  obtain ⟨h1, h2, h3, h4, h6, h7, ⟨w1, w2, w3, w4⟩, h9, h11, hfo, hpr⟩ := hV
  obtain ⟨g1, g2, g3, g4, g5, g6⟩ := show_look (fo := fo) (pr := pr) (D := D) (D' := D') h2 h1.2 w1 w2 h7 h6 hfo hpr hD
  refine ⟨⟨⟨h1, h2, h3, h4, g2, h7, ⟨w1, w2, w3, w4⟩, h9, fun i hi => ?_, atM_lt hfo, atM_lt hpr⟩, g3, g4, atM_idem, atM_idem⟩, g5, g1 fo hfo, g1 pr hpr⟩
  obtain ⟨a1, a2, a3, a4⟩ := h11 i hi
  exact ⟨a1, a2, a3, fun j hj => by rw [(g6 i hi).1]; exact a4 j hj⟩
theorem CV_at {nb : Nat} {par : Nat → Option Nat} {B : Nat → BS} {od : Nat → Nat} {kd : Nat → Int32} {hd li : Nat → Bool} {ct : Nat → Int32} {rk : Nat → Nat} {rks : Nat} {w h : Int32} {pl : Nat → Int32} {cs : Nat → Option K5} {fo pr : Option Nat} {ar : Nat → Nat → Bool} {co : Nat → Int32} {k : Nat} (hV : CV nb par B od kd hd li ct rk rks w h pl cs fo pr ar co k) {o : Option Nat} (ho : ∀ i, o = some i → i < nb) : attP B o = atM par pl hd kd o := by
  obtain ⟨⟨h1, h2, h3, h4, h6, h7, ⟨w1, w2, w3, w4⟩, h9, h11, hfo, hpr⟩, hA, hco, f1, f2⟩ := hV
  exact attP_eq h2 h1.2 hA w1 w2 h7 (fun i hi => (h6 i hi).1) ho
theorem CV_in {nb : Nat} {par : Nat → Option Nat} {B : Nat → BS} {od : Nat → Nat} {kd : Nat → Int32} {hd li : Nat → Bool} {ct : Nat → Int32} {rk : Nat → Nat} {rks : Nat} {w h : Int32} {pl : Nat → Int32} {cs : Nat → Option K5} {fo pr : Option Nat} {ar : Nat → Nat → Bool} {co : Nat → Int32} {k : Nat} (hV : CV nb par B od kd hd li ct rk rks w h pl cs fo pr ar co k) (i : Nat) (hi : i < nb) (x y : Int32) : arAt B x y i ↔ inM par pl hd i x y = true := by
  obtain ⟨⟨h1, h2, h3, h4, h6, h7, ⟨w1, w2, w3, w4⟩, h9, h11, hfo, hpr⟩, hA, hco, f1, f2⟩ := hV
  exact (area_in h2 h1.2 hA w1 w2 nb i hi hi).2 x y
theorem CV_hit {nb : Nat} {par : Nat → Option Nat} {B : Nat → BS} {od : Nat → Nat} {kd : Nat → Int32} {hd li : Nat → Bool} {ct : Nat → Int32} {rk : Nat → Nat} {rks : Nat} {w h : Int32} {pl : Nat → Int32} {cs : Nat → Option K5} {fo pr : Option Nat} {ar : Nat → Nat → Bool} {co : Nat → Int32} {k : Nat} (hV : CV nb par B od kd hd li ct rk rks w h pl cs fo pr ar co k) (x y : Int32) : hitP od par B nb x y = htM par pl hd rk x y nb := hit_eq hV.1.2.1 hV.1.1.1 hV.1.1.2 hV.1.2.2.1 (fun i hi => CV_in hV i hi x y)
theorem CV_pic {nb : Nat} {par : Nat → Option Nat} {B : Nat → BS} {od : Nat → Nat} {kd : Nat → Int32} {hd li : Nat → Bool} {ct : Nat → Int32} {rk : Nat → Nat} {rks : Nat} {w h : Int32} {pl : Nat → Int32} {cs : Nat → Option K5} {fo pr : Option Nat} {ar : Nat → Nat → Bool} {co : Nat → Int32} {k : Nat} (hV : CV nb par B od kd hd li ct rk rks w h pl cs fo pr ar co k) (z : Nat) : ptP od par B nb z = pcM par pl hd rk nb co z := by
  unfold ptP picP pcM
  rw [CV_hit hV]
  cases e : htM par pl hd rk (nI (z % 24)) (nI (z / 24)) nb with
  | none => rfl
  | some i => exact (hV.1.2.2.2.2.1 i (htM_lt nb i e)).2.1
theorem PV_hide {nb : Nat} {par : Nat → Option Nat} {B : Nat → BS} {od : Nat → Nat} {kd : Nat → Int32} {hd li : Nat → Bool} {ct : Nat → Int32} {rk : Nat → Nat} {rks : Nat} {w h : Int32} {pl : Nat → Int32} {cs : Nat → Option K5} {fo pr : Option Nat} {ar : Nat → Nat → Bool} {co : Nat → Int32} {k : Nat} {i : Nat} {on : Bool} (hV : CV nb par B od kd hd li ct rk rks w h pl cs fo pr ar co k) (hi : i < nb) : PV nb par (gup B i (stH (B i) on)) od kd (gup hd i on) li ct rk rks w h pl cs fo pr ar co k := by
  obtain ⟨⟨h1, h2, h3, h4, h6, h7, h8, h9, h11, h12⟩, -⟩ := hV
  refine ⟨h1, h2, h3, h4, fun j hj => ?_, h7, h8, h9, fun j hj => ?_, h12⟩
  · by_cases e : j = i
    · subst e
      rw [gup_same, gup_same]
      obtain ⟨a1, a2, a3, a4, a5, a6⟩ := h6 j hj
      exact ⟨a1, a2, a3, rfl, a5, a6⟩
    · rw [gup_ne e, gup_ne e]; exact h6 j hj
  · rw [gup_ne (by omega)]; exact h11 j hj
theorem PV_fp {nb : Nat} {par : Nat → Option Nat} {B : Nat → BS} {od : Nat → Nat} {kd : Nat → Int32} {hd li : Nat → Bool} {ct : Nat → Int32} {rk : Nat → Nat} {rks : Nat} {w h : Int32} {pl : Nat → Int32} {cs : Nat → Option K5} {fo pr : Option Nat} {ar : Nat → Nat → Bool} {co : Nat → Int32} {k : Nat} {fo' pr' : Option Nat} (hV : CV nb par B od kd hd li ct rk rks w h pl cs fo pr ar co k) (hfo : ∀ i, fo' = some i → i < nb) (hpr : ∀ i, pr' = some i → i < nb) : PV nb par B od kd hd li ct rk rks w h pl cs fo' pr' ar co k := by
  obtain ⟨⟨h1, h2, h3, h4, h6, h7, h8, h9, h11, h12⟩, -⟩ := hV
  exact ⟨h1, h2, h3, h4, h6, h7, h8, h9, h11, hfo, hpr⟩
theorem ctA_hi {nb i : Nat} {par : Nat → Option Nat} {ct : Nat → Int32} (hp : PT nb par) (hi : i < nb) {j : Nat} (hj : nb ≤ j) : ∀ n, ctA par i ct n j = ct j
  | 0 => rfl
  | n + 1 => by
    have ih := ctA_hi (ct := ct) hp hi hj n
    unfold ctA
    cases e : anP par i n with
    | none => exact ih
    | some c =>
      have := an_le hp hi n c e
      dsimp only
      rw [gup_ne (by omega)]; exact ih
theorem PV_act {nb : Nat} {par : Nat → Option Nat} {B : Nat → BS} {od : Nat → Nat} {kd : Nat → Int32} {hd li : Nat → Bool} {ct : Nat → Int32} {rk : Nat → Nat} {rks : Nat} {w h : Int32} {pl : Nat → Int32} {cs : Nat → Option K5} {fo pr : Option Nat} {ar : Nat → Nat → Bool} {co : Nat → Int32} {k : Nat} {i : Nat} {fo' pr' : Option Nat} (hV : CV nb par B od kd hd li ct rk rks w h pl cs fo pr ar co k) (hi : i < nb) (hfo : ∀ i, fo' = some i → i < nb) (hpr : ∀ i, pr' = some i → i < nb) : PV nb par (atB par i B) od kd hd (liA kd li i) (ctA par i ct 6) rk rks w h pl cs fo' pr' ar co k := by
  obtain ⟨⟨h1, h2, h3, h4, h6, h7, h8, h9, h11, h12⟩, -⟩ := hV
  refine ⟨h1, h2, h3, h4, at_BR hi h6, liA_KD h7, h8, h9, fun j hj => ?_, hfo, hpr⟩
  obtain ⟨a1, a2, a3, a4⟩ := h11 j hj
  refine ⟨a1, ?_, by rw [ctA_hi h2 hi hj]; exact a3, a4⟩
  unfold liA
  by_cases c : kd i = 2
  · rw [if_pos c, gup_ne (by omega)]; exact a2
  · rw [if_neg c]; exact a2
theorem CV_M {nb : Nat} {par : Nat → Option Nat} {B : Nat → BS} {od : Nat → Nat} {kd : Nat → Int32} {hd li : Nat → Bool} {ct : Nat → Int32} {rk : Nat → Nat} {rks : Nat} {w h : Int32} {pl : Nat → Int32} {cs : Nat → Option K5} {fo pr : Option Nat} {ar : Nat → Nat → Bool} {co : Nat → Int32} {k : Nat} (hV : CV nb par B od kd hd li ct rk rks w h pl cs fo pr ar co k) (hk : k < 512) : (99 : Int) ≤ 99 + 2277 * (k : Int) ∧ (99 + 2277 * (k : Int)) ≤ 1700000 := by omega
theorem PV_sl {nb : Nat} {par : Nat → Option Nat} {B : Nat → BS} {od : Nat → Nat} {kd : Nat → Int32} {hd li : Nat → Bool} {ct : Nat → Int32} {rk : Nat → Nat} {rks : Nat} {w h : Int32} {pl : Nat → Int32} {cs : Nat → Option K5} {fo pr : Option Nat} {ar : Nat → Nat → Bool} {co : Nat → Int32} {k : Nat} {w' h' x : Int32} {cs' : Nat → Option K5} {q : Option Nat} (hV : CV nb par B od kd hd li ct rk rks w h pl cs fo pr ar co k) (hk : k < 512) (hz : szV w' h') (hc : csV nb cs') (hf : feas w' h' nb cs') (hq : ∀ e, q = some e → e < 4 * nb ∧ -99 ≤ x.toInt ∧ x.toInt ≤ 99) (hb : plB nb (2277 + (99 + 2277 * (k : Int))) (slP w' h' nb cs' pl q x)) : PV nb par B od kd hd li ct rk rks w' h' (slP w' h' nb cs' pl q x) cs' fo pr ar co (k + 1) := by
  have hM := CV_M hV hk
  obtain ⟨⟨h1, h2, h3, ⟨h4, h5⟩, h6, h7, h8, ⟨h9, h10⟩, h11, h12⟩, -⟩ := hV
  refine ⟨h1, h2, h3, ⟨h4, by omega⟩, h6, h7, ⟨sl_win h1 (szV_wh hz) hM hc h9 hf (fun e he => ?_), hz, hc, hf⟩, ⟨fun j hj => ?_, fun j hj => ?_⟩, h11, h12⟩
  · have := hq e he
    omega
  · have := hb j hj
    omega
  · unfold slP
    rw [if_neg (by omega)]; exact h10 j hj
theorem PT_up {nb : Nat} {par : Nat → Option Nat} {p : Nat} (hp : PT nb par) (h1 : 1 ≤ nb) (hpn : p < nb) : PT (nb + 1) (gup par nb (some p)) := by
  refine ⟨fun i q hi he => ?_, fun i hi => ?_⟩
  · by_cases e : i = nb
    · subst e; rw [gup_same] at he; cases he; exact hpn
    · rw [gup_ne e] at he; exact hp.1 i q (by omega) he
  · by_cases e : i = nb
    · subst e; rw [gup_same]; exact ⟨(fun z => by cases z), fun z => by omega⟩
    · rw [gup_ne e]; exact hp.2 i (by omega)
theorem CV_raise {nb : Nat} {par : Nat → Option Nat} {B : Nat → BS} {od : Nat → Nat} {kd : Nat → Int32} {hd li : Nat → Bool} {ct : Nat → Int32} {rk : Nat → Nat} {rks : Nat} {w h : Int32} {pl : Nat → Int32} {cs : Nat → Option K5} {fo pr : Option Nat} {ar : Nat → Nat → Bool} {co : Nat → Int32} {k : Nat} {i pos : Nat} (hV : CV nb par B od kd hd li ct rk rks w h pl cs fo pr ar co k) (hpos : pos < nb) (hpi : od pos = i) : CV nb par B (mvP od pos nb i) kd hd li ct (gup rk i (rks + 1)) (rks + 1) w h pl cs fo pr ar co (k + 1) := by
  obtain ⟨⟨h1, h2, h3, ⟨h4, h5⟩, h6, h7, h8, ⟨h9, h10⟩, h11⟩, h13⟩ := hV
  refine ⟨⟨h1, h2, mv_Or h3 h4 hpos hpi, ⟨fun j hj => ?_, by omega⟩, h6, h7, h8, ⟨fun j hj => ?_, h10⟩, h11⟩, h13⟩
  · by_cases e : j = i
    · subst e; rw [gup_same]; omega
    · rw [gup_ne e]; have := h4 j hj; omega
  · have := h9 j hj
    omega
