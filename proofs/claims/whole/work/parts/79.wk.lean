theorem P_hide {E : gE} {T : gT} {gi : gI} {gr : gR} {dv k : Nat} {x : Int32} {on : Bool} (hc : CI T gi gr dv k) (hk : k < 512) : PO E mDV_hide mMO_hide [.int x, .int (bI on)] T gi gr dv k := by
  obtain ⟨nb, bx, cx, od, par, B, fo, pr, w, h, pl, cs, D, F, kd, hd, li, ct, rk, rks, ar, co, D', F', hI, hM, hV, hS, hz⟩ := hc
  have h6 : nb ≤ 6 := hV.1.1.2
  have hD : ∀ j, j < 384 → D j = D' j := fun j hj => (hS j hj).1
  have hrk : ∀ j, j < nb → rk j < 1000000 := fun j hj => by have := hV.1.2.2.2.1.1 j hj; have := hV.1.2.2.2.1.2; omega
  have ce : hdC nb B x on ↔ hdM nb hd x on := by
    constructor
    · rintro ⟨a, b⟩
      exact ⟨a, by rw [← (hV.1.2.2.2.2.1 _ (ix_in h6 a).2).2.2.2.1]; exact b⟩
    · rintro ⟨a, b⟩
      exact ⟨a, by rw [(hV.1.2.2.2.2.1 _ (ix_in h6 a).2).2.2.2.1]; exact b⟩
  refine ⟨_, C_hide hI, fun T1 gi1 gr1 v1 q1 => ?_⟩
  obtain ⟨-, hfr, q1⟩ := q1
  have hM1 := hM.fr (T' := T1) (gi' := gi1) (gr' := gr1) (fun a h1 h2 => hfr.2 a h1 (by omega))
  have hz1 : dv + 61 ≤ T1.2.2 := by have := hfr.1; omega
  rcases q1 with ⟨c1, rfl, hI1⟩ | ⟨c1, rfl, hI1⟩
  · refine ⟨_, rfl, hM1.1.1, _, M_hide hM1, fun T2 gi2 gr2 v2 q2 => ?_⟩
    obtain ⟨e1, e2, hO, q2⟩ := q2
    subst e1
    subst e2
    rcases q2 with ⟨-, rfl, hI2⟩ | ⟨d1, -⟩
    · have hP := PV_hide (on := on) hV (ix_in h6 c1.1).2
      obtain ⟨g1, g2, g3, g4⟩ := PV_look (D := D) (D' := D') hP hD
      rw [g3, g4] at hI1
      exact ⟨rfl, CI_mk (hI1.off hO) hI2 (CV_k g1) (fun j hj => ⟨g2 j hj, (hS j hj).2⟩) hz1⟩
    · exact absurd (ce.mp c1) d1
  · refine ⟨_, rfl, hM1.1.1, _, M_hide hM1, fun T2 gi2 gr2 v2 q2 => ?_⟩
    obtain ⟨e1, e2, hO, q2⟩ := q2
    subst e1
    subst e2
    rcases q2 with ⟨d1, -⟩ | ⟨-, rfl, hI2⟩
    · exact absurd (ce.mpr d1) c1
    · exact ⟨rfl, CI_mk (hI1.off hO) hI2 (CV_k hV) hS hz1⟩
theorem P_raise {E : gE} {T : gT} {gi : gI} {gr : gR} {dv k : Nat} {x : Int32} (hc : CI T gi gr dv k) (hk : k < 512) : PO E mDV_raise mMO_raise [.int x] T gi gr dv k := by
  obtain ⟨nb, bx, cx, od, par, B, fo, pr, w, h, pl, cs, D, F, kd, hd, li, ct, rk, rks, ar, co, D', F', hI, hM, hV, hS, hz⟩ := hc
  have h6 : nb ≤ 6 := hV.1.1.2
  have hD : ∀ j, j < 384 → D j = D' j := fun j hj => (hS j hj).1
  have hrk : ∀ j, j < nb → rk j < 1000000 := fun j hj => by have := hV.1.2.2.2.1.1 j hj; have := hV.1.2.2.2.1.2; omega
  have hPT := hV.1.2.1
  have hOr := hV.1.2.2.1
  have ce : rsC nb od par x ↔ rsM nb par rk x := by
    constructor
    · rintro ⟨a, b⟩
      exact ⟨a, (last_eq hPT hOr (ix_in h6 a).1 (ix_in h6 a).2).mp b⟩
    · rintro ⟨a, b⟩
      exact ⟨a, (last_eq hPT hOr (ix_in h6 a).1 (ix_in h6 a).2).mpr b⟩
  refine ⟨_, C_raise hI hOr.2.2.1, fun T1 gi1 gr1 v1 q1 => ?_⟩
  obtain ⟨-, hfr, q1⟩ := q1
  have hM1 := hM.fr (T' := T1) (gi' := gi1) (gr' := gr1) (fun a h1 h2 => hfr.2 a h1 (by omega))
  have hz1 : dv + 61 ≤ T1.2.2 := by have := hfr.1; omega
  rcases q1 with ⟨c1, rfl, pos, p1, p2, hI1⟩ | ⟨c1, rfl, hI1⟩
  · refine ⟨_, rfl, hM1.1.1, _, M_raise hM1 hrk, fun T2 gi2 gr2 v2 q2 => ?_⟩
    obtain ⟨e1, e2, hO, q2⟩ := q2
    subst e1
    subst e2
    rcases q2 with ⟨-, rfl, hI2⟩ | ⟨d1, -⟩
    · refine ⟨rfl, CI_mk (hI1.off hO) hI2 (CV_raise hV p1 p2) (fun j hj => ⟨?_, (hS j hj).2⟩) hz1⟩
      rw [Bool.eq_iff_iff, dm_iff hj, hD j hj, Bool.or_eq_true]
      have := CV_in hV (ixI x) (ix_in h6 c1.1).2 (nI (j % 24)) (nI (j / 24))
      constructor
      · rintro (z | z)
        · exact Or.inl z
        · exact Or.inr (this.mp z)
      · rintro (z | z)
        · exact Or.inl z
        · exact Or.inr (this.mpr z)
    · exact absurd (ce.mp c1) d1
  · refine ⟨_, rfl, hM1.1.1, _, M_raise hM1 hrk, fun T2 gi2 gr2 v2 q2 => ?_⟩
    obtain ⟨e1, e2, hO, q2⟩ := q2
    subst e1
    subst e2
    rcases q2 with ⟨d1, -⟩ | ⟨-, rfl, hI2⟩
    · exact absurd (ce.mpr d1) c1
    · exact ⟨rfl, CI_mk (hI1.off hO) hI2 (CV_k hV) hS hz1⟩
theorem P_press {E : gE} {T : gT} {gi : gI} {gr : gR} {dv k : Nat} {x y : Int32} (hc : CI T gi gr dv k) (hk : k < 512) : PO E mDV_press mMO_press [.int x, .int y] T gi gr dv k := by
  obtain ⟨nb, bx, cx, od, par, B, fo, pr, w, h, pl, cs, D, F, kd, hd, li, ct, rk, rks, ar, co, D', F', hI, hM, hV, hS, hz⟩ := hc
  have h6 : nb ≤ 6 := hV.1.1.2
  have hD : ∀ j, j < 384 → D j = D' j := fun j hj => (hS j hj).1
  have hrk : ∀ j, j < nb → rk j < 1000000 := fun j hj => by have := hV.1.2.2.2.1.1 j hj; have := hV.1.2.2.2.1.2; omega
  have hh := CV_hit hV x y
  have hlt : ∀ i, htM par pl hd rk x y nb = some i → i < nb := fun i hi => htM_lt nb i hi
  have hu := CV_at hV hlt
  refine ⟨_, C_press hI, fun T1 gi1 gr1 v1 q1 => ?_⟩
  obtain ⟨-, hfr, q1⟩ := q1
  have hM1 := hM.fr (T' := T1) (gi' := gi1) (gr' := gr1) (fun a h1 h2 => hfr.2 a h1 (by omega))
  have hz1 : dv + 61 ≤ T1.2.2 := by have := hfr.1; omega
  rw [hh, hu] at q1
  rcases q1 with ⟨c1, rfl, hI1⟩ | ⟨c1, rfl, hI1⟩
  · refine ⟨_, rfl, hM1.1.1, _, M_press hM1 hrk, fun T2 gi2 gr2 v2 q2 => ?_⟩
    obtain ⟨e1, e2, hO, q2⟩ := q2
    subst e1
    subst e2
    rcases q2 with ⟨-, rfl, hI2⟩ | ⟨d1, -⟩
    · have hP := PV_fp (fo' := atM par pl hd kd (htM par pl hd rk x y nb)) (pr' := atM par pl hd kd (htM par pl hd rk x y nb)) hV (atM_lt hlt) (atM_lt hlt)
      obtain ⟨g1, g2, g3, g4⟩ := PV_look (D := D) (D' := D') hP hD
      rw [g3] at hI1
      exact ⟨rfl, CI_mk (hI1.off hO) hI2 (CV_k g1) (fun j hj => ⟨g2 j hj, (hS j hj).2⟩) hz1⟩
    · exact absurd c1 d1
  · refine ⟨_, rfl, hM1.1.1, _, M_press hM1 hrk, fun T2 gi2 gr2 v2 q2 => ?_⟩
    obtain ⟨e1, e2, hO, q2⟩ := q2
    subst e1
    subst e2
    rcases q2 with ⟨d1, -⟩ | ⟨-, rfl, hI2⟩
    · exact absurd d1 c1
    · exact ⟨rfl, CI_mk (hI1.off hO) hI2 (CV_k hV) hS hz1⟩
theorem PV_rel {nb : Nat} {par : Nat → Option Nat} {B : Nat → BS} {od : Nat → Nat} {kd : Nat → Int32} {hd li : Nat → Bool} {ct : Nat → Int32} {rk : Nat → Nat} {rks : Nat} {w h : Int32} {pl : Nat → Int32} {cs : Nat → Option K5} {fo pr : Option Nat} {ar : Nat → Nat → Bool} {co : Nat → Int32} {k : Nat} {u : Option Nat} (hV : CV nb par B od kd hd li ct rk rks w h pl cs fo pr ar co k) : PV nb par (rlB par B pr u) od kd hd (rlL kd li pr u) (rlT par ct pr u) rk rks w h pl cs fo none ar co k := by
  have hfo := hV.1.2.2.2.2.2.2.2.2.2.1
  have hpr := hV.1.2.2.2.2.2.2.2.2.2.2
  unfold rlB rlL rlT
  cases e : pr with
  | none =>
    rw [e] at hV
    exact PV_fp hV hfo (fun i hi => by cases hi)
  | some i =>
    have hi := hpr i e
    rw [e] at hV
    dsimp only
    by_cases c : u = some i
    · rw [if_pos c, if_pos c, if_pos c]
      exact PV_act hV hi hfo (fun i hi => by cases hi)
    · rw [if_neg c, if_neg c, if_neg c]
      exact PV_fp hV hfo (fun i hi => by cases hi)
theorem PV_key {nb : Nat} {par : Nat → Option Nat} {B : Nat → BS} {od : Nat → Nat} {kd : Nat → Int32} {hd li : Nat → Bool} {ct : Nat → Int32} {rk : Nat → Nat} {rks : Nat} {w h : Int32} {pl : Nat → Int32} {cs : Nat → Option K5} {fo pr : Option Nat} {ar : Nat → Nat → Bool} {co : Nat → Int32} {k : Nat} (hV : CV nb par B od kd hd li ct rk rks w h pl cs fo pr ar co k) : PV nb par (kyB par B fo) od kd hd (kyL kd li fo) (kyT par ct fo) rk rks w h pl cs fo pr ar co k := by
  have hfo := hV.1.2.2.2.2.2.2.2.2.2.1
  have hpr := hV.1.2.2.2.2.2.2.2.2.2.2
  unfold kyB kyL kyT
  cases e : fo with
  | none =>
    rw [e] at hV
    exact PV_fp hV (fun i hi => by cases hi) hpr
  | some i =>
    have hi := hfo i e
    rw [e] at hV hfo
    dsimp only
    exact PV_act hV hi hfo hpr
theorem P_release {E : gE} {T : gT} {gi : gI} {gr : gR} {dv k : Nat} {x y : Int32} (hc : CI T gi gr dv k) (hk : k < 512) : PO E mDV_release mMO_release [.int x, .int y] T gi gr dv k := by
  obtain ⟨nb, bx, cx, od, par, B, fo, pr, w, h, pl, cs, D, F, kd, hd, li, ct, rk, rks, ar, co, D', F', hI, hM, hV, hS, hz⟩ := hc
  have h6 : nb ≤ 6 := hV.1.1.2
  have hD : ∀ j, j < 384 → D j = D' j := fun j hj => (hS j hj).1
  have hrk : ∀ j, j < nb → rk j < 1000000 := fun j hj => by have := hV.1.2.2.2.1.1 j hj; have := hV.1.2.2.2.1.2; omega
  have hh := CV_hit hV x y
  refine ⟨_, C_release hI, fun T1 gi1 gr1 v1 q1 => ?_⟩
  obtain ⟨-, hfr, q1⟩ := q1
  have hM1 := hM.fr (T' := T1) (gi' := gi1) (gr' := gr1) (fun a h1 h2 => hfr.2 a h1 (by omega))
  have hz1 : dv + 61 ≤ T1.2.2 := by have := hfr.1; omega
  rw [hh] at q1
  rcases q1 with ⟨c1, rfl, hI1⟩ | ⟨c1, rfl, hI1⟩
  · refine ⟨_, rfl, hM1.1.1, _, M_release hM1 hrk, fun T2 gi2 gr2 v2 q2 => ?_⟩
    obtain ⟨e1, e2, hO, q2⟩ := q2
    subst e1
    subst e2
    rcases q2 with ⟨-, rfl, hI2⟩ | ⟨d1, -⟩
    · have hP := PV_rel (u := htM par pl hd rk x y nb) hV
      obtain ⟨g1, g2, g3, g4⟩ := PV_look (D := D) (D' := D') hP hD
      rw [g3, g4] at hI1
      exact ⟨rfl, CI_mk (hI1.off hO) hI2 (CV_k g1) (fun j hj => ⟨g2 j hj, (hS j hj).2⟩) hz1⟩
    · exact absurd d1 c1
  · refine ⟨_, rfl, hM1.1.1, _, M_release hM1 hrk, fun T2 gi2 gr2 v2 q2 => ?_⟩
    obtain ⟨e1, e2, hO, q2⟩ := q2
    subst e1
    subst e2
    rcases q2 with ⟨d1, -⟩ | ⟨-, rfl, hI2⟩
    · exact absurd c1 d1
    · exact ⟨rfl, CI_mk (hI1.off hO) hI2 (CV_k hV) hS hz1⟩
theorem P_key {E : gE} {T : gT} {gi : gI} {gr : gR} {dv k : Nat} (hc : CI T gi gr dv k) (hk : k < 512) : PO E mDV_key mMO_key [] T gi gr dv k := by
  obtain ⟨nb, bx, cx, od, par, B, fo, pr, w, h, pl, cs, D, F, kd, hd, li, ct, rk, rks, ar, co, D', F', hI, hM, hV, hS, hz⟩ := hc
  have h6 : nb ≤ 6 := hV.1.1.2
  have hD : ∀ j, j < 384 → D j = D' j := fun j hj => (hS j hj).1
  have hrk : ∀ j, j < nb → rk j < 1000000 := fun j hj => by have := hV.1.2.2.2.1.1 j hj; have := hV.1.2.2.2.1.2; omega
  refine ⟨_, C_key hI, fun T1 gi1 gr1 v1 q1 => ?_⟩
  obtain ⟨-, hfr, q1⟩ := q1
  have hM1 := hM.fr (T' := T1) (gi' := gi1) (gr' := gr1) (fun a h1 h2 => hfr.2 a h1 (by omega))
  have hz1 : dv + 61 ≤ T1.2.2 := by have := hfr.1; omega
  have hP := PV_key hV
  obtain ⟨g1, g2, g3, g4⟩ := PV_look (D := D) (D' := D') hP hD
  rw [g3, g4] at q1
  rcases q1 with ⟨c1, rfl, hI1⟩ | ⟨c1, rfl, hI1⟩
  · refine ⟨_, rfl, hM1.1.1, _, M_key hM1, fun T2 gi2 gr2 v2 q2 => ?_⟩
    obtain ⟨e1, e2, hO, q2⟩ := q2
    subst e1
    subst e2
    rcases q2 with ⟨-, rfl, hI2⟩ | ⟨d1, -⟩
    · refine ⟨?_, CI_mk (hI1.off hO) hI2 (CV_k g1) (fun j hj => ⟨g2 j hj, (hS j hj).2⟩) hz1⟩
      rw [hV.2.2.2.1]
    · exact absurd d1 c1
  · refine ⟨_, rfl, hM1.1.1, _, M_key hM1, fun T2 gi2 gr2 v2 q2 => ?_⟩
    obtain ⟨e1, e2, hO, q2⟩ := q2
    subst e1
    subst e2
    rcases q2 with ⟨d1, -⟩ | ⟨-, rfl, hI2⟩
    · exact absurd c1 d1
    · exact ⟨rfl, CI_mk (hI1.off hO) hI2 (CV_k hV) hS hz1⟩
theorem CV_ch {nb : Nat} {par : Nat → Option Nat} {B : Nat → BS} {od : Nat → Nat} {kd : Nat → Int32} {hd li : Nat → Bool} {ct : Nat → Int32} {rk : Nat → Nat} {rks : Nat} {w h : Int32} {pl : Nat → Int32} {cs : Nat → Option K5} {fo pr : Option Nat} {ar : Nat → Nat → Bool} {co : Nat → Int32} {k : Nat} (hV : CV nb par B od kd hd li ct rk rks w h pl cs fo pr ar co k) (i : Nat) (hi : i < nb) : chA (B i).1 (B i).2.2.2.2.2.1 ↔ canM par pl hd kd (some i) = true := by
  obtain ⟨⟨h1, h2, h3, h4, h6, h7, ⟨w1, w2, w3, w4⟩, h9, h11, hfo, hpr⟩, hA, hco, f1, f2⟩ := hV
  exact att_eq h2 h1.2 hA w1 w2 h7 (fun i hi => (h6 i hi).1) hi
theorem P_step {E : gE} {T : gT} {gi : gI} {gr : gR} {dv k : Nat} {back : Bool} (hc : CI T gi gr dv k) (hk : k < 512) : PO E mDV_step mMO_step [.int (bI back)] T gi gr dv k := by
  obtain ⟨nb, bx, cx, od, par, B, fo, pr, w, h, pl, cs, D, F, kd, hd, li, ct, rk, rks, ar, co, D', F', hI, hM, hV, hS, hz⟩ := hc
  have h6 : nb ≤ 6 := hV.1.1.2
  have hD : ∀ j, j < 384 → D j = D' j := fun j hj => (hS j hj).1
  have hrk : ∀ j, j < nb → rk j < 1000000 := fun j hj => by have := hV.1.2.2.2.1.1 j hj; have := hV.1.2.2.2.1.2; omega
  have hfo := hV.1.2.2.2.2.2.2.2.2.2.1
  have hpr := hV.1.2.2.2.2.2.2.2.2.2.2
  have hst := step_eq (back := back) hV.1.1.1 h6 hfo (CV_ch hV) hV.2.2.2.1
  refine ⟨_, C_step hI, fun T1 gi1 gr1 v1 q1 => ?_⟩
  rw [hst] at q1
  obtain ⟨-, hfr, rfl, hI1⟩ := q1
  have hM1 := hM.fr (T' := T1) (gi' := gi1) (gr' := gr1) (fun a h1 h2 => hfr.2 a h1 (by omega))
  have hz1 : dv + 61 ≤ T1.2.2 := by have := hfr.1; omega
  refine ⟨_, rfl, hM1.1.1, _, M_step hM1, fun T2 gi2 gr2 v2 q2 => ?_⟩
  obtain ⟨e1, e2, hO, q2⟩ := q2
  subst e1
  subst e2
  obtain ⟨rfl, hI2⟩ := q2
  have hP := PV_fp (fo' := smF par pl hd kd nb fo back) (pr' := pr) hV (smF_lt h6 hfo hV.1.1.1) hpr
  obtain ⟨g1, g2, g3, g4⟩ := PV_look (D := D) (D' := D') hP hD
  rw [g3, g4] at hI1
  exact ⟨by rw [g3], CI_mk (hI1.off hO) hI2 (CV_k g1) (fun j hj => ⟨g2 j hj, (hS j hj).2⟩) hz1⟩
theorem P_paint {E : gE} {T : gT} {gi : gI} {gr : gR} {dv k : Nat} (hc : CI T gi gr dv k) (hk : k < 512) : PO E mDV_paint mMO_paint [] T gi gr dv k := by
  obtain ⟨nb, bx, cx, od, par, B, fo, pr, w, h, pl, cs, D, F, kd, hd, li, ct, rk, rks, ar, co, D', F', hI, hM, hV, hS, hz⟩ := hc
  have h6 : nb ≤ 6 := hV.1.1.2
  have hD : ∀ j, j < 384 → D j = D' j := fun j hj => (hS j hj).1
  have hrk : ∀ j, j < nb → rk j < 1000000 := fun j hj => by have := hV.1.2.2.2.1.1 j hj; have := hV.1.2.2.2.1.2; omega
  refine ⟨_, C_paint hI, fun T1 gi1 gr1 v1 q1 => ?_⟩
  obtain ⟨-, hfr, rfl, hI1⟩ := q1
  have ha : ∀ j, j < 384 → D j = D' j ∧ F j = F' j ∧ ptP od par B nb j = pcM par pl hd rk nb co j := fun j hj => ⟨(hS j hj).1, (hS j hj).2, CV_pic hV j⟩
  have hM1 := hM.fr (T' := T1) (gi' := gi1) (gr' := gr1) (fun a h1 h2 => hfr.2 a h1 (by omega))
  have hz1 : dv + 61 ≤ T1.2.2 := by have := hfr.1; omega
  refine ⟨_, rfl, hM1.1.1, _, M_paint hM1 hrk, fun T2 gi2 gr2 v2 q2 => ?_⟩
  obtain ⟨e1, e2, hO, q2⟩ := q2
  subst e1
  subst e2
  obtain ⟨rfl, hI2⟩ := q2
  exact ⟨by rw [ptN_eq 384 ha], CI_mk (hI1.off hO) hI2 (CV_k hV) (fun j hj => ⟨ptD_eq j hj, ptF_eq ha j hj⟩) hz1⟩
theorem P_box {E : gE} {T : gT} {gi : gI} {gr : gR} {dv k : Nat} {x y : Int32} (hc : CI T gi gr dv k) (hk : k < 512) : PO E mDV_box mMO_box [.int x, .int y] T gi gr dv k := by
  obtain ⟨nb, bx, cx, od, par, B, fo, pr, w, h, pl, cs, D, F, kd, hd, li, ct, rk, rks, ar, co, D', F', hI, hM, hV, hS, hz⟩ := hc
  have h6 : nb ≤ 6 := hV.1.1.2
  have hD : ∀ j, j < 384 → D j = D' j := fun j hj => (hS j hj).1
  have hrk : ∀ j, j < nb → rk j < 1000000 := fun j hj => by have := hV.1.2.2.2.1.1 j hj; have := hV.1.2.2.2.1.2; omega
  refine ⟨_, C_box hI hz, fun T1 gi1 gr1 v1 q1 => ?_⟩
  obtain ⟨hfr, q1⟩ := q1
  have hM1 := hM.fr (T' := T1) (gi' := gi1) (gr' := gr1) (fun a h1 h2 => hfr.2 a h1 (by omega))
  have hz1 : dv + 61 ≤ T1.2.2 := by have := hfr.1; omega
  rcases q1 with ⟨c1, rfl, hI1⟩ | ⟨c1, rfl, hI1⟩
  · refine ⟨_, rfl, hM1.1.1, _, M_box hM1, fun T2 gi2 gr2 v2 q2 => ?_⟩
    obtain ⟨e1, e2, hO, q2⟩ := q2
    subst e1
    subst e2
    rcases q2 with ⟨-, rfl, hI2⟩ | ⟨d1, -⟩
    · have hN := CV_box (p := ixI y) (kd0 := x) hV c1.1 (ix_bx h6 c1.2.2.2) (kd_i c1.2.1 c1.2.2.1)
      have hid := CV_id (D' := D') hN
      rw [hN.2.2.2.1, hN.2.2.2.2] at hI2
      exact ⟨rfl, CI_mk (hI1.off hO) hI2 (CV_cong hN hid.1 hid.2.1) (fun j hj => ⟨(hD j hj).trans (hid.2.2 j).symm, (hS j hj).2⟩) hz1⟩
    · exact absurd c1 d1
  · refine ⟨_, rfl, hM1.1.1, _, M_box hM1, fun T2 gi2 gr2 v2 q2 => ?_⟩
    obtain ⟨e1, e2, hO, q2⟩ := q2
    subst e1
    subst e2
    rcases q2 with ⟨d1, -⟩ | ⟨-, rfl, hI2⟩
    · exact absurd d1 c1
    · exact ⟨rfl, CI_mk (hI1.off hO) hI2 (CV_k hV) hS hz1⟩
theorem P_constrain {E : gE} {T : gT} {gi : gI} {gr : gR} {dv k : Nat} {p q c f s : Int32} (hc : CI T gi gr dv k) (hk : k < 512) : PO E mDV_constrain mMO_constrain [.int p, .int q, .int c, .int f, .int s] T gi gr dv k := by
  obtain ⟨nb, bx, cx, od, par, B, fo, pr, w, h, pl, cs, D, F, kd, hd, li, ct, rk, rks, ar, co, D', F', hI, hM, hV, hS, hz⟩ := hc
  have h6 : nb ≤ 6 := hV.1.1.2
  have hD : ∀ j, j < 384 → D j = D' j := fun j hj => (hS j hj).1
  have hrk : ∀ j, j < nb → rk j < 1000000 := fun j hj => by have := hV.1.2.2.2.1.1 j hj; have := hV.1.2.2.2.1.2; omega
  have hMb := CV_M hV hk
  have hnb := hV.1.1
  have hsz := hV.1.2.2.2.2.2.2.1.2.1
  have hwh := szV_wh hsz
  have hcs := hV.1.2.2.2.2.2.2.1.2.2.1
  have hfe := hV.1.2.2.2.2.2.2.1.2.2.2
  have hpl := hV.1.2.2.2.2.2.2.2.1.1
  have hcv : cnC nb p q c f s → ∀ i, csV nb (gup cs i (some (kOf p q c f s))) := fun z i => csV_some hcs (kOf_V h6 z)
  refine ⟨_, C_constrain hI hz (fun z i _ _ => (sl_ok hnb hwh hMb (hcv z i) hpl).1), fun T1 gi1 gr1 v1 q1 => ?_⟩
  obtain ⟨hfr, q1⟩ := q1
  have hM1 := hM.fr (T' := T1) (gi' := gi1) (gr' := gr1) (fun a h1 h2 => hfr.2 a h1 (by omega))
  have hz1 : dv + 61 ≤ T1.2.2 := by have := hfr.1; omega
  rcases q1 with ⟨c1, rfl, hI1⟩ | ⟨c1, c2, rfl, hI1⟩ | ⟨c1, i, i1, i2, i3, R, q1⟩
  · refine ⟨_, rfl, hM1.1.1, _, M_constrain hM1, fun T2 gi2 gr2 v2 q2 => ?_⟩
    obtain ⟨e1, e2, hO, q2⟩ := q2
    subst e1
    subst e2
    rcases q2 with ⟨-, rfl, hI2⟩ | ⟨d1, -⟩ | ⟨d1, -⟩
    · exact ⟨rfl, CI_mk (hI1.off hO) hI2 (CV_k hV) hS hz1⟩
    · exact absurd d1 c1
    · exact absurd d1 c1
  · refine ⟨_, rfl, hM1.1.1, _, M_constrain hM1, fun T2 gi2 gr2 v2 q2 => ?_⟩
    obtain ⟨e1, e2, hO, q2⟩ := q2
    subst e1
    subst e2
    rcases q2 with ⟨d1, -⟩ | ⟨-, -, rfl, hI2⟩ | ⟨-, i, i1, i2, -⟩
    · exact absurd c1 d1
    · exact ⟨rfl, CI_mk (hI1.off hO) hI2 (CV_k hV) hS hz1⟩
    · exact absurd i2 (c2 i i1)
  · have dcf := (da_cf R hnb hwh (hcv c1 i)).1
    rcases q1 with ⟨z0, rfl, hI1⟩ | ⟨z0, rfl, hI1⟩
    · refine ⟨_, rfl, hM1.1.1, _, M_constrain hM1, fun T2 gi2 gr2 v2 q2 => ?_⟩
      obtain ⟨e1, e2, hO, q2⟩ := q2
      subst e1
      subst e2
      rcases q2 with ⟨d1, -⟩ | ⟨-, d2, -⟩ | ⟨-, i', j1, j2, j3, q2⟩
      · exact absurd c1 d1
      · exact absurd i2 (d2 i i1)
      · have ei : i' = i := by
          by_cases a : i' < i
          · exact absurd j2 (i3 i' a)
          · by_cases b : i < i'
            · exact absurd i2 (j3 i b)
            · omega
        subst ei
        rcases q2 with ⟨-, rfl, hI2⟩ | ⟨d4, -⟩
        · obtain ⟨s1, s2⟩ := (sl_ok hnb (szV_wh hsz) hMb (hcv c1 i') hpl).2 R 0 z0
          rw [s1] at hI1
          have hP := PV_sl (x := 0) (q := none) hV hk hsz (hcv c1 i') (dcf.mp z0) (fun e he => by cases he) s2
          obtain ⟨g1, g2, g3, g4⟩ := PV_look (D := D) (D' := D') hP hD
          rw [g3, g4] at hI1
          exact ⟨rfl, CI_mk (hI1.off hO) hI2 g1 (fun j hj => ⟨g2 j hj, (hS j hj).2⟩) hz1⟩
        · rw [dcf.mp z0] at d4; cases d4
    · refine ⟨_, rfl, hM1.1.1, _, M_constrain hM1, fun T2 gi2 gr2 v2 q2 => ?_⟩
      obtain ⟨e1, e2, hO, q2⟩ := q2
      subst e1
      subst e2
      rcases q2 with ⟨d1, -⟩ | ⟨-, d2, -⟩ | ⟨-, i', j1, j2, j3, q2⟩
      · exact absurd c1 d1
      · exact absurd i2 (d2 i i1)
      · have ei : i' = i := by
          by_cases a : i' < i
          · exact absurd j2 (i3 i' a)
          · by_cases b : i < i'
            · exact absurd i2 (j3 i b)
            · omega
        subst ei
        rcases q2 with ⟨d4, -⟩ | ⟨-, rfl, hI2⟩
        · exact absurd (dcf.mpr d4) z0
        · exact ⟨rfl, CI_mk (hI1.off hO) hI2 (CV_k hV) hS hz1⟩
theorem P_remove {E : gE} {T : gT} {gi : gI} {gr : gR} {dv k : Nat} {x : Int32} (hc : CI T gi gr dv k) (hk : k < 512) : PO E mDV_remove mMO_remove [.int x] T gi gr dv k := by
  obtain ⟨nb, bx, cx, od, par, B, fo, pr, w, h, pl, cs, D, F, kd, hd, li, ct, rk, rks, ar, co, D', F', hI, hM, hV, hS, hz⟩ := hc
  have h6 : nb ≤ 6 := hV.1.1.2
  have hD : ∀ j, j < 384 → D j = D' j := fun j hj => (hS j hj).1
  have hrk : ∀ j, j < nb → rk j < 1000000 := fun j hj => by have := hV.1.2.2.2.1.1 j hj; have := hV.1.2.2.2.1.2; omega
  have hMb := CV_M hV hk
  have hnb := hV.1.1
  have hsz := hV.1.2.2.2.2.2.2.1.2.1
  have hwh := szV_wh hsz
  have hcs := hV.1.2.2.2.2.2.2.1.2.2.1
  have hfe := hV.1.2.2.2.2.2.2.1.2.2.2
  have hpl := hV.1.2.2.2.2.2.2.2.1.1
  have hcv := csV_none (i := ixI x) hcs
  have hfn := feas_none (i := ixI x) hnb hwh hcs hfe
  refine ⟨_, C_remove hI (fun _ => (sl_ok hnb hwh hMb hcv hpl).1), fun T1 gi1 gr1 v1 q1 => ?_⟩
  obtain ⟨-, hfr, q1⟩ := q1
  have hM1 := hM.fr (T' := T1) (gi' := gi1) (gr' := gr1) (fun a h1 h2 => hfr.2 a h1 (by omega))
  have hz1 : dv + 61 ≤ T1.2.2 := by have := hfr.1; omega
  rcases q1 with ⟨c1, rfl, hI1⟩ | ⟨c1, rfl, R, q1⟩
  · refine ⟨_, rfl, hM1.1.1, _, M_remove hM1, fun T2 gi2 gr2 v2 q2 => ?_⟩
    obtain ⟨e1, e2, hO, q2⟩ := q2
    subst e1
    subst e2
    rcases q2 with ⟨-, rfl, hI2⟩ | ⟨d1, -⟩
    · exact ⟨rfl, CI_mk (hI1.off hO) hI2 (CV_k hV) hS hz1⟩
    · exact absurd d1 c1
  · have dcf := (da_cf R hnb hwh hcv).1
    refine ⟨_, rfl, hM1.1.1, _, M_remove hM1, fun T2 gi2 gr2 v2 q2 => ?_⟩
    obtain ⟨e1, e2, hO, q2⟩ := q2
    subst e1
    subst e2
    rcases q2 with ⟨d1, -⟩ | ⟨-, q2⟩
    · exact absurd c1 d1
    · rcases q2 with ⟨-, rfl, hI2⟩ | ⟨d4, -⟩
      · rcases q1 with ⟨z0, hI1⟩ | ⟨z0, -⟩
        · obtain ⟨s1, s2⟩ := (sl_ok hnb (szV_wh hsz) hMb hcv hpl).2 R 0 z0
          rw [s1] at hI1
          have hP := PV_sl (x := 0) (q := none) hV hk hsz hcv hfn (fun e he => by cases he) s2
          obtain ⟨g1, g2, g3, g4⟩ := PV_look (D := D) (D' := D') hP hD
          rw [g3, g4] at hI1
          exact ⟨rfl, CI_mk (hI1.off hO) hI2 g1 (fun j hj => ⟨g2 j hj, (hS j hj).2⟩) hz1⟩
        · exact absurd (dcf.mpr hfn) z0
      · have d5 : cfM (rqM w h nb (gup cs (ixI x) none)) = false := hfn
        rw [d5] at d4; cases d4
theorem P_suggest {E : gE} {T : gT} {gi : gI} {gr : gR} {dv k : Nat} {e x : Int32} (hc : CI T gi gr dv k) (hk : k < 512) : PO E mDV_suggest mMO_suggest [.int e, .int x] T gi gr dv k := by
  obtain ⟨nb, bx, cx, od, par, B, fo, pr, w, h, pl, cs, D, F, kd, hd, li, ct, rk, rks, ar, co, D', F', hI, hM, hV, hS, hz⟩ := hc
  have h6 : nb ≤ 6 := hV.1.1.2
  have hD : ∀ j, j < 384 → D j = D' j := fun j hj => (hS j hj).1
  have hrk : ∀ j, j < nb → rk j < 1000000 := fun j hj => by have := hV.1.2.2.2.1.1 j hj; have := hV.1.2.2.2.1.2; omega
  have hMb := CV_M hV hk
  have hnb := hV.1.1
  have hsz := hV.1.2.2.2.2.2.2.1.2.1
  have hwh := szV_wh hsz
  have hcs := hV.1.2.2.2.2.2.2.1.2.2.1
  have hfe := hV.1.2.2.2.2.2.2.1.2.2.2
  have hpl := hV.1.2.2.2.2.2.2.2.1.1
  have hnr : sgC nb e x → nrK w h nb cs pl (ixI e) x ∧ (∀ R, nrL R w h nb cs pl (ixI e) x = slP w h nb cs pl (some (ixI e)) x) ∧ plB nb (2277 + (99 + 2277 * (k : Int))) (slP w h nb cs pl (some (ixI e)) x) := by
    intro z
    obtain ⟨j, hj, -, ej⟩ := ix_ed h6 z.1
    have hx := nr_i z.2
    exact nr_ok hnb hwh hMb hcs hpl hfe (by omega) (by omega)
  refine ⟨_, C_suggest hI (fun z => (hnr z).1), fun T1 gi1 gr1 v1 q1 => ?_⟩
  obtain ⟨-, hfr, q1⟩ := q1
  have hM1 := hM.fr (T' := T1) (gi' := gi1) (gr' := gr1) (fun a h1 h2 => hfr.2 a h1 (by omega))
  have hz1 : dv + 61 ≤ T1.2.2 := by have := hfr.1; omega
  rcases q1 with ⟨c1, rfl, hI1⟩ | ⟨c1, rfl, R, hI1⟩
  · refine ⟨_, rfl, hM1.1.1, _, M_suggest hM1, fun T2 gi2 gr2 v2 q2 => ?_⟩
    obtain ⟨e1, e2, hO, q2⟩ := q2
    subst e1
    subst e2
    rcases q2 with ⟨-, rfl, hI2⟩ | ⟨d1, -⟩
    · exact ⟨rfl, CI_mk (hI1.off hO) hI2 (CV_k hV) hS hz1⟩
    · exact absurd d1 c1
  · refine ⟨_, rfl, hM1.1.1, _, M_suggest hM1, fun T2 gi2 gr2 v2 q2 => ?_⟩
    obtain ⟨e1, e2, hO, q2⟩ := q2
    subst e1
    subst e2
    rcases q2 with ⟨d1, -⟩ | ⟨-, q2⟩
    · exact absurd c1 d1
    · rcases q2 with ⟨-, rfl, hI2⟩ | ⟨d4, -⟩
      · obtain ⟨-, s1, s2⟩ := hnr c1
        obtain ⟨j, hj, -, ej⟩ := ix_ed h6 c1.1
        rw [s1 R] at hI1
        have hP := PV_sl (x := x) (q := some (ixI e)) hV hk hsz hcs hfe (fun e' he => by cases he; exact ⟨by omega, nr_i c1.2⟩) s2
        obtain ⟨g1, g2, g3, g4⟩ := PV_look (D := D) (D' := D') hP hD
        rw [g3, g4] at hI1
        exact ⟨rfl, CI_mk (hI1.off hO) hI2 g1 (fun j hj => ⟨g2 j hj, (hS j hj).2⟩) hz1⟩
      · have d5 : cfM (rqM w h nb cs) = false := hfe
        rw [d5] at d4; cases d4
theorem P_resize {E : gE} {T : gT} {gi : gI} {gr : gR} {dv k : Nat} {x y : Int32} (hc : CI T gi gr dv k) (hk : k < 512) : PO E mDV_resize mMO_resize [.int x, .int y] T gi gr dv k := by
  obtain ⟨nb, bx, cx, od, par, B, fo, pr, w, h, pl, cs, D, F, kd, hd, li, ct, rk, rks, ar, co, D', F', hI, hM, hV, hS, hz⟩ := hc
  have h6 : nb ≤ 6 := hV.1.1.2
  have hD : ∀ j, j < 384 → D j = D' j := fun j hj => (hS j hj).1
  have hrk : ∀ j, j < nb → rk j < 1000000 := fun j hj => by have := hV.1.2.2.2.1.1 j hj; have := hV.1.2.2.2.1.2; omega
  have hMb := CV_M hV hk
  have hnb := hV.1.1
  have hsz := hV.1.2.2.2.2.2.2.1.2.1
  have hwh := szV_wh hsz
  have hcs := hV.1.2.2.2.2.2.2.1.2.2.1
  have hfe := hV.1.2.2.2.2.2.2.1.2.2.2
  have hpl := hV.1.2.2.2.2.2.2.2.1.1
  refine ⟨_, C_resize hI (fun z => (sl_ok hnb (szV_wh (rz_i z)) hMb hcs hpl).1), fun T1 gi1 gr1 v1 q1 => ?_⟩
  obtain ⟨-, hfr, q1⟩ := q1
  have hM1 := hM.fr (T' := T1) (gi' := gi1) (gr' := gr1) (fun a h1 h2 => hfr.2 a h1 (by omega))
  have hz1 : dv + 61 ≤ T1.2.2 := by have := hfr.1; omega
  rcases q1 with ⟨c1, rfl, hI1⟩ | ⟨c1, R, q1⟩
  · refine ⟨_, rfl, hM1.1.1, _, M_resize hM1, fun T2 gi2 gr2 v2 q2 => ?_⟩
    obtain ⟨e1, e2, hO, q2⟩ := q2
    subst e1
    subst e2
    rcases q2 with ⟨-, rfl, hI2⟩ | ⟨d1, -⟩
    · exact ⟨rfl, CI_mk (hI1.off hO) hI2 (CV_k hV) hS hz1⟩
    · exact absurd d1 c1
  · have dcf := (da_cf R hnb (szV_wh (rz_i c1)) hcs).1
    rcases q1 with ⟨z0, rfl, hI1⟩ | ⟨z0, rfl, hI1⟩
    · refine ⟨_, rfl, hM1.1.1, _, M_resize hM1, fun T2 gi2 gr2 v2 q2 => ?_⟩
      obtain ⟨e1, e2, hO, q2⟩ := q2
      subst e1
      subst e2
      rcases q2 with ⟨d1, -⟩ | ⟨-, q2⟩
      · exact absurd c1 d1
      · rcases q2 with ⟨-, rfl, hI2⟩ | ⟨d4, -⟩
        · obtain ⟨s1, s2⟩ := (sl_ok hnb (szV_wh (rz_i c1)) hMb hcs hpl).2 R 0 z0
          rw [s1] at hI1
          have hP := PV_sl (x := 0) (q := none) hV hk (rz_i c1) hcs (dcf.mp z0) (fun e he => by cases he) s2
          obtain ⟨g1, g2, g3, g4⟩ := PV_look (D := D) (D' := D') hP hD
          rw [g3, g4] at hI1
          exact ⟨rfl, CI_mk (hI1.off hO) hI2 g1 (fun j hj => ⟨g2 j hj, (hS j hj).2⟩) hz1⟩
        · rw [dcf.mp z0] at d4; cases d4
    · refine ⟨_, rfl, hM1.1.1, _, M_resize hM1, fun T2 gi2 gr2 v2 q2 => ?_⟩
      obtain ⟨e1, e2, hO, q2⟩ := q2
      subst e1
      subst e2
      rcases q2 with ⟨d1, -⟩ | ⟨-, q2⟩
      · exact absurd c1 d1
      · rcases q2 with ⟨d4, -⟩ | ⟨d4, rfl, hI2⟩
        · exact absurd (dcf.mpr d4) z0
        · have hid := CV_id (D' := D') hV
          rw [hV.2.2.2.1, hV.2.2.2.2] at hI2
          exact ⟨rfl, CI_mk (hI1.off hO) hI2 (CV_k (CV_cong hV hid.1 hid.2.1)) (fun j hj => ⟨(hD j hj).trans (hid.2.2 j).symm, (hS j hj).2⟩) hz1⟩
