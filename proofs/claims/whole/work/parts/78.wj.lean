theorem CInv.off {T : gT} {gi gi' : gI} {gr : gR} {dv nb : Nat} {bx cx od : Nat → Nat} {par : Nat → Option Nat} {B : Nat → BS} {fo pr : Option Nat} {w h : Int32} {pl : Nat → Int32} {cs : Nat → Option K5} {D : Nat → Bool} {F : Nat → Int32} (hI : CInv T gi gr dv nb bx cx od par B fo pr w h pl cs D F) (hO : MOff gi gi' (dv + 38)) : CInv T gi' gr dv nb bx cx od par B fo pr w h pl cs D F := by
  obtain ⟨hS, hB, hF, hL, hP, hC, ⟨S, ec, q1, q2, q3⟩, hD, hM, hA⟩ := hI
  have o : ∀ a, a < dv + 38 ∨ dv + 61 ≤ a → gi' a = gi a := fun a ha => hO a (by omega)
  have bo : ∀ i, i < nb → bx i + 2 < dv + 38 ∨ dv + 61 ≤ bx i := fun i hi => by
    by_cases e : i = 0
    · subst e; have := hA.1.2.1; omega
    · have := hA.2.1 i (by omega) hi; omega
  refine ⟨hS, ⟨by rw [o dv (by omega)]; exact hB.1, fun i hi => ?_⟩, hF, ?_, fun j hj => ?_, fun i hi => ?_, ⟨S, ec, ?_, ?_, fun i j hi hj => ?_⟩, fun j hj => ?_, fun j hj => ?_, hA⟩
  · have := bo i hi
    unfold BxIs ArIs
    rw [o (bx i) (by omega), o (bx i + 1) (by omega), o (bx i + 2) (by omega)]
    exact hB.2 i hi
  · unfold LaIs; rw [o _ (by omega)]; exact hL
  · rw [o _ (by omega)]; exact hP j hj
  · refine ⟨(hC i hi).1, fun κ hκ => ?_⟩
    obtain ⟨c1, c2, c3, c4, c5⟩ := (hC i hi).2 κ hκ
    have ha := hA.2.2.2 i hi (by rw [hκ]; exact fun z => by cases z)
    exact ⟨c1, c2, c3.row (o _ (by omega)), c4, c5⟩
  · rw [o _ (by omega)]; exact q1
  · rw [o _ (by omega)]; exact q2
  · rw [o _ (by omega)]; exact q3 i j hi hj
  · rw [o _ (by omega)]; exact hD j hj
  · rw [o _ (by omega)]; exact hM j hj
theorem MInv.fr {T T' : gT} {gi gi' : gI} {gr gr' : gR} {m nb : Nat} {par : Nat → Option Nat} {kd : Nat → Int32} {hd li : Nat → Bool} {ct : Nat → Int32} {rk : Nat → Nat} {rks : Nat} {w h : Int32} {pl : Nat → Int32} {cs : Nat → Option K5} {fo pr : Option Nat} {ar : Nat → Nat → Bool} {co : Nat → Int32} {D : Nat → Bool} {F : Nat → Int32} (hI : MInv T gi gr m nb par kd hd li ct rk rks w h pl cs fo pr ar co D F) (hf : ∀ a, m ≤ a → a < m + 23 → T'.1 a = T.1 a ∧ T'.2.1 a = T.2.1 a ∧ gi' a = gi a ∧ gr' a = gr a) : MInv T' gi' gr' m nb par kd hd li ct rk rks w h pl cs fo pr ar co D F := by
  have e : ∀ j, j < 23 → gi' (m + j) = gi (m + j) := fun j hj => (hf (m + j) (by omega) (by omega)).2.2.1
  have e0 : gi' m = gi m := e 0 (by omega)
  obtain ⟨k0, k1, k2, a1, a2, a3, a4, a5, a6, a7, ac, a19, a20, a21, a22⟩ := hI
  refine ⟨⟨by rw [(hf m (by omega) (by omega)).1]; exact k0.1, fun k hk => ?_⟩, by rw [e0]; exact k1, k2, by rw [e 1 (by omega)]; exact a1, by rw [e 2 (by omega)]; exact a2, by rw [e 3 (by omega)]; exact a3, by rw [e 4 (by omega)]; exact a4, by rw [e 5 (by omega)]; exact a5, by rw [e 6 (by omega)]; exact a6, by rw [e 7 (by omega)]; exact a7, ?_, by rw [e 19 (by omega)]; exact a19, by rw [e 20 (by omega)]; exact a20, by rw [e 21 (by omega)]; exact a21, by rw [e 22 (by omega)]; exact a22⟩
  · have h1 := hf m (by omega) (by omega)
    have h2 := hf (m + (k + 1)) (by omega) (by omega)
    rw [h1.2.2.2, h2.1, h2.2.1]
    exact k0.2 k hk
  · unfold McIs
    rw [e 9 (by omega), e 10 (by omega), e 11 (by omega), e 12 (by omega), e 13 (by omega), e 14 (by omega)]
    exact ac
def CI (T : gT) (gi : gI) (gr : gR) (dv k : Nat) : Prop := ∃ (nb : Nat) (bx cx od : Nat → Nat) (par : Nat → Option Nat) (B : Nat → BS) (fo pr : Option Nat) (w h : Int32) (pl : Nat → Int32) (cs : Nat → Option K5) (D : Nat → Bool) (F : Nat → Int32) (kd : Nat → Int32) (hd li : Nat → Bool) (ct : Nat → Int32) (rk : Nat → Nat) (rks : Nat) (ar : Nat → Nat → Bool) (co : Nat → Int32) (D' : Nat → Bool) (F' : Nat → Int32), CInv T gi gr dv nb bx cx od par B fo pr w h pl cs D F ∧ MInv T gi gr (dv + 38) nb par kd hd li ct rk rks w h pl cs fo pr ar co D' F' ∧ CV nb par B od kd hd li ct rk rks w h pl cs fo pr ar co k ∧ (∀ j, j < 384 → D j = D' j ∧ F j = F' j) ∧ dv + 61 ≤ T.2.2
theorem CI_mk {T : gT} {gi : gI} {gr : gR} {dv : Nat} {bx cx : Nat → Nat} {D D' : Nat → Bool} {F F' : Nat → Int32} {nb : Nat} {par : Nat → Option Nat} {B : Nat → BS} {od : Nat → Nat} {kd : Nat → Int32} {hd li : Nat → Bool} {ct : Nat → Int32} {rk : Nat → Nat} {rks : Nat} {w h : Int32} {pl : Nat → Int32} {cs : Nat → Option K5} {fo pr : Option Nat} {ar : Nat → Nat → Bool} {co : Nat → Int32} {k : Nat} (h1 : CInv T gi gr dv nb bx cx od par B fo pr w h pl cs D F) (h2 : MInv T gi gr (dv + 38) nb par kd hd li ct rk rks w h pl cs fo pr ar co D' F') (h3 : CV nb par B od kd hd li ct rk rks w h pl cs fo pr ar co k) (h4 : ∀ j, j < 384 → D j = D' j ∧ F j = F' j) (h5 : dv + 61 ≤ T.2.2) : CI T gi gr dv k := ⟨nb, bx, cx, od, par, B, fo, pr, w, h, pl, cs, D, F, kd, hd, li, ct, rk, rks, ar, co, D', F', h1, h2, h3, h4, h5⟩
def PO (E : gE) (Xc Xm : gX) (As : List Value) (T : gT) (gi : gI) (gr : gR) (dv k : Nat) : Prop := ∃ Q1 : gQ, Ct E Xc (.ref dv :: As) T gi gr Q1 ∧ ∀ T1 gi1 gr1 v1, Q1 T1 gi1 gr1 v1 → ∃ x, v1 = some (.int x) ∧ T1.1 (dv + 38) = 8 ∧ ∃ Q2 : gQ, Ct E Xm (.ref (dv + 38) :: As) T1 gi1 gr1 Q2 ∧ ∀ T2 gi2 gr2 v2, Q2 T2 gi2 gr2 v2 → v2 = some (.int x) ∧ CI T2 gi2 gr2 dv (k + 1)
theorem ix_in {nb : Nat} {x : Int32} (h6 : nb ≤ 6) (h : isIn nb x) : 1 ≤ ixI x ∧ ixI x < nb := by
  have h0 : ¬ x < 0 := fun z => h.1 (by rw [Int32.lt_iff_toInt_lt] at z; rw [Int32.le_iff_toInt_le]; omega)
  obtain ⟨j, hj, rfl⟩ := nI_of h0
  have h2 := h.2
  have h1 := h.1
  rw [nI_leI (by omega) hj] at h2
  unfold ixI
  rw [nI_clamp hj]
  refine ⟨?_, by omega⟩
  have : j ≠ 0 := by
    rintro rfl
    rw [nI_0] at h1
    exact h1 (Int32.le_refl _)
  omega
theorem ix_bx {nb : Nat} {x : Int32} (h6 : nb ≤ 6) (h : isBx nb x) : ixI x < nb := by
  obtain ⟨j, hj, rfl⟩ := nI_of h.1
  have h2 := h.2
  rw [nI_leI (by omega) hj] at h2
  unfold ixI
  rw [nI_clamp hj]
  omega
theorem ix_ed {nb : Nat} {x : Int32} (h6 : nb ≤ 6) (h : isEd nb x) : ∃ j, j < 4 * nb ∧ x = nI j ∧ ixI x = j := by
  obtain ⟨j, hj, rfl⟩ := nI_of h.1
  have h2 := h.2
  rw [nI_leI (by omega) hj] at h2
  exact ⟨j, by omega, rfl, nI_clamp hj⟩
theorem tb_ax : ∀ j, j < 24 → (ax j = !decide (tbE (nI j))) := by decide +kernel
theorem nr_i {x : Int32} (h : isNr x) : -99 ≤ x.toInt ∧ x.toInt ≤ 99 := by
  have z1 : (-99 : Int32).toInt = -99 := rfl
  have z2 : (99 : Int32).toInt = 99 := rfl
  have h1 := h.1
  have h2 := h.2
  rw [Int32.lt_iff_toInt_lt, z1] at h1
  rw [Int32.lt_iff_toInt_lt, z2] at h2
  omega
theorem rz_i {x y : Int32} (h : rzC x y) : szV x y := by
  have z1 : (1 : Int32).toInt = 1 := rfl
  have z2 : (24 : Int32).toInt = 24 := rfl
  have z3 : (16 : Int32).toInt = 16 := rfl
  obtain ⟨h1, h2, h3, h4⟩ := h
  rw [Int32.lt_iff_toInt_lt, z1] at h1 h3
  rw [Int32.lt_iff_toInt_lt, z2] at h2
  rw [Int32.lt_iff_toInt_lt, z3] at h4
  unfold szV
  omega
theorem kd_i {x : Int32} (h1 : ¬ x < 0) (h2 : ¬ 2 < x) : x = 0 ∨ x = 1 ∨ x = 2 := by
  obtain ⟨j, hj, rfl⟩ := nI_of h1
  rw [show (2 : Int32) = nI 2 from rfl, nI_ltI (by omega) hj] at h2
  have : j = 0 ∨ j = 1 ∨ j = 2 := by omega
  rcases this with rfl | rfl | rfl
  · exact Or.inl nI_0
  · exact Or.inr (Or.inl rfl)
  · exact Or.inr (Or.inr rfl)
theorem kOf_V {nb : Nat} {p q c f s : Int32} (h6 : nb ≤ 6) (h : cnC nb p q c f s) : (kOf p q c f s).1 < 4 * nb ∧ (kOf p q c f s).2.1 < 4 * nb ∧ ax (kOf p q c f s).1 = ax (kOf p q c f s).2.1 ∧ -99 ≤ (kOf p q c f s).2.2.1.toInt ∧ (kOf p q c f s).2.2.1.toInt ≤ 99 := by
  obtain ⟨⟨h1, h2, -, h3⟩, h4, -⟩ := h
  obtain ⟨j, hj, ej, ij⟩ := ix_ed h6 h1
  obtain ⟨l, hl, el, il⟩ := ix_ed h6 h2
  have a1 := tb_ax j (by omega)
  have a2 := tb_ax l (by omega)
  rw [← ej] at a1
  rw [← el] at a2
  refine ⟨by show ixI p < _; omega, by show ixI q < _; omega, ?_, nr_i h4⟩
  show ax (ixI p) = ax (ixI q)
  rw [ij, il, a1, a2]
  by_cases c : tbE p
  · rw [decide_eq_true c, decide_eq_true (h3.mp c)]
  · rw [decide_eq_false c, decide_eq_false (fun z => c (h3.mpr z))]

theorem P_place {E : gE} {T : gT} {gi : gI} {gr : gR} {dv k : Nat} {x : Int32} (hc : CI T gi gr dv k) (hk : k < 512) : PO E mDV_place mMO_place [.int x] T gi gr dv k := by
  obtain ⟨nb, bx, cx, od, par, B, fo, pr, w, h, pl, cs, D, F, kd, hd, li, ct, rk, rks, ar, co, D', F', hI, hM, hV, hS, hz⟩ := hc
  have h6 : nb ≤ 6 := hV.1.1.2
  have hD : ∀ j, j < 384 → D j = D' j := fun j hj => (hS j hj).1
  have hrk : ∀ j, j < nb → rk j < 1000000 := fun j hj => by have := hV.1.2.2.2.1.1 j hj; have := hV.1.2.2.2.1.2; omega
  refine ⟨_, C_place hI, fun T1 gi1 gr1 v1 q1 => ?_⟩
  obtain ⟨e1, e2, e3, rfl⟩ := q1
  subst e1
  subst e2
  subst e3
  refine ⟨_, rfl, hM.1.1, _, cMO_place hM, fun T2 gi2 gr2 v2 q2 => ?_⟩
  obtain ⟨e1, e2, e3, rfl⟩ := q2
  subst e1
  subst e2
  subst e3
  exact ⟨rfl, CI_mk hI hM (CV_k hV) hS hz⟩
theorem P_error {E : gE} {T : gT} {gi : gI} {gr : gR} {dv k : Nat} {x : Int32} (hc : CI T gi gr dv k) (hk : k < 512) : PO E mDV_error mMO_error [.int x] T gi gr dv k := by
  obtain ⟨nb, bx, cx, od, par, B, fo, pr, w, h, pl, cs, D, F, kd, hd, li, ct, rk, rks, ar, co, D', F', hI, hM, hV, hS, hz⟩ := hc
  have h6 : nb ≤ 6 := hV.1.1.2
  have hD : ∀ j, j < 384 → D j = D' j := fun j hj => (hS j hj).1
  have hrk : ∀ j, j < nb → rk j < 1000000 := fun j hj => by have := hV.1.2.2.2.1.1 j hj; have := hV.1.2.2.2.1.2; omega
  refine ⟨_, C_error hI, fun T1 gi1 gr1 v1 q1 => ?_⟩
  obtain ⟨e1, e2, e3, rfl⟩ := q1
  subst e1
  subst e2
  subst e3
  refine ⟨_, rfl, hM.1.1, _, cMO_error hM, fun T2 gi2 gr2 v2 q2 => ?_⟩
  obtain ⟨e1, e2, e3, rfl⟩ := q2
  subst e1
  subst e2
  subst e3
  exact ⟨by rw [err_eq hV.1.2.2.2.2.2.2.1.2.2.1 hV.1.2.2.2.2.2.2.2.1.1 (by omega)], CI_mk hI hM (CV_k hV) hS hz⟩
theorem P_hit {E : gE} {T : gT} {gi : gI} {gr : gR} {dv k : Nat} {x y : Int32} (hc : CI T gi gr dv k) (hk : k < 512) : PO E mDV_hit mMO_hit [.int x, .int y] T gi gr dv k := by
  obtain ⟨nb, bx, cx, od, par, B, fo, pr, w, h, pl, cs, D, F, kd, hd, li, ct, rk, rks, ar, co, D', F', hI, hM, hV, hS, hz⟩ := hc
  have h6 : nb ≤ 6 := hV.1.1.2
  have hD : ∀ j, j < 384 → D j = D' j := fun j hj => (hS j hj).1
  have hrk : ∀ j, j < nb → rk j < 1000000 := fun j hj => by have := hV.1.2.2.2.1.1 j hj; have := hV.1.2.2.2.1.2; omega
  refine ⟨_, C_hit hI, fun T1 gi1 gr1 v1 q1 => ?_⟩
  obtain ⟨e1, e2, e3, rfl⟩ := q1
  subst e1
  subst e2
  subst e3
  refine ⟨_, rfl, hM.1.1, _, cMO_hit hM hrk, fun T2 gi2 gr2 v2 q2 => ?_⟩
  obtain ⟨e1, e2, e3, rfl⟩ := q2
  subst e1
  subst e2
  subst e3
  exact ⟨by rw [CV_hit hV], CI_mk hI hM (CV_k hV) hS hz⟩
theorem P_attention {E : gE} {T : gT} {gi : gI} {gr : gR} {dv k : Nat} (hc : CI T gi gr dv k) (hk : k < 512) : PO E mDV_attention mMO_attention [] T gi gr dv k := by
  obtain ⟨nb, bx, cx, od, par, B, fo, pr, w, h, pl, cs, D, F, kd, hd, li, ct, rk, rks, ar, co, D', F', hI, hM, hV, hS, hz⟩ := hc
  have h6 : nb ≤ 6 := hV.1.1.2
  have hD : ∀ j, j < 384 → D j = D' j := fun j hj => (hS j hj).1
  have hrk : ∀ j, j < nb → rk j < 1000000 := fun j hj => by have := hV.1.2.2.2.1.1 j hj; have := hV.1.2.2.2.1.2; omega
  refine ⟨_, C_attention hI, fun T1 gi1 gr1 v1 q1 => ?_⟩
  obtain ⟨e1, e2, e3, rfl⟩ := q1
  subst e1
  subst e2
  subst e3
  refine ⟨_, rfl, hM.1.1, _, cMO_attention hM, fun T2 gi2 gr2 v2 q2 => ?_⟩
  obtain ⟨e1, e2, e3, rfl⟩ := q2
  subst e1
  subst e2
  subst e3
  exact ⟨rfl, CI_mk hI hM (CV_k hV) hS hz⟩
theorem cnt_eq {nb : Nat} {B : Nat → BS} {ct : Nat → Int32} {x : Int32} (h6 : nb ≤ 6) (h : ∀ i, i < nb → (B i).2.2.1 = ct i) : cntC nb B x = cntM nb ct x := by
  unfold cntC cntM
  by_cases c : isBx nb x
  · rw [if_pos c, if_pos c, h _ (ix_bx h6 c)]
  · rw [if_neg c, if_neg c]
theorem P_count {E : gE} {T : gT} {gi : gI} {gr : gR} {dv k : Nat} {x : Int32} (hc : CI T gi gr dv k) (hk : k < 512) : PO E mDV_count mMO_count [.int x] T gi gr dv k := by
  obtain ⟨nb, bx, cx, od, par, B, fo, pr, w, h, pl, cs, D, F, kd, hd, li, ct, rk, rks, ar, co, D', F', hI, hM, hV, hS, hz⟩ := hc
  have h6 : nb ≤ 6 := hV.1.1.2
  have hD : ∀ j, j < 384 → D j = D' j := fun j hj => (hS j hj).1
  have hrk : ∀ j, j < nb → rk j < 1000000 := fun j hj => by have := hV.1.2.2.2.1.1 j hj; have := hV.1.2.2.2.1.2; omega
  refine ⟨_, C_count hI, fun T1 gi1 gr1 v1 q1 => ?_⟩
  obtain ⟨e1, e2, e3, rfl⟩ := q1
  subst e1
  subst e2
  subst e3
  refine ⟨_, rfl, hM.1.1, _, cMO_count hM, fun T2 gi2 gr2 v2 q2 => ?_⟩
  obtain ⟨e1, e2, e3, rfl⟩ := q2
  subst e1
  subst e2
  subst e3
  exact ⟨by rw [cnt_eq h6 (fun i hi => (hV.1.2.2.2.2.1 i hi).2.2.1)], CI_mk hI hM (CV_k hV) hS hz⟩
theorem P_damage {E : gE} {T : gT} {gi : gI} {gr : gR} {dv k : Nat} (hc : CI T gi gr dv k) (hk : k < 512) : PO E mDV_damage mMO_damage [] T gi gr dv k := by
  obtain ⟨nb, bx, cx, od, par, B, fo, pr, w, h, pl, cs, D, F, kd, hd, li, ct, rk, rks, ar, co, D', F', hI, hM, hV, hS, hz⟩ := hc
  have h6 : nb ≤ 6 := hV.1.1.2
  have hD : ∀ j, j < 384 → D j = D' j := fun j hj => (hS j hj).1
  have hrk : ∀ j, j < nb → rk j < 1000000 := fun j hj => by have := hV.1.2.2.2.1.1 j hj; have := hV.1.2.2.2.1.2; omega
  refine ⟨_, C_damage hI, fun T1 gi1 gr1 v1 q1 => ?_⟩
  obtain ⟨e1, e2, e3, rfl⟩ := q1
  subst e1
  subst e2
  subst e3
  refine ⟨_, rfl, hM.1.1, _, cMO_damage hM, fun T2 gi2 gr2 v2 q2 => ?_⟩
  obtain ⟨e1, e2, e3, rfl⟩ := q2
  subst e1
  subst e2
  subst e3
  exact ⟨by rw [cntB_eq 384 hD], CI_mk hI hM (CV_k hV) hS hz⟩
theorem P_pixel {E : gE} {T : gT} {gi : gI} {gr : gR} {dv k : Nat} {x y : Int32} (hc : CI T gi gr dv k) (hk : k < 512) : PO E mDV_pixel mMO_pixel [.int x, .int y] T gi gr dv k := by
  obtain ⟨nb, bx, cx, od, par, B, fo, pr, w, h, pl, cs, D, F, kd, hd, li, ct, rk, rks, ar, co, D', F', hI, hM, hV, hS, hz⟩ := hc
  have h6 : nb ≤ 6 := hV.1.1.2
  have hD : ∀ j, j < 384 → D j = D' j := fun j hj => (hS j hj).1
  have hrk : ∀ j, j < nb → rk j < 1000000 := fun j hj => by have := hV.1.2.2.2.1.1 j hj; have := hV.1.2.2.2.1.2; omega
  refine ⟨_, C_pixel hI, fun T1 gi1 gr1 v1 q1 => ?_⟩
  obtain ⟨e1, e2, e3, rfl⟩ := q1
  subst e1
  subst e2
  subst e3
  refine ⟨_, rfl, hM.1.1, _, cMO_pixel hM, fun T2 gi2 gr2 v2 q2 => ?_⟩
  obtain ⟨e1, e2, e3, rfl⟩ := q2
  subst e1
  subst e2
  subst e3
  exact ⟨by rw [pix_eq (fun j hj => (hS j hj).2)], CI_mk hI hM (CV_k hV) hS hz⟩
