def mSl (k : Nat) : Nat := match k with
  | 0 => 1
  | 1 => 2
  | 2 => 3
  | 3 => 4
  | 4 => 5
  | 5 => 6
  | 6 => 10
  | 7 => 11
  | 8 => 12
  | 9 => 13
  | 10 => 14
  | 11 => 15
  | 12 => 16
  | 13 => 17
  | 14 => 19
  | 15 => 20
  | 16 => 21
  | 17 => 22
  | 18 => 25
  | 19 => 26
  | 20 => 27
  | _ => 28
def mTg (k : Nat) : Nat := match k with
  | 0 => 100
  | 1 => 100
  | 2 => 101
  | 3 => 101
  | 4 => 100
  | 5 => 100
  | 6 => 100
  | 7 => 100
  | 8 => 101
  | 9 => 100
  | 10 => 100
  | 11 => 100
  | 12 => 100
  | 13 => 100
  | 14 => 100
  | 15 => 100
  | 16 => 100
  | 17 => 100
  | 18 => 101
  | 19 => 100
  | 20 => 101
  | _ => 100
def mLn (k : Nat) : Nat := match k with
  | 0 => 6
  | 1 => 6
  | 2 => 6
  | 3 => 6
  | 4 => 6
  | 5 => 6
  | 6 => 24
  | 7 => 24
  | 8 => 16
  | 9 => 16
  | 10 => 16
  | 11 => 16
  | 12 => 16
  | 13 => 16
  | 14 => 120
  | 15 => 120
  | 16 => 120
  | 17 => 24
  | 18 => 2304
  | 19 => 6
  | 20 => 384
  | _ => 384
def MOk (T : gT) (gr : gR) (m : Nat) : Prop := T.1 m = 8 ∧ ∀ k, k < 22 → gr m (mSl k) = some (m + (k + 1)) ∧ T.1 (m + (k + 1)) = mTg k ∧ T.2.1 (m + (k + 1)) = mLn k
theorem MOk.r1 {T : gT} {gr : gR} {m : Nat} (h : MOk T gr m) : gr m 1 = some (m + 1) := (h.2 0 (by decide)).1
theorem MOk.t1 {T : gT} {gr : gR} {m : Nat} (h : MOk T gr m) : T.1 (m + 1) = 100 := (h.2 0 (by decide)).2.1
theorem MOk.l1 {T : gT} {gr : gR} {m : Nat} (h : MOk T gr m) : T.2.1 (m + 1) = 6 := (h.2 0 (by decide)).2.2
theorem MOk.r2 {T : gT} {gr : gR} {m : Nat} (h : MOk T gr m) : gr m 2 = some (m + 2) := (h.2 1 (by decide)).1
theorem MOk.t2 {T : gT} {gr : gR} {m : Nat} (h : MOk T gr m) : T.1 (m + 2) = 100 := (h.2 1 (by decide)).2.1
theorem MOk.l2 {T : gT} {gr : gR} {m : Nat} (h : MOk T gr m) : T.2.1 (m + 2) = 6 := (h.2 1 (by decide)).2.2
theorem MOk.r3 {T : gT} {gr : gR} {m : Nat} (h : MOk T gr m) : gr m 3 = some (m + 3) := (h.2 2 (by decide)).1
theorem MOk.t3 {T : gT} {gr : gR} {m : Nat} (h : MOk T gr m) : T.1 (m + 3) = 101 := (h.2 2 (by decide)).2.1
theorem MOk.l3 {T : gT} {gr : gR} {m : Nat} (h : MOk T gr m) : T.2.1 (m + 3) = 6 := (h.2 2 (by decide)).2.2
theorem MOk.r4 {T : gT} {gr : gR} {m : Nat} (h : MOk T gr m) : gr m 4 = some (m + 4) := (h.2 3 (by decide)).1
theorem MOk.t4 {T : gT} {gr : gR} {m : Nat} (h : MOk T gr m) : T.1 (m + 4) = 101 := (h.2 3 (by decide)).2.1
theorem MOk.l4 {T : gT} {gr : gR} {m : Nat} (h : MOk T gr m) : T.2.1 (m + 4) = 6 := (h.2 3 (by decide)).2.2
theorem MOk.r5 {T : gT} {gr : gR} {m : Nat} (h : MOk T gr m) : gr m 5 = some (m + 5) := (h.2 4 (by decide)).1
theorem MOk.t5 {T : gT} {gr : gR} {m : Nat} (h : MOk T gr m) : T.1 (m + 5) = 100 := (h.2 4 (by decide)).2.1
theorem MOk.l5 {T : gT} {gr : gR} {m : Nat} (h : MOk T gr m) : T.2.1 (m + 5) = 6 := (h.2 4 (by decide)).2.2
theorem MOk.r6 {T : gT} {gr : gR} {m : Nat} (h : MOk T gr m) : gr m 6 = some (m + 6) := (h.2 5 (by decide)).1
theorem MOk.t6 {T : gT} {gr : gR} {m : Nat} (h : MOk T gr m) : T.1 (m + 6) = 100 := (h.2 5 (by decide)).2.1
theorem MOk.l6 {T : gT} {gr : gR} {m : Nat} (h : MOk T gr m) : T.2.1 (m + 6) = 6 := (h.2 5 (by decide)).2.2
theorem MOk.r7 {T : gT} {gr : gR} {m : Nat} (h : MOk T gr m) : gr m 10 = some (m + 7) := (h.2 6 (by decide)).1
theorem MOk.t7 {T : gT} {gr : gR} {m : Nat} (h : MOk T gr m) : T.1 (m + 7) = 100 := (h.2 6 (by decide)).2.1
theorem MOk.l7 {T : gT} {gr : gR} {m : Nat} (h : MOk T gr m) : T.2.1 (m + 7) = 24 := (h.2 6 (by decide)).2.2
theorem MOk.r8 {T : gT} {gr : gR} {m : Nat} (h : MOk T gr m) : gr m 11 = some (m + 8) := (h.2 7 (by decide)).1
theorem MOk.t8 {T : gT} {gr : gR} {m : Nat} (h : MOk T gr m) : T.1 (m + 8) = 100 := (h.2 7 (by decide)).2.1
theorem MOk.l8 {T : gT} {gr : gR} {m : Nat} (h : MOk T gr m) : T.2.1 (m + 8) = 24 := (h.2 7 (by decide)).2.2
theorem MOk.r9 {T : gT} {gr : gR} {m : Nat} (h : MOk T gr m) : gr m 12 = some (m + 9) := (h.2 8 (by decide)).1
theorem MOk.t9 {T : gT} {gr : gR} {m : Nat} (h : MOk T gr m) : T.1 (m + 9) = 101 := (h.2 8 (by decide)).2.1
theorem MOk.l9 {T : gT} {gr : gR} {m : Nat} (h : MOk T gr m) : T.2.1 (m + 9) = 16 := (h.2 8 (by decide)).2.2
theorem MOk.r10 {T : gT} {gr : gR} {m : Nat} (h : MOk T gr m) : gr m 13 = some (m + 10) := (h.2 9 (by decide)).1
theorem MOk.t10 {T : gT} {gr : gR} {m : Nat} (h : MOk T gr m) : T.1 (m + 10) = 100 := (h.2 9 (by decide)).2.1
theorem MOk.l10 {T : gT} {gr : gR} {m : Nat} (h : MOk T gr m) : T.2.1 (m + 10) = 16 := (h.2 9 (by decide)).2.2
theorem MOk.r11 {T : gT} {gr : gR} {m : Nat} (h : MOk T gr m) : gr m 14 = some (m + 11) := (h.2 10 (by decide)).1
theorem MOk.t11 {T : gT} {gr : gR} {m : Nat} (h : MOk T gr m) : T.1 (m + 11) = 100 := (h.2 10 (by decide)).2.1
theorem MOk.l11 {T : gT} {gr : gR} {m : Nat} (h : MOk T gr m) : T.2.1 (m + 11) = 16 := (h.2 10 (by decide)).2.2
theorem MOk.r12 {T : gT} {gr : gR} {m : Nat} (h : MOk T gr m) : gr m 15 = some (m + 12) := (h.2 11 (by decide)).1
theorem MOk.t12 {T : gT} {gr : gR} {m : Nat} (h : MOk T gr m) : T.1 (m + 12) = 100 := (h.2 11 (by decide)).2.1
theorem MOk.l12 {T : gT} {gr : gR} {m : Nat} (h : MOk T gr m) : T.2.1 (m + 12) = 16 := (h.2 11 (by decide)).2.2
theorem MOk.r13 {T : gT} {gr : gR} {m : Nat} (h : MOk T gr m) : gr m 16 = some (m + 13) := (h.2 12 (by decide)).1
theorem MOk.t13 {T : gT} {gr : gR} {m : Nat} (h : MOk T gr m) : T.1 (m + 13) = 100 := (h.2 12 (by decide)).2.1
theorem MOk.l13 {T : gT} {gr : gR} {m : Nat} (h : MOk T gr m) : T.2.1 (m + 13) = 16 := (h.2 12 (by decide)).2.2
theorem MOk.r14 {T : gT} {gr : gR} {m : Nat} (h : MOk T gr m) : gr m 17 = some (m + 14) := (h.2 13 (by decide)).1
theorem MOk.t14 {T : gT} {gr : gR} {m : Nat} (h : MOk T gr m) : T.1 (m + 14) = 100 := (h.2 13 (by decide)).2.1
theorem MOk.l14 {T : gT} {gr : gR} {m : Nat} (h : MOk T gr m) : T.2.1 (m + 14) = 16 := (h.2 13 (by decide)).2.2
theorem MOk.r15 {T : gT} {gr : gR} {m : Nat} (h : MOk T gr m) : gr m 19 = some (m + 15) := (h.2 14 (by decide)).1
theorem MOk.t15 {T : gT} {gr : gR} {m : Nat} (h : MOk T gr m) : T.1 (m + 15) = 100 := (h.2 14 (by decide)).2.1
theorem MOk.l15 {T : gT} {gr : gR} {m : Nat} (h : MOk T gr m) : T.2.1 (m + 15) = 120 := (h.2 14 (by decide)).2.2
theorem MOk.r16 {T : gT} {gr : gR} {m : Nat} (h : MOk T gr m) : gr m 20 = some (m + 16) := (h.2 15 (by decide)).1
theorem MOk.t16 {T : gT} {gr : gR} {m : Nat} (h : MOk T gr m) : T.1 (m + 16) = 100 := (h.2 15 (by decide)).2.1
theorem MOk.l16 {T : gT} {gr : gR} {m : Nat} (h : MOk T gr m) : T.2.1 (m + 16) = 120 := (h.2 15 (by decide)).2.2
theorem MOk.r17 {T : gT} {gr : gR} {m : Nat} (h : MOk T gr m) : gr m 21 = some (m + 17) := (h.2 16 (by decide)).1
theorem MOk.t17 {T : gT} {gr : gR} {m : Nat} (h : MOk T gr m) : T.1 (m + 17) = 100 := (h.2 16 (by decide)).2.1
theorem MOk.l17 {T : gT} {gr : gR} {m : Nat} (h : MOk T gr m) : T.2.1 (m + 17) = 120 := (h.2 16 (by decide)).2.2
theorem MOk.r18 {T : gT} {gr : gR} {m : Nat} (h : MOk T gr m) : gr m 22 = some (m + 18) := (h.2 17 (by decide)).1
theorem MOk.t18 {T : gT} {gr : gR} {m : Nat} (h : MOk T gr m) : T.1 (m + 18) = 100 := (h.2 17 (by decide)).2.1
theorem MOk.l18 {T : gT} {gr : gR} {m : Nat} (h : MOk T gr m) : T.2.1 (m + 18) = 24 := (h.2 17 (by decide)).2.2
theorem MOk.r19 {T : gT} {gr : gR} {m : Nat} (h : MOk T gr m) : gr m 25 = some (m + 19) := (h.2 18 (by decide)).1
theorem MOk.t19 {T : gT} {gr : gR} {m : Nat} (h : MOk T gr m) : T.1 (m + 19) = 101 := (h.2 18 (by decide)).2.1
theorem MOk.l19 {T : gT} {gr : gR} {m : Nat} (h : MOk T gr m) : T.2.1 (m + 19) = 2304 := (h.2 18 (by decide)).2.2
theorem MOk.r20 {T : gT} {gr : gR} {m : Nat} (h : MOk T gr m) : gr m 26 = some (m + 20) := (h.2 19 (by decide)).1
theorem MOk.t20 {T : gT} {gr : gR} {m : Nat} (h : MOk T gr m) : T.1 (m + 20) = 100 := (h.2 19 (by decide)).2.1
theorem MOk.l20 {T : gT} {gr : gR} {m : Nat} (h : MOk T gr m) : T.2.1 (m + 20) = 6 := (h.2 19 (by decide)).2.2
theorem MOk.r21 {T : gT} {gr : gR} {m : Nat} (h : MOk T gr m) : gr m 27 = some (m + 21) := (h.2 20 (by decide)).1
theorem MOk.t21 {T : gT} {gr : gR} {m : Nat} (h : MOk T gr m) : T.1 (m + 21) = 101 := (h.2 20 (by decide)).2.1
theorem MOk.l21 {T : gT} {gr : gR} {m : Nat} (h : MOk T gr m) : T.2.1 (m + 21) = 384 := (h.2 20 (by decide)).2.2
theorem MOk.r22 {T : gT} {gr : gR} {m : Nat} (h : MOk T gr m) : gr m 28 = some (m + 22) := (h.2 21 (by decide)).1
theorem MOk.t22 {T : gT} {gr : gR} {m : Nat} (h : MOk T gr m) : T.1 (m + 22) = 100 := (h.2 21 (by decide)).2.1
theorem MOk.l22 {T : gT} {gr : gR} {m : Nat} (h : MOk T gr m) : T.2.1 (m + 22) = 384 := (h.2 21 (by decide)).2.2
def McIs (gi : gI) (m : Nat) (cs : Nat → Option K5) : Prop := ∀ i, i < 16 → (cs i = none → gi (m + 9) i = 0) ∧ ∀ κ, cs i = some κ → gi (m + 9) i = 1 ∧ gi (m + 10) i = nI κ.1 ∧ gi (m + 11) i = nI κ.2.1 ∧ gi (m + 12) i = κ.2.2.1 ∧ gi (m + 13) i = nI κ.2.2.2.1 ∧ gi (m + 14) i = nI κ.2.2.2.2 ∧ CnOk κ
def MInv (T : gT) (gi : gI) (gr : gR) (m : Nat) (nb : Nat) (par : Nat → Option Nat) (kd : Nat → Int32) (hd : Nat → Bool) (li : Nat → Bool) (ct : Nat → Int32) (rk : Nat → Nat) (rks : Nat) (w : Int32) (h : Int32) (pl : Nat → Int32) (cs : Nat → Option K5) (fo : Option Nat) (pr : Option Nat) (ar : Nat → Nat → Bool) (co : Nat → Int32) (D : Nat → Bool) (F : Nat → Int32) : Prop := MOk T gr m ∧ (gi m 0 = nI nb ∧ gi m 7 = nI rks ∧ gi m 8 = w ∧ gi m 9 = h ∧ gi m 23 = noI fo ∧ gi m 24 = noI pr) ∧ ((1 ≤ nb ∧ nb ≤ 6) ∧ (∀ i p, i < nb → par i = some p → p < i) ∧ (∀ i, fo = some i → i < nb) ∧ (∀ i, pr = some i → i < nb)) ∧ (∀ j, j < 6 → gi (m + 1) j = kd j) ∧ (∀ j, j < nb → gi (m + 2) j = noI (par j)) ∧ (∀ j, j < 6 → gi (m + 3) j = bI (hd j)) ∧ (∀ j, j < 6 → gi (m + 4) j = bI (li j)) ∧ (∀ j, j < 6 → gi (m + 5) j = ct j) ∧ (∀ j, j < 6 → gi (m + 6) j = nI (rk j)) ∧ (∀ j, j < 24 → gi (m + 7) j = pl j) ∧ (McIs gi m cs) ∧ (∀ b z, b < 6 → z < 384 → gi (m + 19) (384 * b + z) = bI (ar b z)) ∧ (∀ j, j < 6 → gi (m + 20) j = co j) ∧ (∀ j, j < 384 → gi (m + 21) j = bI (D j)) ∧ (∀ j, j < 384 → gi (m + 22) j = F j)
def MOff (gi gi' : gI) (m : Nat) : Prop := ∀ a, ¬ (m ≤ a ∧ a < m + 23) → gi' a = gi a
theorem MOff.rf {gi : gI} {m : Nat} : MOff gi gi m := fun _ _ => rfl
theorem MOff.tr {g1 g2 g3 : gI} {m : Nat} (h : MOff g1 g2 m) (h' : MOff g2 g3 m) : MOff g1 g3 m := fun a ha => (h' a ha).trans (h a ha)
theorem MOff.gu {g1 g2 : gI} {m a k : Nat} {x : Int32} (h : MOff g1 g2 m) (ha : m ≤ a ∧ a < m + 23) : MOff g1 (gu g2 a k x) m := fun q hq => (gu_off (fun e => hq (by rw [e]; exact ha))).trans (h q hq)
theorem McIs.rows {gi gi' : gI} {m : Nat} {cs : Nat → Option K5} (hc : McIs gi m cs) (h : ∀ k, 9 ≤ k → k ≤ 14 → gi' (m + k) = gi (m + k)) : McIs gi' m cs := by
  unfold McIs
  rw [h 9 (by omega) (by omega), h 10 (by omega) (by omega), h 11 (by omega) (by omega), h 12 (by omega) (by omega), h 13 (by omega) (by omega), h 14 (by omega) (by omega)]
  exact hc
theorem MInv.s1 {T : gT} {gi gi' : gI} {gr : gR} {m : Nat} {nb : Nat} {par : Nat → Option Nat} {kd : Nat → Int32} {hd : Nat → Bool} {li : Nat → Bool} {ct : Nat → Int32} {rk : Nat → Nat} {rks : Nat} {w : Int32} {h : Int32} {pl : Nat → Int32} {cs : Nat → Option K5} {fo : Option Nat} {pr : Option Nat} {ar : Nat → Nat → Bool} {co : Nat → Int32} {D : Nat → Bool} {F : Nat → Int32} {kd' : Nat → Int32} (hI : MInv T gi gr m nb par kd hd li ct rk rks w h pl cs fo pr ar co D F) (q : ∀ a, a ≠ m + 1 → gi' a = gi a) (n : ∀ j, j < 6 → gi' (m + 1) j = kd' j) : MInv T gi' gr m nb par kd' hd li ct rk rks w h pl cs fo pr ar co D F := by
  obtain ⟨hk, v0, tr, v1, v2, v3, v4, v5, v6, v7, vc, v19, v20, v21, v22⟩ := hI
  exact ⟨hk, by rw [q _ (by omega)]; exact v0, tr, n, fun j hj => by rw [q _ (by omega)]; exact v2 j hj, fun j hj => by rw [q _ (by omega)]; exact v3 j hj, fun j hj => by rw [q _ (by omega)]; exact v4 j hj, fun j hj => by rw [q _ (by omega)]; exact v5 j hj, fun j hj => by rw [q _ (by omega)]; exact v6 j hj, fun j hj => by rw [q _ (by omega)]; exact v7 j hj, vc.rows (fun k h1 h2 => q _ (by omega)), fun b z hb hz => by rw [q _ (by omega)]; exact v19 b z hb hz, fun j hj => by rw [q _ (by omega)]; exact v20 j hj, fun j hj => by rw [q _ (by omega)]; exact v21 j hj, fun j hj => by rw [q _ (by omega)]; exact v22 j hj⟩
theorem MInv.s3 {T : gT} {gi gi' : gI} {gr : gR} {m : Nat} {nb : Nat} {par : Nat → Option Nat} {kd : Nat → Int32} {hd : Nat → Bool} {li : Nat → Bool} {ct : Nat → Int32} {rk : Nat → Nat} {rks : Nat} {w : Int32} {h : Int32} {pl : Nat → Int32} {cs : Nat → Option K5} {fo : Option Nat} {pr : Option Nat} {ar : Nat → Nat → Bool} {co : Nat → Int32} {D : Nat → Bool} {F : Nat → Int32} {hd' : Nat → Bool} (hI : MInv T gi gr m nb par kd hd li ct rk rks w h pl cs fo pr ar co D F) (q : ∀ a, a ≠ m + 3 → gi' a = gi a) (n : ∀ j, j < 6 → gi' (m + 3) j = bI (hd' j)) : MInv T gi' gr m nb par kd hd' li ct rk rks w h pl cs fo pr ar co D F := by
  obtain ⟨hk, v0, tr, v1, v2, v3, v4, v5, v6, v7, vc, v19, v20, v21, v22⟩ := hI
  exact ⟨hk, by rw [q _ (by omega)]; exact v0, tr, fun j hj => by rw [q _ (by omega)]; exact v1 j hj, fun j hj => by rw [q _ (by omega)]; exact v2 j hj, n, fun j hj => by rw [q _ (by omega)]; exact v4 j hj, fun j hj => by rw [q _ (by omega)]; exact v5 j hj, fun j hj => by rw [q _ (by omega)]; exact v6 j hj, fun j hj => by rw [q _ (by omega)]; exact v7 j hj, vc.rows (fun k h1 h2 => q _ (by omega)), fun b z hb hz => by rw [q _ (by omega)]; exact v19 b z hb hz, fun j hj => by rw [q _ (by omega)]; exact v20 j hj, fun j hj => by rw [q _ (by omega)]; exact v21 j hj, fun j hj => by rw [q _ (by omega)]; exact v22 j hj⟩
theorem MInv.s4 {T : gT} {gi gi' : gI} {gr : gR} {m : Nat} {nb : Nat} {par : Nat → Option Nat} {kd : Nat → Int32} {hd : Nat → Bool} {li : Nat → Bool} {ct : Nat → Int32} {rk : Nat → Nat} {rks : Nat} {w : Int32} {h : Int32} {pl : Nat → Int32} {cs : Nat → Option K5} {fo : Option Nat} {pr : Option Nat} {ar : Nat → Nat → Bool} {co : Nat → Int32} {D : Nat → Bool} {F : Nat → Int32} {li' : Nat → Bool} (hI : MInv T gi gr m nb par kd hd li ct rk rks w h pl cs fo pr ar co D F) (q : ∀ a, a ≠ m + 4 → gi' a = gi a) (n : ∀ j, j < 6 → gi' (m + 4) j = bI (li' j)) : MInv T gi' gr m nb par kd hd li' ct rk rks w h pl cs fo pr ar co D F := by
  obtain ⟨hk, v0, tr, v1, v2, v3, v4, v5, v6, v7, vc, v19, v20, v21, v22⟩ := hI
  exact ⟨hk, by rw [q _ (by omega)]; exact v0, tr, fun j hj => by rw [q _ (by omega)]; exact v1 j hj, fun j hj => by rw [q _ (by omega)]; exact v2 j hj, fun j hj => by rw [q _ (by omega)]; exact v3 j hj, n, fun j hj => by rw [q _ (by omega)]; exact v5 j hj, fun j hj => by rw [q _ (by omega)]; exact v6 j hj, fun j hj => by rw [q _ (by omega)]; exact v7 j hj, vc.rows (fun k h1 h2 => q _ (by omega)), fun b z hb hz => by rw [q _ (by omega)]; exact v19 b z hb hz, fun j hj => by rw [q _ (by omega)]; exact v20 j hj, fun j hj => by rw [q _ (by omega)]; exact v21 j hj, fun j hj => by rw [q _ (by omega)]; exact v22 j hj⟩
theorem MInv.s5 {T : gT} {gi gi' : gI} {gr : gR} {m : Nat} {nb : Nat} {par : Nat → Option Nat} {kd : Nat → Int32} {hd : Nat → Bool} {li : Nat → Bool} {ct : Nat → Int32} {rk : Nat → Nat} {rks : Nat} {w : Int32} {h : Int32} {pl : Nat → Int32} {cs : Nat → Option K5} {fo : Option Nat} {pr : Option Nat} {ar : Nat → Nat → Bool} {co : Nat → Int32} {D : Nat → Bool} {F : Nat → Int32} {ct' : Nat → Int32} (hI : MInv T gi gr m nb par kd hd li ct rk rks w h pl cs fo pr ar co D F) (q : ∀ a, a ≠ m + 5 → gi' a = gi a) (n : ∀ j, j < 6 → gi' (m + 5) j = ct' j) : MInv T gi' gr m nb par kd hd li ct' rk rks w h pl cs fo pr ar co D F := by
  obtain ⟨hk, v0, tr, v1, v2, v3, v4, v5, v6, v7, vc, v19, v20, v21, v22⟩ := hI
  exact ⟨hk, by rw [q _ (by omega)]; exact v0, tr, fun j hj => by rw [q _ (by omega)]; exact v1 j hj, fun j hj => by rw [q _ (by omega)]; exact v2 j hj, fun j hj => by rw [q _ (by omega)]; exact v3 j hj, fun j hj => by rw [q _ (by omega)]; exact v4 j hj, n, fun j hj => by rw [q _ (by omega)]; exact v6 j hj, fun j hj => by rw [q _ (by omega)]; exact v7 j hj, vc.rows (fun k h1 h2 => q _ (by omega)), fun b z hb hz => by rw [q _ (by omega)]; exact v19 b z hb hz, fun j hj => by rw [q _ (by omega)]; exact v20 j hj, fun j hj => by rw [q _ (by omega)]; exact v21 j hj, fun j hj => by rw [q _ (by omega)]; exact v22 j hj⟩
theorem MInv.s6 {T : gT} {gi gi' : gI} {gr : gR} {m : Nat} {nb : Nat} {par : Nat → Option Nat} {kd : Nat → Int32} {hd : Nat → Bool} {li : Nat → Bool} {ct : Nat → Int32} {rk : Nat → Nat} {rks : Nat} {w : Int32} {h : Int32} {pl : Nat → Int32} {cs : Nat → Option K5} {fo : Option Nat} {pr : Option Nat} {ar : Nat → Nat → Bool} {co : Nat → Int32} {D : Nat → Bool} {F : Nat → Int32} {rk' : Nat → Nat} (hI : MInv T gi gr m nb par kd hd li ct rk rks w h pl cs fo pr ar co D F) (q : ∀ a, a ≠ m + 6 → gi' a = gi a) (n : ∀ j, j < 6 → gi' (m + 6) j = nI (rk' j)) : MInv T gi' gr m nb par kd hd li ct rk' rks w h pl cs fo pr ar co D F := by
  obtain ⟨hk, v0, tr, v1, v2, v3, v4, v5, v6, v7, vc, v19, v20, v21, v22⟩ := hI
  exact ⟨hk, by rw [q _ (by omega)]; exact v0, tr, fun j hj => by rw [q _ (by omega)]; exact v1 j hj, fun j hj => by rw [q _ (by omega)]; exact v2 j hj, fun j hj => by rw [q _ (by omega)]; exact v3 j hj, fun j hj => by rw [q _ (by omega)]; exact v4 j hj, fun j hj => by rw [q _ (by omega)]; exact v5 j hj, n, fun j hj => by rw [q _ (by omega)]; exact v7 j hj, vc.rows (fun k h1 h2 => q _ (by omega)), fun b z hb hz => by rw [q _ (by omega)]; exact v19 b z hb hz, fun j hj => by rw [q _ (by omega)]; exact v20 j hj, fun j hj => by rw [q _ (by omega)]; exact v21 j hj, fun j hj => by rw [q _ (by omega)]; exact v22 j hj⟩
theorem MInv.s7 {T : gT} {gi gi' : gI} {gr : gR} {m : Nat} {nb : Nat} {par : Nat → Option Nat} {kd : Nat → Int32} {hd : Nat → Bool} {li : Nat → Bool} {ct : Nat → Int32} {rk : Nat → Nat} {rks : Nat} {w : Int32} {h : Int32} {pl : Nat → Int32} {cs : Nat → Option K5} {fo : Option Nat} {pr : Option Nat} {ar : Nat → Nat → Bool} {co : Nat → Int32} {D : Nat → Bool} {F : Nat → Int32} {pl' : Nat → Int32} (hI : MInv T gi gr m nb par kd hd li ct rk rks w h pl cs fo pr ar co D F) (q : ∀ a, a ≠ m + 7 → gi' a = gi a) (n : ∀ j, j < 24 → gi' (m + 7) j = pl' j) : MInv T gi' gr m nb par kd hd li ct rk rks w h pl' cs fo pr ar co D F := by
  obtain ⟨hk, v0, tr, v1, v2, v3, v4, v5, v6, v7, vc, v19, v20, v21, v22⟩ := hI
  exact ⟨hk, by rw [q _ (by omega)]; exact v0, tr, fun j hj => by rw [q _ (by omega)]; exact v1 j hj, fun j hj => by rw [q _ (by omega)]; exact v2 j hj, fun j hj => by rw [q _ (by omega)]; exact v3 j hj, fun j hj => by rw [q _ (by omega)]; exact v4 j hj, fun j hj => by rw [q _ (by omega)]; exact v5 j hj, fun j hj => by rw [q _ (by omega)]; exact v6 j hj, n, vc.rows (fun k h1 h2 => q _ (by omega)), fun b z hb hz => by rw [q _ (by omega)]; exact v19 b z hb hz, fun j hj => by rw [q _ (by omega)]; exact v20 j hj, fun j hj => by rw [q _ (by omega)]; exact v21 j hj, fun j hj => by rw [q _ (by omega)]; exact v22 j hj⟩
theorem MInv.s19 {T : gT} {gi gi' : gI} {gr : gR} {m : Nat} {nb : Nat} {par : Nat → Option Nat} {kd : Nat → Int32} {hd : Nat → Bool} {li : Nat → Bool} {ct : Nat → Int32} {rk : Nat → Nat} {rks : Nat} {w : Int32} {h : Int32} {pl : Nat → Int32} {cs : Nat → Option K5} {fo : Option Nat} {pr : Option Nat} {ar : Nat → Nat → Bool} {co : Nat → Int32} {D : Nat → Bool} {F : Nat → Int32} {ar' : Nat → Nat → Bool} (hI : MInv T gi gr m nb par kd hd li ct rk rks w h pl cs fo pr ar co D F) (q : ∀ a, a ≠ m + 19 → gi' a = gi a) (n : ∀ b z, b < 6 → z < 384 → gi' (m + 19) (384 * b + z) = bI (ar' b z)) : MInv T gi' gr m nb par kd hd li ct rk rks w h pl cs fo pr ar' co D F := by
  obtain ⟨hk, v0, tr, v1, v2, v3, v4, v5, v6, v7, vc, v19, v20, v21, v22⟩ := hI
  exact ⟨hk, by rw [q _ (by omega)]; exact v0, tr, fun j hj => by rw [q _ (by omega)]; exact v1 j hj, fun j hj => by rw [q _ (by omega)]; exact v2 j hj, fun j hj => by rw [q _ (by omega)]; exact v3 j hj, fun j hj => by rw [q _ (by omega)]; exact v4 j hj, fun j hj => by rw [q _ (by omega)]; exact v5 j hj, fun j hj => by rw [q _ (by omega)]; exact v6 j hj, fun j hj => by rw [q _ (by omega)]; exact v7 j hj, vc.rows (fun k h1 h2 => q _ (by omega)), n, fun j hj => by rw [q _ (by omega)]; exact v20 j hj, fun j hj => by rw [q _ (by omega)]; exact v21 j hj, fun j hj => by rw [q _ (by omega)]; exact v22 j hj⟩
theorem MInv.s20 {T : gT} {gi gi' : gI} {gr : gR} {m : Nat} {nb : Nat} {par : Nat → Option Nat} {kd : Nat → Int32} {hd : Nat → Bool} {li : Nat → Bool} {ct : Nat → Int32} {rk : Nat → Nat} {rks : Nat} {w : Int32} {h : Int32} {pl : Nat → Int32} {cs : Nat → Option K5} {fo : Option Nat} {pr : Option Nat} {ar : Nat → Nat → Bool} {co : Nat → Int32} {D : Nat → Bool} {F : Nat → Int32} {co' : Nat → Int32} (hI : MInv T gi gr m nb par kd hd li ct rk rks w h pl cs fo pr ar co D F) (q : ∀ a, a ≠ m + 20 → gi' a = gi a) (n : ∀ j, j < 6 → gi' (m + 20) j = co' j) : MInv T gi' gr m nb par kd hd li ct rk rks w h pl cs fo pr ar co' D F := by
  obtain ⟨hk, v0, tr, v1, v2, v3, v4, v5, v6, v7, vc, v19, v20, v21, v22⟩ := hI
  exact ⟨hk, by rw [q _ (by omega)]; exact v0, tr, fun j hj => by rw [q _ (by omega)]; exact v1 j hj, fun j hj => by rw [q _ (by omega)]; exact v2 j hj, fun j hj => by rw [q _ (by omega)]; exact v3 j hj, fun j hj => by rw [q _ (by omega)]; exact v4 j hj, fun j hj => by rw [q _ (by omega)]; exact v5 j hj, fun j hj => by rw [q _ (by omega)]; exact v6 j hj, fun j hj => by rw [q _ (by omega)]; exact v7 j hj, vc.rows (fun k h1 h2 => q _ (by omega)), fun b z hb hz => by rw [q _ (by omega)]; exact v19 b z hb hz, n, fun j hj => by rw [q _ (by omega)]; exact v21 j hj, fun j hj => by rw [q _ (by omega)]; exact v22 j hj⟩
theorem MInv.s21 {T : gT} {gi gi' : gI} {gr : gR} {m : Nat} {nb : Nat} {par : Nat → Option Nat} {kd : Nat → Int32} {hd : Nat → Bool} {li : Nat → Bool} {ct : Nat → Int32} {rk : Nat → Nat} {rks : Nat} {w : Int32} {h : Int32} {pl : Nat → Int32} {cs : Nat → Option K5} {fo : Option Nat} {pr : Option Nat} {ar : Nat → Nat → Bool} {co : Nat → Int32} {D : Nat → Bool} {F : Nat → Int32} {D' : Nat → Bool} (hI : MInv T gi gr m nb par kd hd li ct rk rks w h pl cs fo pr ar co D F) (q : ∀ a, a ≠ m + 21 → gi' a = gi a) (n : ∀ j, j < 384 → gi' (m + 21) j = bI (D' j)) : MInv T gi' gr m nb par kd hd li ct rk rks w h pl cs fo pr ar co D' F := by
  obtain ⟨hk, v0, tr, v1, v2, v3, v4, v5, v6, v7, vc, v19, v20, v21, v22⟩ := hI
  exact ⟨hk, by rw [q _ (by omega)]; exact v0, tr, fun j hj => by rw [q _ (by omega)]; exact v1 j hj, fun j hj => by rw [q _ (by omega)]; exact v2 j hj, fun j hj => by rw [q _ (by omega)]; exact v3 j hj, fun j hj => by rw [q _ (by omega)]; exact v4 j hj, fun j hj => by rw [q _ (by omega)]; exact v5 j hj, fun j hj => by rw [q _ (by omega)]; exact v6 j hj, fun j hj => by rw [q _ (by omega)]; exact v7 j hj, vc.rows (fun k h1 h2 => q _ (by omega)), fun b z hb hz => by rw [q _ (by omega)]; exact v19 b z hb hz, fun j hj => by rw [q _ (by omega)]; exact v20 j hj, n, fun j hj => by rw [q _ (by omega)]; exact v22 j hj⟩
theorem MInv.s22 {T : gT} {gi gi' : gI} {gr : gR} {m : Nat} {nb : Nat} {par : Nat → Option Nat} {kd : Nat → Int32} {hd : Nat → Bool} {li : Nat → Bool} {ct : Nat → Int32} {rk : Nat → Nat} {rks : Nat} {w : Int32} {h : Int32} {pl : Nat → Int32} {cs : Nat → Option K5} {fo : Option Nat} {pr : Option Nat} {ar : Nat → Nat → Bool} {co : Nat → Int32} {D : Nat → Bool} {F : Nat → Int32} {F' : Nat → Int32} (hI : MInv T gi gr m nb par kd hd li ct rk rks w h pl cs fo pr ar co D F) (q : ∀ a, a ≠ m + 22 → gi' a = gi a) (n : ∀ j, j < 384 → gi' (m + 22) j = F' j) : MInv T gi' gr m nb par kd hd li ct rk rks w h pl cs fo pr ar co D F' := by
  obtain ⟨hk, v0, tr, v1, v2, v3, v4, v5, v6, v7, vc, v19, v20, v21, v22⟩ := hI
  exact ⟨hk, by rw [q _ (by omega)]; exact v0, tr, fun j hj => by rw [q _ (by omega)]; exact v1 j hj, fun j hj => by rw [q _ (by omega)]; exact v2 j hj, fun j hj => by rw [q _ (by omega)]; exact v3 j hj, fun j hj => by rw [q _ (by omega)]; exact v4 j hj, fun j hj => by rw [q _ (by omega)]; exact v5 j hj, fun j hj => by rw [q _ (by omega)]; exact v6 j hj, fun j hj => by rw [q _ (by omega)]; exact v7 j hj, vc.rows (fun k h1 h2 => q _ (by omega)), fun b z hb hz => by rw [q _ (by omega)]; exact v19 b z hb hz, fun j hj => by rw [q _ (by omega)]; exact v20 j hj, fun j hj => by rw [q _ (by omega)]; exact v21 j hj, n⟩
theorem MInv.sc {T : gT} {gi gi' : gI} {gr : gR} {m : Nat} {nb : Nat} {par : Nat → Option Nat} {kd : Nat → Int32} {hd : Nat → Bool} {li : Nat → Bool} {ct : Nat → Int32} {rk : Nat → Nat} {rks : Nat} {w : Int32} {h : Int32} {pl : Nat → Int32} {cs : Nat → Option K5} {fo : Option Nat} {pr : Option Nat} {ar : Nat → Nat → Bool} {co : Nat → Int32} {D : Nat → Bool} {F : Nat → Int32} {cs' : Nat → Option K5} (hI : MInv T gi gr m nb par kd hd li ct rk rks w h pl cs fo pr ar co D F) (q : ∀ a, ¬ (m + 9 ≤ a ∧ a ≤ m + 14) → gi' a = gi a) (n : McIs gi' m cs') : MInv T gi' gr m nb par kd hd li ct rk rks w h pl cs' fo pr ar co D F := by
  obtain ⟨hk, v0, tr, v1, v2, v3, v4, v5, v6, v7, vc, v19, v20, v21, v22⟩ := hI
  exact ⟨hk, by rw [q _ (by omega)]; exact v0, tr, fun j hj => by rw [q _ (by omega)]; exact v1 j hj, fun j hj => by rw [q _ (by omega)]; exact v2 j hj, fun j hj => by rw [q _ (by omega)]; exact v3 j hj, fun j hj => by rw [q _ (by omega)]; exact v4 j hj, fun j hj => by rw [q _ (by omega)]; exact v5 j hj, fun j hj => by rw [q _ (by omega)]; exact v6 j hj, fun j hj => by rw [q _ (by omega)]; exact v7 j hj, n, fun b z hb hz => by rw [q _ (by omega)]; exact v19 b z hb hz, fun j hj => by rw [q _ (by omega)]; exact v20 j hj, fun j hj => by rw [q _ (by omega)]; exact v21 j hj, fun j hj => by rw [q _ (by omega)]; exact v22 j hj⟩
theorem MInv.s0 {T : gT} {gi gi' : gI} {gr : gR} {m : Nat} {nb : Nat} {par : Nat → Option Nat} {kd : Nat → Int32} {hd : Nat → Bool} {li : Nat → Bool} {ct : Nat → Int32} {rk : Nat → Nat} {rks : Nat} {w : Int32} {h : Int32} {pl : Nat → Int32} {cs : Nat → Option K5} {fo : Option Nat} {pr : Option Nat} {ar : Nat → Nat → Bool} {co : Nat → Int32} {D : Nat → Bool} {F : Nat → Int32} {rks' : Nat} {w' h' : Int32} {fo' pr' : Option Nat} (hI : MInv T gi gr m nb par kd hd li ct rk rks w h pl cs fo pr ar co D F) (q : ∀ a, a ≠ m → gi' a = gi a) (n : gi' m 0 = nI nb ∧ gi' m 7 = nI rks' ∧ gi' m 8 = w' ∧ gi' m 9 = h' ∧ gi' m 23 = noI fo' ∧ gi' m 24 = noI pr') (nf : ∀ i, fo' = some i → i < nb) (np : ∀ i, pr' = some i → i < nb) : MInv T gi' gr m nb par kd hd li ct rk rks' w' h' pl cs fo' pr' ar co D F := by
  obtain ⟨hk, v0, tr, v1, v2, v3, v4, v5, v6, v7, vc, v19, v20, v21, v22⟩ := hI
  exact ⟨hk, n, ⟨tr.1, tr.2.1, nf, np⟩, fun j hj => by rw [q _ (by omega)]; exact v1 j hj, fun j hj => by rw [q _ (by omega)]; exact v2 j hj, fun j hj => by rw [q _ (by omega)]; exact v3 j hj, fun j hj => by rw [q _ (by omega)]; exact v4 j hj, fun j hj => by rw [q _ (by omega)]; exact v5 j hj, fun j hj => by rw [q _ (by omega)]; exact v6 j hj, fun j hj => by rw [q _ (by omega)]; exact v7 j hj, vc.rows (fun k h1 h2 => q _ (by omega)), fun b z hb hz => by rw [q _ (by omega)]; exact v19 b z hb hz, fun j hj => by rw [q _ (by omega)]; exact v20 j hj, fun j hj => by rw [q _ (by omega)]; exact v21 j hj, fun j hj => by rw [q _ (by omega)]; exact v22 j hj⟩
theorem MInv.sx {T : gT} {gi gi' : gI} {gr : gR} {m : Nat} {nb : Nat} {par : Nat → Option Nat} {kd : Nat → Int32} {hd : Nat → Bool} {li : Nat → Bool} {ct : Nat → Int32} {rk : Nat → Nat} {rks : Nat} {w : Int32} {h : Int32} {pl : Nat → Int32} {cs : Nat → Option K5} {fo : Option Nat} {pr : Option Nat} {ar : Nat → Nat → Bool} {co : Nat → Int32} {D : Nat → Bool} {F : Nat → Int32} (hI : MInv T gi gr m nb par kd hd li ct rk rks w h pl cs fo pr ar co D F) (q : ∀ a, a ≠ m → a ≠ m + 8 → ¬ (m + 15 ≤ a ∧ a ≤ m + 18) → gi' a = gi a) (q0 : ∀ k, k ≠ 18 → gi' m k = gi m k) : MInv T gi' gr m nb par kd hd li ct rk rks w h pl cs fo pr ar co D F := by
  obtain ⟨hk, v0, tr, v1, v2, v3, v4, v5, v6, v7, vc, v19, v20, v21, v22⟩ := hI
  exact ⟨hk, by rw [q0 _ (by decide), q0 _ (by decide), q0 _ (by decide), q0 _ (by decide), q0 _ (by decide), q0 _ (by decide)]; exact v0, tr, fun j hj => by rw [q _ (by omega) (by omega) (by omega)]; exact v1 j hj, fun j hj => by rw [q _ (by omega) (by omega) (by omega)]; exact v2 j hj, fun j hj => by rw [q _ (by omega) (by omega) (by omega)]; exact v3 j hj, fun j hj => by rw [q _ (by omega) (by omega) (by omega)]; exact v4 j hj, fun j hj => by rw [q _ (by omega) (by omega) (by omega)]; exact v5 j hj, fun j hj => by rw [q _ (by omega) (by omega) (by omega)]; exact v6 j hj, fun j hj => by rw [q _ (by omega) (by omega) (by omega)]; exact v7 j hj, vc.rows (fun k h1 h2 => q _ (by omega) (by omega) (by omega)), fun b z hb hz => by rw [q _ (by omega) (by omega) (by omega)]; exact v19 b z hb hz, fun j hj => by rw [q _ (by omega) (by omega) (by omega)]; exact v20 j hj, fun j hj => by rw [q _ (by omega) (by omega) (by omega)]; exact v21 j hj, fun j hj => by rw [q _ (by omega) (by omega) (by omega)]; exact v22 j hj⟩
theorem nI_4x (b : Nat) : (4 : Int32) * nI b = nI (4 * b) := pk_mul 4 b
theorem nI_384x (b : Nat) : (384 : Int32) * nI b = nI (384 * b) := pk_mul 384 b
theorem nI_24x (b : Nat) : (24 : Int32) * nI b = nI (24 * b) := pk_mul 24 b
theorem nI_r24 {z : Nat} (h : z < 1000) : nI z - nI z / 24 * 24 = nI (z % 24) := pk_rem (d := 24) (by omega) (by omega) (by decide)
theorem nI_d24 {z : Nat} (h : z < 1000) : nI z / 24 = nI (z / 24) := pk_div (d := 24) (by omega) (by omega) (by decide)
theorem noI_neg : noI none < 0 := by decide
theorem noI_some (i : Nat) : noI (some i) = nI i := rfl
theorem bI_z {b : Bool} : bI b = 0 ↔ b = false := by cases b <;> decide

abbrev cvM (pl : Nat → Int32) (hd : Nat → Bool) (b : Nat) (x y : Int32) : Prop := arH (fa4 pl (4 * b)) x y ∧ hd b = false
def iaM (par : Nat → Option Nat) (pl : Nat → Int32) (hd : Nat → Bool) (x y : Int32) (b : Nat) : Nat → Bool
  | 0 => decide (onSc x y)
  | k + 1 => match anP par b k with
    | some a => iaM par pl hd x y b k && decide (cvM pl hd a x y)
    | none => iaM par pl hd x y b k
def inM (par : Nat → Option Nat) (pl : Nat → Int32) (hd : Nat → Bool) (b : Nat) (x y : Int32) : Bool := iaM par pl hd x y b 6
def smM (par : Nat → Option Nat) (pl : Nat → Int32) (hd : Nat → Bool) (b : Nat) : Nat → Bool
  | 0 => false
  | z + 1 => smM par pl hd b z || inM par pl hd b (nI (z % 24)) (nI (z / 24))
def canM (par : Nat → Option Nat) (pl : Nat → Int32) (hd : Nat → Bool) (kd : Nat → Int32) (o : Option Nat) : Bool := match o with
  | none => false
  | some b => decide (¬ kd b ≤ 0) && smM par pl hd b 384
theorem anM_lt {par : Nat → Option Nat} {nb b : Nat} (hp : ∀ i p, i < nb → par i = some p → p < i) (hb : b < nb) : ∀ k a, anP par b k = some a → a < nb
  | 0, a, h => by cases h; exact hb
  | k + 1, a, h => by
    unfold anP at h
    cases hc : anP par b k with
    | none => rw [hc] at h; cases h
    | some c =>
      rw [hc] at h
      have hc' := anM_lt hp hb k c hc
      have := hp c a hc' h
      omega
theorem iaM_stop {par : Nat → Option Nat} {pl : Nat → Int32} {hd : Nat → Bool} {x y : Int32} {b k : Nat} (h : anP par b k = none) : ∀ d, anP par b (k + d) = none ∧ iaM par pl hd x y b (k + d) = iaM par pl hd x y b k
  | 0 => ⟨h, rfl⟩
  | d + 1 => by
    obtain ⟨h1, h2⟩ := iaM_stop (pl := pl) (hd := hd) (x := x) (y := y) h d
    refine ⟨?_, ?_⟩
    · show (anP par b (k + d)).bind par = none
      rw [h1]; rfl
    · show (match anP par b (k + d) with | some a => iaM par pl hd x y b (k + d) && decide (cvM pl hd a x y) | none => iaM par pl hd x y b (k + d)) = _
      rw [h1]
      exact h2
theorem bI_dec {c : Prop} [Decidable c] : bI (decide c) = if c then 1 else 0 := by by_cases h : c <;> simp [bI, h]
theorem bI_1 : bI true = 1 := rfl
theorem cMO_covers {E : gE} {T : gT} {gi : gI} {gr : gR} {m : Nat} {nb : Nat} {par : Nat → Option Nat} {kd : Nat → Int32} {hd : Nat → Bool} {li : Nat → Bool} {ct : Nat → Int32} {rk : Nat → Nat} {rks : Nat} {w : Int32} {h : Int32} {pl : Nat → Int32} {cs : Nat → Option K5} {fo : Option Nat} {pr : Option Nat} {ar : Nat → Nat → Bool} {co : Nat → Int32} {D : Nat → Bool} {F : Nat → Int32} {b : Nat} {x y : Int32} (hI : MInv T gi gr m nb par kd hd li ct rk rks w h pl cs fo pr ar co D F) (hb : b < nb) : Ct E mMO_covers [.ref m, .int (nI b), .int x, .int y] T gi gr (fun T' gi' gr' v => T' = T ∧ gi' = gi ∧ gr' = gr ∧ v = some (.int (bI (decide (cvM pl hd b x y))))) := by
  have h6 : nb ≤ 6 := hI.2.2.1.1.2
  refine Ct_of (ls := [.ref m, .int (nI b), .int x, .int y]) (by decide) (gcat_cons rfl (gcat_cons rfl (gcat_cons rfl (gcat_cons rfl gcat_nil)))) (Nat.le_of_ble_eq_true rfl) rfl ?_
  refine G_aload_n dMO_covers_0 rfl ?_
  refine G_getRs fMO_33 dMO_covers_1 hI.1.1 hI.1.r7 ?_
  refine G_iconst (v := 4) dMO_covers_4 (by decide) ?_
  refine G_iload_n dMO_covers_5 rfl ?_
  refine G_imul dMO_covers_6 ?_
  refine G_st (st' := [.int (nI (4 * b)), .ref (m + 7)]) (by rw [nI_4x]) ?_
  refine G_ialdN dMO_covers_7 hI.1.t7 hI.1.l7 (by decide) (by omega) ?_
  rw [hI.2.2.2.2.2.2.2.2.2.1 (4 * b) (by omega)]
  refine G_iload_n dMO_covers_8 rfl ?_
  refine G_icmp_gt dMO_covers_9 (fun h1 => ?_) (fun h1 => ?_)
  · refine G_iconst (v := 0) dMO_covers_67 (by decide) ?_
    exact G_ireturn dMO_covers_68 rfl (nr_z (by decide)) (by decide) (by decide) ⟨rfl, rfl, rfl, by rw [decide_eq_false (show ¬ cvM pl hd b x y from fun z => z.1.1 h1)]; rfl⟩
  · refine G_iload_n dMO_covers_12 rfl ?_
    refine G_aload_n dMO_covers_13 rfl ?_
    refine G_getRs fMO_33 dMO_covers_14 hI.1.1 hI.1.r7 ?_
    refine G_iconst (v := 4) dMO_covers_17 (by decide) ?_
    refine G_iload_n dMO_covers_18 rfl ?_
    refine G_imul dMO_covers_19 ?_
    refine G_st (st' := [.int (nI (4 * b)), .ref (m + 7), .int x]) (by rw [nI_4x]) ?_
    refine G_iconst (v := 1) dMO_covers_20 (by decide) ?_
    refine G_iadd dMO_covers_21 ?_
    refine G_st (st' := [.int (nI (4 * b + 1)), .ref (m + 7), .int x]) (by rw [nI_p1]) ?_
    refine G_ialdN dMO_covers_22 hI.1.t7 hI.1.l7 (by decide) (by omega) ?_
    rw [hI.2.2.2.2.2.2.2.2.2.1 (4 * b + 1) (by omega)]
    refine G_icmp_ge dMO_covers_23 (fun h2 => ?_) (fun h2 => ?_)
    · refine G_iconst (v := 0) dMO_covers_67 (by decide) ?_
      exact G_ireturn dMO_covers_68 rfl (nr_z (by decide)) (by decide) (by decide) ⟨rfl, rfl, rfl, by rw [decide_eq_false (show ¬ cvM pl hd b x y from fun z => z.1.2.1 h2)]; rfl⟩
    · refine G_aload_n dMO_covers_26 rfl ?_
      refine G_getRs fMO_33 dMO_covers_27 hI.1.1 hI.1.r7 ?_
      refine G_iconst (v := 4) dMO_covers_30 (by decide) ?_
      refine G_iload_n dMO_covers_31 rfl ?_
      refine G_imul dMO_covers_32 ?_
      refine G_st (st' := [.int (nI (4 * b)), .ref (m + 7)]) (by rw [nI_4x]) ?_
      refine G_iconst (v := 2) dMO_covers_33 (by decide) ?_
      refine G_iadd dMO_covers_34 ?_
      refine G_st (st' := [.int (nI (4 * b + 2)), .ref (m + 7)]) (by rw [nI_p2]) ?_
      refine G_ialdN dMO_covers_35 hI.1.t7 hI.1.l7 (by decide) (by omega) ?_
      rw [hI.2.2.2.2.2.2.2.2.2.1 (4 * b + 2) (by omega)]
      refine G_iload_n dMO_covers_36 rfl ?_
      refine G_icmp_gt dMO_covers_37 (fun h3 => ?_) (fun h3 => ?_)
      · refine G_iconst (v := 0) dMO_covers_67 (by decide) ?_
        exact G_ireturn dMO_covers_68 rfl (nr_z (by decide)) (by decide) (by decide) ⟨rfl, rfl, rfl, by rw [decide_eq_false (show ¬ cvM pl hd b x y from fun z => z.1.2.2.1 h3)]; rfl⟩
      · refine G_iload_n dMO_covers_40 rfl ?_
        refine G_aload_n dMO_covers_41 rfl ?_
        refine G_getRs fMO_33 dMO_covers_42 hI.1.1 hI.1.r7 ?_
        refine G_iconst (v := 4) dMO_covers_45 (by decide) ?_
        refine G_iload_n dMO_covers_46 rfl ?_
        refine G_imul dMO_covers_47 ?_
        refine G_st (st' := [.int (nI (4 * b)), .ref (m + 7), .int y]) (by rw [nI_4x]) ?_
        refine G_iconst (v := 3) dMO_covers_48 (by decide) ?_
        refine G_iadd dMO_covers_49 ?_
        refine G_st (st' := [.int (nI (4 * b + 3)), .ref (m + 7), .int y]) (by rw [nI_p3]) ?_
        refine G_ialdN dMO_covers_50 hI.1.t7 hI.1.l7 (by decide) (by omega) ?_
        rw [hI.2.2.2.2.2.2.2.2.2.1 (4 * b + 3) (by omega)]
        refine G_icmp_ge dMO_covers_51 (fun h4 => ?_) (fun h4 => ?_)
        · refine G_iconst (v := 0) dMO_covers_67 (by decide) ?_
          exact G_ireturn dMO_covers_68 rfl (nr_z (by decide)) (by decide) (by decide) ⟨rfl, rfl, rfl, by rw [decide_eq_false (show ¬ cvM pl hd b x y from fun z => z.1.2.2.2 h4)]; rfl⟩
        · refine G_aload_n dMO_covers_54 rfl ?_
          refine G_getRs fMO_20 dMO_covers_55 hI.1.1 hI.1.r3 ?_
          refine G_iload_n dMO_covers_58 rfl ?_
          refine G_zaldN dMO_covers_59 hI.1.t3 hI.1.l3 (by decide) (by omega) ?_
          rw [hI.2.2.2.2.2.1 b (by omega)]
          refine G_if_ne dMO_covers_60 (fun h5 => ?_) (fun h5 => ?_)
          · refine G_iconst (v := 0) dMO_covers_67 (by decide) ?_
            exact G_ireturn dMO_covers_68 rfl (nr_z (by decide)) (by decide) (by decide) ⟨rfl, rfl, rfl, by rw [decide_eq_false (show ¬ cvM pl hd b x y from fun z => h5 (bI_z.mpr z.2))]; rfl⟩
          · refine G_iconst (v := 1) dMO_covers_63 (by decide) ?_
            refine G_goto dMO_covers_64 ?_
            exact G_ireturn dMO_covers_68 rfl (nr_z (by decide)) (by decide) (by decide) ⟨rfl, rfl, rfl, by rw [decide_eq_true (show cvM pl hd b x y from ⟨⟨h1, h2, h3, h4⟩, bI_z.mp h5⟩)]; rfl⟩
theorem ia_loop {E : gE} {T : gT} {gi : gI} {gr : gR} {m : Nat} {nb : Nat} {par : Nat → Option Nat} {kd : Nat → Int32} {hd : Nat → Bool} {li : Nat → Bool} {ct : Nat → Int32} {rk : Nat → Nat} {rks : Nat} {w : Int32} {h : Int32} {pl : Nat → Int32} {cs : Nat → Option K5} {fo : Option Nat} {pr : Option Nat} {ar : Nat → Nat → Bool} {co : Nat → Int32} {D : Nat → Bool} {F : Nat → Int32} {b : Nat} {x y : Int32} (hI : MInv T gi gr m nb par kd hd li ct rk rks w h pl cs fo pr ar co D F) (hb : b < nb) : ∀ (n k : Nat), k + n = 6 → G E mMO_inArea 33 [.ref m, .int (nI b), .int x, .int y, .int (bI (iaM par pl hd x y b k)), .int (noI (anP par b k)), .int (nI k)] [] T gi gr 0 0 (fun T' gi' gr' v => T' = T ∧ gi' = gi ∧ gr' = gr ∧ v = some (.int (bI (inM par pl hd b x y)))) := by
  have h6 : nb ≤ 6 := hI.2.2.1.1.2
  intro n
  induction n with
  | zero =>
    intro k hk
    have : k = 6 := by omega
    subst this
    refine G_iload dMO_inArea_33 rfl ?_
    refine G_bipush (v := 6) dMO_inArea_35 (by decide) ?_
    refine G_icmp_ge dMO_inArea_37 (fun _ => ?_) (fun z => absurd (by decide +kernel) z)
    refine G_iload dMO_inArea_83 rfl ?_
    exact G_ireturn dMO_inArea_85 rfl (nr_z (bI_01 _)) (by decide) (by decide) ⟨rfl, rfl, rfl, rfl⟩
  | succ n ih =>
    intro k hk
    refine G_iload dMO_inArea_33 rfl ?_
    refine G_bipush (v := 6) dMO_inArea_35 (by decide) ?_
    refine G_icmp_ge dMO_inArea_37 (fun z => absurd z (nI_ge (b := 6) (by omega) (by decide))) (fun _ => ?_)
    refine G_iload dMO_inArea_40 rfl ?_
    cases ha : anP par b k with
    | none =>
      refine G_if_lt dMO_inArea_42 (fun _ => ?_) (fun z => absurd noI_neg z)
      refine G_iload dMO_inArea_83 rfl ?_
      exact G_ireturn dMO_inArea_85 rfl (nr_z (bI_01 _)) (by decide) (by decide) ⟨rfl, rfl, rfl, by unfold inM; rw [← hk, (iaM_stop ha (n + 1)).2]⟩
    | some a =>
      have hal := anM_lt hI.2.2.1.2.1 hb k a ha
      have e1 : iaM par pl hd x y b (k + 1) = (iaM par pl hd x y b k && decide (cvM pl hd a x y)) := by
        show (match anP par b k with | some a => iaM par pl hd x y b k && decide (cvM pl hd a x y) | none => iaM par pl hd x y b k) = _
        rw [ha]
      have e2 : anP par b (k + 1) = par a := by
        show (anP par b k).bind par = par a
        rw [ha]; rfl
      refine G_if_lt dMO_inArea_42 (fun z => absurd z (nI_pos (by omega))) (fun _ => ?_)
      have nxt : ∀ v4 : Bool, v4 = iaM par pl hd x y b (k + 1) → G E mMO_inArea 66 [.ref m, .int (nI b), .int x, .int y, .int (bI (iaM par pl hd x y b k)), .int (nI a), .int (nI k)] [.int (bI v4)] T gi gr 0 0 (fun T' gi' gr' v => T' = T ∧ gi' = gi ∧ gr' = gr ∧ v = some (.int (bI (inM par pl hd b x y)))) := by
        rintro v4 rfl
        refine G_istore (ls' := [.ref m, .int (nI b), .int x, .int y, .int (bI (iaM par pl hd x y b (k + 1))), .int (nI a), .int (nI k)]) dMO_inArea_66 (by decide) rfl ?_
        refine G_aload_n dMO_inArea_68 rfl ?_
        refine G_getRs fMO_17 dMO_inArea_69 hI.1.1 hI.1.r2 ?_
        refine G_iload dMO_inArea_72 rfl ?_
        refine G_ialdN dMO_inArea_74 hI.1.t2 hI.1.l2 (by decide) (by omega) ?_
        rw [hI.2.2.2.2.1 a hal]
        refine G_istore (ls' := [.ref m, .int (nI b), .int x, .int y, .int (bI (iaM par pl hd x y b (k + 1))), .int (noI (anP par b (k + 1))), .int (nI k)]) dMO_inArea_75 (by decide) (by rw [e2]; rfl) ?_
        refine G_iinc (ls' := [.ref m, .int (nI b), .int x, .int y, .int (bI (iaM par pl hd x y b (k + 1))), .int (noI (anP par b (k + 1))), .int (nI (k + 1))]) dMO_inArea_77 rfl (nI_inc k) (by decide) rfl ?_
        refine G_goto dMO_inArea_80 ?_
        exact ih (k + 1) (by omega)
      refine G_iload dMO_inArea_45 rfl ?_
      refine G_if_eq dMO_inArea_47 (fun h1 => ?_) (fun h1 => ?_)
      · refine G_iconst (v := bI false) dMO_inArea_65 (by decide) ?_
        exact nxt false (by rw [e1, bI_z.mp h1]; rfl)
      · have h1' : iaM par pl hd x y b k = true := by
          cases hc : iaM par pl hd x y b k with
          | true => rfl
          | false => rw [hc] at h1; exact absurd rfl h1
        refine G_aload_n dMO_inArea_50 rfl ?_
        refine G_iload dMO_inArea_51 rfl ?_
        refine G_iload_n dMO_inArea_53 rfl ?_
        refine G_iload_n dMO_inArea_54 rfl ?_
        refine G_callV (As := [.int (nI a), .int x, .int y]) (rest := []) gMO_inArea_MO_covers lMO_96.1 lMO_96.2.1 lMO_96.2.2.1 lMO_96.2.2.2 dMO_inArea_55 rfl (Nat.le_of_ble_eq_true rfl) hI.1.1 ⟨by decide, by decide⟩ (cMO_covers hI hal) ?_
        refine same4 ?_
        refine G_st (st' := [.int (bI (decide (cvM pl hd a x y)))]) rfl ?_
        refine G_if_eq dMO_inArea_58 (fun h2 => ?_) (fun h2 => ?_)
        · refine G_iconst (v := bI false) dMO_inArea_65 (by decide) ?_
          exact nxt false (by rw [e1, bI_z.mp h2, h1']; rfl)
        · have h2' : decide (cvM pl hd a x y) = true := by
            cases hc : decide (cvM pl hd a x y) with
            | true => rfl
            | false => rw [hc] at h2; exact absurd rfl h2
          refine G_iconst (v := bI true) dMO_inArea_61 (by decide) ?_
          refine G_goto dMO_inArea_62 ?_
          exact nxt true (by rw [e1, h2', h1']; rfl)
theorem cMO_inArea {E : gE} {T : gT} {gi : gI} {gr : gR} {m : Nat} {nb : Nat} {par : Nat → Option Nat} {kd : Nat → Int32} {hd : Nat → Bool} {li : Nat → Bool} {ct : Nat → Int32} {rk : Nat → Nat} {rks : Nat} {w : Int32} {h : Int32} {pl : Nat → Int32} {cs : Nat → Option K5} {fo : Option Nat} {pr : Option Nat} {ar : Nat → Nat → Bool} {co : Nat → Int32} {D : Nat → Bool} {F : Nat → Int32} {b : Nat} {x y : Int32} (hI : MInv T gi gr m nb par kd hd li ct rk rks w h pl cs fo pr ar co D F) (hb : b < nb) : Ct E mMO_inArea [.ref m, .int (nI b), .int x, .int y] T gi gr (fun T' gi' gr' v => T' = T ∧ gi' = gi ∧ gr' = gr ∧ v = some (.int (bI (inM par pl hd b x y)))) := by
  refine Ct_of (ls := [.ref m, .int (nI b), .int x, .int y, .long 0, .long 0, .long 0]) (by decide) (gcat_cons rfl (gcat_cons rfl (gcat_cons rfl (gcat_cons rfl gcat_nil)))) (Nat.le_of_ble_eq_true rfl) rfl ?_
  have nxt : ∀ v4 : Bool, v4 = decide (onSc x y) → G E mMO_inArea 25 [.ref m, .int (nI b), .int x, .int y, .long 0, .long 0, .long 0] [.int (bI v4)] T gi gr 0 0 (fun T' gi' gr' v => T' = T ∧ gi' = gi ∧ gr' = gr ∧ v = some (.int (bI (inM par pl hd b x y)))) := by
    rintro v4 rfl
    refine G_istore (ls' := [.ref m, .int (nI b), .int x, .int y, .int (bI (decide (onSc x y))), .long 0, .long 0]) dMO_inArea_25 (by decide) rfl ?_
    refine G_iload_n dMO_inArea_27 rfl ?_
    refine G_istore (ls' := [.ref m, .int (nI b), .int x, .int y, .int (bI (decide (onSc x y))), .int (nI b), .long 0]) dMO_inArea_28 (by decide) rfl ?_
    refine G_iconst (v := nI 0) dMO_inArea_30 (by decide +kernel) ?_
    refine G_istore (ls' := [.ref m, .int (nI b), .int x, .int y, .int (bI (decide (onSc x y))), .int (nI b), .int (nI 0)]) dMO_inArea_31 (by decide) rfl ?_
    exact ia_loop hI hb 6 0 rfl
  have no : ¬ onSc x y → G E mMO_inArea 24 [.ref m, .int (nI b), .int x, .int y, .long 0, .long 0, .long 0] [] T gi gr 0 0 (fun T' gi' gr' v => T' = T ∧ gi' = gi ∧ gr' = gr ∧ v = some (.int (bI (inM par pl hd b x y)))) := by
    intro hn
    refine G_iconst (v := bI false) dMO_inArea_24 (by decide) ?_
    exact nxt false (decide_eq_false hn).symm
  refine G_iload_n dMO_inArea_0 rfl ?_
  refine G_if_lt dMO_inArea_1 (fun h1 => no (fun z => z.1 h1)) (fun h1 => ?_)
  refine G_iload_n dMO_inArea_4 rfl ?_
  refine G_bipush (v := 24) dMO_inArea_5 (by decide) ?_
  refine G_icmp_ge dMO_inArea_7 (fun h2 => no (fun z => z.2.1 h2)) (fun h2 => ?_)
  refine G_iload_n dMO_inArea_10 rfl ?_
  refine G_if_lt dMO_inArea_11 (fun h3 => no (fun z => z.2.2.1 h3)) (fun h3 => ?_)
  refine G_iload_n dMO_inArea_14 rfl ?_
  refine G_bipush (v := 16) dMO_inArea_15 (by decide) ?_
  refine G_icmp_ge dMO_inArea_17 (fun h4 => no (fun z => z.2.2.2 h4)) (fun h4 => ?_)
  refine G_iconst (v := bI true) dMO_inArea_20 (by decide) ?_
  refine G_goto dMO_inArea_21 ?_
  exact nxt true (decide_eq_true (show onSc x y from ⟨h1, h2, h3, h4⟩)).symm
