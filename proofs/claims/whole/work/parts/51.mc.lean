def MK (T0 : gT) (i0 : gI) (r0 : gR) (T : gT) (gi : gI) (gr : gR) (m K : Nat) (g : Nat → Int32) : Prop := T.1 m = 8 ∧ T.2.2 = m + 1 + K ∧ (∀ k, k < K → gr m (mSl k) = some (m + (k + 1)) ∧ T.1 (m + (k + 1)) = mTg k ∧ T.2.1 (m + (k + 1)) = mLn k ∧ gi (m + (k + 1)) = fun _ => 0) ∧ gi m = g ∧ FrB T0 T i0 gi r0 gr m
theorem mSl_ne : ∀ K, K < 22 → ∀ k, k < 22 → k < K → mSl k ≠ mSl K := by decide
theorem MK_arr {T0 T : gT} {i0 gi : gI} {r0 gr : gR} {m K : Nat} {g : Nat → Int32} (h : MK T0 i0 r0 T gi gr m K g) (hK : K < 22) : MK T0 i0 r0 (gNa T (m + 1 + K) (mTg K) (mLn K)) (gup gi (m + 1 + K) (fun _ => 0)) (gu (gup gr (m + 1 + K) (fun _ => none)) m (mSl K) (some (m + 1 + K))) m (K + 1) g := by
  obtain ⟨h1, h2, h3, h4, h5⟩ := h
  refine ⟨gNa_tag h1 (by omega), rfl, fun k hk => ?_, ?_, fun a ha => ?_⟩
  · by_cases e : k = K
    · subst e
      have e1 : m + (k + 1) = m + 1 + k := by omega
      rw [e1]
      exact ⟨gu_same, gup_same, gup_same, gup_same⟩
    · obtain ⟨a1, a2, a3, a4⟩ := h3 k (by omega)
      refine ⟨?_, ?_, ?_, ?_⟩
      · rw [gu_ne (Or.inr (mSl_ne K hK k (by omega) (by omega))), gup_ne (by omega)]; exact a1
      · exact (gup_ne (by omega)).trans a2
      · exact (gup_ne (by omega)).trans a3
      · rw [gup_ne (by omega)]; exact a4
  · rw [gup_ne (by omega)]; exact h4
  · obtain ⟨b1, b2, b3, b4⟩ := h5 a ha
    exact ⟨(gup_ne (by omega)).trans b1, (gup_ne (by omega)).trans b2, (gup_ne (by omega)).trans b3, by rw [gu_off (by omega), gup_ne (by omega)]; exact b4⟩
theorem MK_slot {T0 T : gT} {i0 gi : gI} {r0 gr : gR} {m K s : Nat} {x : Int32} {g : Nat → Int32} (h : MK T0 i0 r0 T gi gr m K g) : MK T0 i0 r0 T (gu gi m s x) gr m K (gup g s x) := by
  obtain ⟨h1, h2, h3, h4, h5⟩ := h
  refine ⟨h1, h2, fun k hk => ?_, ?_, fun a ha => ?_⟩
  · rw [gu_off (by omega)]; exact h3 k hk
  · funext j
    rw [← h4]
    exact gu_b rfl
  · obtain ⟨b1, b2, b3, b4⟩ := h5 a ha
    exact ⟨b1, b2, by rw [gu_off (by omega)]; exact b3, b4⟩

theorem mi_e {E : gE} {T0 T : gT} {i0 gi : gI} {r0 gr : gR} {m : Nat} {x y : Int32} (kz nz : Nat) (hkz : kz = 22) (hnz : nz = 3642) (k0 : MK T0 i0 r0 T gi gr m 22 (gup (gup (gup (gup (gup (fun _ => 0) 0 (nI 1)) 23 (noI none)) 24 (noI none)) 8 (nearI x 1 24)) 9 (nearI y 1 16))) : G E mMO_init 248 [.ref m, .int x, .int y] [] T gi gr kz nz (fun T' gi' gr' v => v = none ∧ T'.2.2 = m + 23 ∧ FrB T0 T' i0 gi' r0 gr' m ∧ MInv T' gi' gr' m 1 (fun _ => none) (fun _ => 0) (fun _ => false) (fun _ => false) (fun _ => 0) (fun _ => 0) 0 (nearI x 1 24) (nearI y 1 16) (pl0 x y) (fun _ => none) (atM (fun _ => none) (pl0 x y) (fun _ => false) (fun _ => 0) none) (atM (fun _ => none) (pl0 x y) (fun _ => false) (fun _ => 0) none) (lookS 1 (fun _ => none) (fun _ => 0) (fun _ => false) (fun _ => false) (pl0 x y) none none (fun _ _ => false) (fun _ => 0) (fun _ => false)).1 (lookS 1 (fun _ => none) (fun _ => 0) (fun _ => false) (fun _ => false) (pl0 x y) none none (fun _ _ => false) (fun _ => 0) (fun _ => false)).2.1 (lookS 1 (fun _ => none) (fun _ => 0) (fun _ => false) (fun _ => false) (pl0 x y) none none (fun _ _ => false) (fun _ => 0) (fun _ => false)).2.2 (fun _ => 0)) := by
  subst hkz
  subst hnz
  have hok : MOk T gr m := ⟨k0.1, fun k hk => ⟨(k0.2.2.1 k hk).1, (k0.2.2.1 k hk).2.1, (k0.2.2.1 k hk).2.2.1⟩⟩
  have kk := k0
  refine G_aload_n dMO_init_248 rfl ?_
  refine G_getRs fMO_33 dMO_init_249 hok.1 hok.r7 ?_
  refine G_iconst (v := nI 1) dMO_init_252 (by decide +kernel) ?_
  refine G_aload_n dMO_init_253 rfl ?_
  refine G_getI fMO_87 dMO_init_254 hok.1 ?_
  rw [kk.2.2.2.1]
  refine G_st (st' := [.int (nearI x 1 24), .int (nI 1), .ref (m + 7)]) rfl ?_
  refine G_iastN dMO_init_257 hok.t7 hok.l7 (by decide) (by decide) ?_
  refine G_aload_n dMO_init_258 rfl ?_
  refine G_getRs fMO_33 dMO_init_259 hok.1 hok.r7 ?_
  refine G_iconst (v := nI 3) dMO_init_262 (by decide +kernel) ?_
  refine G_aload_n dMO_init_263 rfl ?_
  refine G_getI fMO_90 dMO_init_264 hok.1 ?_
  rw [gu_off (by omega), kk.2.2.2.1]
  refine G_st (st' := [.int (nearI y 1 16), .int (nI 3), .ref (m + 7)]) rfl ?_
  refine G_iastN dMO_init_267 hok.t7 hok.l7 (by decide) (by decide) ?_
  refine G_aload_n dMO_init_268 rfl ?_
  refine G_getRs fMO_17 dMO_init_269 hok.1 hok.r2 ?_
  refine G_iconst (v := nI 0) dMO_init_272 (by decide +kernel) ?_
  refine G_iconst (v := noI none) dMO_init_273 (by decide) ?_
  refine G_iastN dMO_init_274 hok.t2 hok.l2 (by decide) (by decide) ?_
  have oA : ∀ a, a ≠ m + 7 → a ≠ m + 2 → gu (gu (gu gi (m + 7) 1 (nearI x 1 24)) (m + 7) 3 (nearI y 1 16)) (m + 2) 0 (noI none) a = gi a := fun a e1 e2 => by rw [gu_off e2, gu_off e1, gu_off e1]
  have o7 : ∀ k, gu (gu (gu gi (m + 7) 1 (nearI x 1 24)) (m + 7) 3 (nearI y 1 16)) (m + 2) 0 (noI none) (m + 7) k = if k = 3 then nearI y 1 16 else if k = 1 then nearI x 1 24 else gi (m + 7) k := fun k => by rw [gu_off (by omega), gu_row, gu_row]
  have o2 : ∀ k, gu (gu (gu gi (m + 7) 1 (nearI x 1 24)) (m + 7) 3 (nearI y 1 16)) (m + 2) 0 (noI none) (m + 2) k = if k = 0 then noI none else gu (gu gi (m + 7) 1 (nearI x 1 24)) (m + 7) 3 (nearI y 1 16) (m + 2) k := fun k => gu_row k
  generalize gu (gu (gu gi (m + 7) 1 (nearI x 1 24)) (m + 7) 3 (nearI y 1 16)) (m + 2) 0 (noI none) = g2 at oA o7 o2 ⊢
  have zr : ∀ k, k < 22 → gi (m + (k + 1)) = fun _ => 0 := fun k hk => (kk.2.2.1 k hk).2.2.2
  have hI : MInv T g2 gr m 1 (fun _ => none) (fun _ => 0) (fun _ => false) (fun _ => false) (fun _ => 0) (fun _ => 0) 0 (nearI x 1 24) (nearI y 1 16) (pl0 x y) (fun _ => none) none none (fun _ _ => false) (fun _ => 0) (fun _ => false) (fun _ => 0) := by
    refine ⟨hok, ?_, ⟨⟨Nat.le_refl _, by decide⟩, (fun i p _ hp => by cases hp), (fun i hi => by cases hi), (fun i hi => by cases hi)⟩, fun k hk => ?_, fun k hk => ?_, fun k hk => ?_, fun k hk => ?_, fun k hk => ?_, fun k hk => ?_, fun k hk => ?_, fun k hk => ⟨fun _ => ?_, fun κ hκ => by cases hκ⟩, fun b z hb hz => ?_, fun k hk => ?_, fun k hk => ?_, fun k hk => ?_⟩
    · rw [oA m (by omega) (by omega), kk.2.2.2.1]
      exact ⟨rfl, nI_0.symm, rfl, rfl, rfl, rfl⟩
    · rw [oA _ (by omega) (by omega), zr 0 (by decide)]
    · have : k = 0 := by omega
      subst this
      rw [o2, if_pos rfl]
    · rw [oA _ (by omega) (by omega), zr 2 (by decide)]; rfl
    · rw [oA _ (by omega) (by omega), zr 3 (by decide)]; rfl
    · rw [oA _ (by omega) (by omega), zr 4 (by decide)]
    · rw [oA _ (by omega) (by omega), zr 5 (by decide)]; exact nI_0.symm
    · rw [o7, zr 6 (by decide)]
      unfold pl0
      by_cases c3 : k = 3
      · subst c3; rw [if_pos rfl, if_neg (by decide), if_pos rfl]
      · rw [if_neg c3]
        by_cases c1 : k = 1
        · rw [if_pos c1, if_pos c1]
        · rw [if_neg c1, if_neg c1, if_neg c3]
    · rw [oA _ (by omega) (by omega), zr 8 (by decide)]
    · rw [oA _ (by omega) (by omega), zr 18 (by decide)]; rfl
    · rw [oA _ (by omega) (by omega), zr 19 (by decide)]
    · rw [oA _ (by omega) (by omega), zr 20 (by decide)]; rfl
    · rw [oA _ (by omega) (by omega), zr 21 (by decide)]
  refine G_aload_n dMO_init_275 rfl ?_
  refine G_callV (As := []) (rest := []) gMO_init_MO_look lMO_93.1 lMO_93.2.1 lMO_93.2.2.1 lMO_93.2.2.2 dMO_init_276 rfl (Nat.le_of_ble_eq_true rfl) hok.1 ⟨by decide, by decide⟩ (cMO_look hI) ?_
  rintro T9 g9 r9 _ ⟨e8, e9, rfl, hO9, hI9⟩
  cases e8.symm
  cases e9.symm
  refine G_st (st' := []) rfl ?_
  refine G_return dMO_init_279 rfl (by decide) (by decide) ⟨rfl, kk.2.1, fun a ha => ?_, hI9⟩
  obtain ⟨b1, b2, b3, b4⟩ := kk.2.2.2.2 a ha
  exact ⟨b1, b2, by rw [hO9 a (by omega), oA a (by omega) (by omega)]; exact b3, b4⟩
theorem mi_d {E : gE} {T0 T : gT} {i0 gi : gI} {r0 gr : gR} {m : Nat} {x y : Int32} (kz nz : Nat) (hkz : kz = 22) (hnz : nz = 3642) (k0 : MK T0 i0 r0 T gi gr m 22 (gup (gup (gup (gup (fun _ => 0) 0 (nI 1)) 23 (noI none)) 24 (noI none)) 8 (nearI x 1 24))) : G E mMO_init 223 [.ref m, .int x, .int y] [] T gi gr kz nz (fun T' gi' gr' v => v = none ∧ T'.2.2 = m + 23 ∧ FrB T0 T' i0 gi' r0 gr' m ∧ MInv T' gi' gr' m 1 (fun _ => none) (fun _ => 0) (fun _ => false) (fun _ => false) (fun _ => 0) (fun _ => 0) 0 (nearI x 1 24) (nearI y 1 16) (pl0 x y) (fun _ => none) (atM (fun _ => none) (pl0 x y) (fun _ => false) (fun _ => 0) none) (atM (fun _ => none) (pl0 x y) (fun _ => false) (fun _ => 0) none) (lookS 1 (fun _ => none) (fun _ => 0) (fun _ => false) (fun _ => false) (pl0 x y) none none (fun _ _ => false) (fun _ => 0) (fun _ => false)).1 (lookS 1 (fun _ => none) (fun _ => 0) (fun _ => false) (fun _ => false) (pl0 x y) none none (fun _ _ => false) (fun _ => 0) (fun _ => false)).2.1 (lookS 1 (fun _ => none) (fun _ => 0) (fun _ => false) (fun _ => false) (pl0 x y) none none (fun _ _ => false) (fun _ => 0) (fun _ => false)).2.2 (fun _ => 0)) := by
  have hok : T.1 m = 8 := k0.1
  have put : ∀ d, d = nearI y 1 16 → G E mMO_init 245 [.ref m, .int x, .int y] [.int d, .ref m] T gi gr kz nz (fun T' gi' gr' v => v = none ∧ T'.2.2 = m + 23 ∧ FrB T0 T' i0 gi' r0 gr' m ∧ MInv T' gi' gr' m 1 (fun _ => none) (fun _ => 0) (fun _ => false) (fun _ => false) (fun _ => 0) (fun _ => 0) 0 (nearI x 1 24) (nearI y 1 16) (pl0 x y) (fun _ => none) (atM (fun _ => none) (pl0 x y) (fun _ => false) (fun _ => 0) none) (atM (fun _ => none) (pl0 x y) (fun _ => false) (fun _ => 0) none) (lookS 1 (fun _ => none) (fun _ => 0) (fun _ => false) (fun _ => false) (pl0 x y) none none (fun _ _ => false) (fun _ => 0) (fun _ => false)).1 (lookS 1 (fun _ => none) (fun _ => 0) (fun _ => false) (fun _ => false) (pl0 x y) none none (fun _ _ => false) (fun _ => 0) (fun _ => false)).2.1 (lookS 1 (fun _ => none) (fun _ => 0) (fun _ => false) (fun _ => false) (pl0 x y) none none (fun _ _ => false) (fun _ => 0) (fun _ => false)).2.2 (fun _ => 0)) := by
    rintro d rfl
    refine G_putI wMO_90 (Or.inl rfl) dMO_init_245 hok rfl rfl ?_
    exact mi_e _ _ hkz hnz (MK_slot k0)
  refine G_aload_n dMO_init_223 rfl ?_
  refine G_iload_n dMO_init_224 rfl ?_
  refine G_iconst (v := 1) dMO_init_225 (by decide) ?_
  refine G_icmp_ge dMO_init_226 (fun h1 => ?_) (fun h1 => ?_)
  · refine G_iload_n dMO_init_233 rfl ?_
    refine G_bipush (v := 16) dMO_init_234 (by decide) ?_
    refine G_icmp_le dMO_init_236 (fun h2 => ?_) (fun h2 => ?_)
    · refine G_iload_n dMO_init_244 rfl ?_
      exact put _ (by unfold nearI; rw [if_pos h1, if_pos h2])
    · refine G_bipush (v := 16) dMO_init_239 (by decide) ?_
      refine G_goto dMO_init_241 ?_
      exact put _ (by unfold nearI; rw [if_pos h1, if_neg h2])
  · refine G_iconst (v := 1) dMO_init_229 (by decide) ?_
    refine G_goto dMO_init_230 ?_
    exact put _ (by unfold nearI; rw [if_neg h1])
theorem mi_c {E : gE} {T0 T : gT} {i0 gi : gI} {r0 gr : gR} {m : Nat} {x y : Int32} (kz nz : Nat) (hkz : kz = 22) (hnz : nz = 3642) (k0 : MK T0 i0 r0 T gi gr m 22 (gup (gup (gup (fun _ => 0) 0 (nI 1)) 23 (noI none)) 24 (noI none))) : G E mMO_init 198 [.ref m, .int x, .int y] [] T gi gr kz nz (fun T' gi' gr' v => v = none ∧ T'.2.2 = m + 23 ∧ FrB T0 T' i0 gi' r0 gr' m ∧ MInv T' gi' gr' m 1 (fun _ => none) (fun _ => 0) (fun _ => false) (fun _ => false) (fun _ => 0) (fun _ => 0) 0 (nearI x 1 24) (nearI y 1 16) (pl0 x y) (fun _ => none) (atM (fun _ => none) (pl0 x y) (fun _ => false) (fun _ => 0) none) (atM (fun _ => none) (pl0 x y) (fun _ => false) (fun _ => 0) none) (lookS 1 (fun _ => none) (fun _ => 0) (fun _ => false) (fun _ => false) (pl0 x y) none none (fun _ _ => false) (fun _ => 0) (fun _ => false)).1 (lookS 1 (fun _ => none) (fun _ => 0) (fun _ => false) (fun _ => false) (pl0 x y) none none (fun _ _ => false) (fun _ => 0) (fun _ => false)).2.1 (lookS 1 (fun _ => none) (fun _ => 0) (fun _ => false) (fun _ => false) (pl0 x y) none none (fun _ _ => false) (fun _ => 0) (fun _ => false)).2.2 (fun _ => 0)) := by
  have hok : T.1 m = 8 := k0.1
  have put : ∀ d, d = nearI x 1 24 → G E mMO_init 220 [.ref m, .int x, .int y] [.int d, .ref m] T gi gr kz nz (fun T' gi' gr' v => v = none ∧ T'.2.2 = m + 23 ∧ FrB T0 T' i0 gi' r0 gr' m ∧ MInv T' gi' gr' m 1 (fun _ => none) (fun _ => 0) (fun _ => false) (fun _ => false) (fun _ => 0) (fun _ => 0) 0 (nearI x 1 24) (nearI y 1 16) (pl0 x y) (fun _ => none) (atM (fun _ => none) (pl0 x y) (fun _ => false) (fun _ => 0) none) (atM (fun _ => none) (pl0 x y) (fun _ => false) (fun _ => 0) none) (lookS 1 (fun _ => none) (fun _ => 0) (fun _ => false) (fun _ => false) (pl0 x y) none none (fun _ _ => false) (fun _ => 0) (fun _ => false)).1 (lookS 1 (fun _ => none) (fun _ => 0) (fun _ => false) (fun _ => false) (pl0 x y) none none (fun _ _ => false) (fun _ => 0) (fun _ => false)).2.1 (lookS 1 (fun _ => none) (fun _ => 0) (fun _ => false) (fun _ => false) (pl0 x y) none none (fun _ _ => false) (fun _ => 0) (fun _ => false)).2.2 (fun _ => 0)) := by
    rintro d rfl
    refine G_putI wMO_87 (Or.inl rfl) dMO_init_220 hok rfl rfl ?_
    exact mi_d _ _ hkz hnz (MK_slot k0)
  refine G_aload_n dMO_init_198 rfl ?_
  refine G_iload_n dMO_init_199 rfl ?_
  refine G_iconst (v := 1) dMO_init_200 (by decide) ?_
  refine G_icmp_ge dMO_init_201 (fun h1 => ?_) (fun h1 => ?_)
  · refine G_iload_n dMO_init_208 rfl ?_
    refine G_bipush (v := 24) dMO_init_209 (by decide) ?_
    refine G_icmp_le dMO_init_211 (fun h2 => ?_) (fun h2 => ?_)
    · refine G_iload_n dMO_init_219 rfl ?_
      exact put _ (by unfold nearI; rw [if_pos h1, if_pos h2])
    · refine G_bipush (v := 24) dMO_init_214 (by decide) ?_
      refine G_goto dMO_init_216 ?_
      exact put _ (by unfold nearI; rw [if_pos h1, if_neg h2])
  · refine G_iconst (v := 1) dMO_init_204 (by decide) ?_
    refine G_goto dMO_init_205 ?_
    exact put _ (by unfold nearI; rw [if_neg h1])
theorem mi_b3 {E : gE} {T0 T : gT} {i0 gi : gI} {r0 gr : gR} {m : Nat} {x y : Int32} (kz nz : Nat) (hkz : kz = 17) (hnz : nz = 540) (k0 : MK T0 i0 r0 T gi gr m 17 (gup (fun _ => 0) 0 (nI 1))) : G E mMO_init 145 [.ref m, .int x, .int y] [] T gi gr kz nz (fun T' gi' gr' v => v = none ∧ T'.2.2 = m + 23 ∧ FrB T0 T' i0 gi' r0 gr' m ∧ MInv T' gi' gr' m 1 (fun _ => none) (fun _ => 0) (fun _ => false) (fun _ => false) (fun _ => 0) (fun _ => 0) 0 (nearI x 1 24) (nearI y 1 16) (pl0 x y) (fun _ => none) (atM (fun _ => none) (pl0 x y) (fun _ => false) (fun _ => 0) none) (atM (fun _ => none) (pl0 x y) (fun _ => false) (fun _ => 0) none) (lookS 1 (fun _ => none) (fun _ => 0) (fun _ => false) (fun _ => false) (pl0 x y) none none (fun _ _ => false) (fun _ => 0) (fun _ => false)).1 (lookS 1 (fun _ => none) (fun _ => 0) (fun _ => false) (fun _ => false) (pl0 x y) none none (fun _ _ => false) (fun _ => 0) (fun _ => false)).2.1 (lookS 1 (fun _ => none) (fun _ => 0) (fun _ => false) (fun _ => false) (pl0 x y) none none (fun _ _ => false) (fun _ => 0) (fun _ => false)).2.2 (fun _ => 0)) := by
  subst hkz
  subst hnz
  refine G_aload_n dMO_init_145 rfl ?_
  refine G_bipush (v := 24) dMO_init_146 (by decide) ?_
  refine G_newaA 0 (a := m + 1 + 17) (len := 24) dMO_init_148 k0.2.1 (by decide) rfl aI (by decide) (by decide) (by decide) (by decide) (by decide) ?_
  refine G_putR (r := some (m + 1 + 17)) rfl wMO_66 (Or.inr rfl) dMO_init_150 (gNa_tag k0.1 (by omega)) (nr_a _) (ft_a _) ?_
  have k18 : MK T0 i0 r0 (gNa T (m + 1 + 17) 100 24) (gup gi (m + 1 + 17) (fun _ => 0)) (gu (gup gr (m + 1 + 17) (fun _ => none)) m 22 (some (m + 1 + 17))) m 18 (gup (fun _ => 0) 0 (nI 1)) := MK_arr k0 (by decide)
  generalize gNa T (m + 1 + 17) 100 24 = T18 at k18 ⊢
  generalize gup gi (m + 1 + 17) (fun _ => 0) = i18 at k18 ⊢
  generalize gu (gup gr (m + 1 + 17) (fun _ => none)) m 22 (some (m + 1 + 17)) = r18 at k18 ⊢
  refine G_aload_n dMO_init_153 rfl ?_
  refine G_iconst (v := noI none) dMO_init_154 (by decide) ?_
  refine G_putI wMO_69 (Or.inr rfl) dMO_init_155 k18.1 rfl rfl ?_
  have z23 := MK_slot (s := 23) (x := noI none) k18
  generalize gu i18 m 23 (noI none) = j23 at z23 ⊢
  refine G_aload_n dMO_init_158 rfl ?_
  refine G_iconst (v := noI none) dMO_init_159 (by decide) ?_
  refine G_putI wMO_72 (Or.inr rfl) dMO_init_160 z23.1 rfl rfl ?_
  have z24 := MK_slot (s := 24) (x := noI none) z23
  generalize gu j23 m 24 (noI none) = j24 at z24 ⊢
  refine G_aload_n dMO_init_163 rfl ?_
  refine G_sipush (v := 2304) dMO_init_164 (by decide) ?_
  refine G_newaA 1 (a := m + 1 + 18) (len := 2304) dMO_init_167 z24.2.1 (by decide) rfl aZ (by decide) (by decide) (by decide) (by decide) (by decide) ?_
  refine G_putR (r := some (m + 1 + 18)) rfl wMO_75 (Or.inr rfl) dMO_init_169 (gNa_tag z24.1 (by omega)) (nr_a _) (ft_a _) ?_
  have k19 : MK T0 i0 r0 (gNa T18 (m + 1 + 18) 101 2304) (gup j24 (m + 1 + 18) (fun _ => 0)) (gu (gup r18 (m + 1 + 18) (fun _ => none)) m 25 (some (m + 1 + 18))) m 19 (gup (gup (gup (fun _ => 0) 0 (nI 1)) 23 (noI none)) 24 (noI none)) := MK_arr z24 (by decide)
  generalize gNa T18 (m + 1 + 18) 101 2304 = T19 at k19 ⊢
  generalize gup j24 (m + 1 + 18) (fun _ => 0) = i19 at k19 ⊢
  generalize gu (gup r18 (m + 1 + 18) (fun _ => none)) m 25 (some (m + 1 + 18)) = r19 at k19 ⊢
  refine G_aload_n dMO_init_172 rfl ?_
  refine G_bipush (v := 6) dMO_init_173 (by decide) ?_
  refine G_newaA 0 (a := m + 1 + 19) (len := 6) dMO_init_175 k19.2.1 (by decide) rfl aI (by decide) (by decide) (by decide) (by decide) (by decide) ?_
  refine G_putR (r := some (m + 1 + 19)) rfl wMO_78 (Or.inr rfl) dMO_init_177 (gNa_tag k19.1 (by omega)) (nr_a _) (ft_a _) ?_
  have k20 : MK T0 i0 r0 (gNa T19 (m + 1 + 19) 100 6) (gup i19 (m + 1 + 19) (fun _ => 0)) (gu (gup r19 (m + 1 + 19) (fun _ => none)) m 26 (some (m + 1 + 19))) m 20 (gup (gup (gup (fun _ => 0) 0 (nI 1)) 23 (noI none)) 24 (noI none)) := MK_arr k19 (by decide)
  generalize gNa T19 (m + 1 + 19) 100 6 = T20 at k20 ⊢
  generalize gup i19 (m + 1 + 19) (fun _ => 0) = i20 at k20 ⊢
  generalize gu (gup r19 (m + 1 + 19) (fun _ => none)) m 26 (some (m + 1 + 19)) = r20 at k20 ⊢
  refine G_aload_n dMO_init_180 rfl ?_
  refine G_sipush (v := 384) dMO_init_181 (by decide) ?_
  refine G_newaA 1 (a := m + 1 + 20) (len := 384) dMO_init_184 k20.2.1 (by decide) rfl aZ (by decide) (by decide) (by decide) (by decide) (by decide) ?_
  refine G_putR (r := some (m + 1 + 20)) rfl wMO_81 (Or.inr rfl) dMO_init_186 (gNa_tag k20.1 (by omega)) (nr_a _) (ft_a _) ?_
  have k21 : MK T0 i0 r0 (gNa T20 (m + 1 + 20) 101 384) (gup i20 (m + 1 + 20) (fun _ => 0)) (gu (gup r20 (m + 1 + 20) (fun _ => none)) m 27 (some (m + 1 + 20))) m 21 (gup (gup (gup (fun _ => 0) 0 (nI 1)) 23 (noI none)) 24 (noI none)) := MK_arr k20 (by decide)
  generalize gNa T20 (m + 1 + 20) 101 384 = T21 at k21 ⊢
  generalize gup i20 (m + 1 + 20) (fun _ => 0) = i21 at k21 ⊢
  generalize gu (gup r20 (m + 1 + 20) (fun _ => none)) m 27 (some (m + 1 + 20)) = r21 at k21 ⊢
  refine G_aload_n dMO_init_189 rfl ?_
  refine G_sipush (v := 384) dMO_init_190 (by decide) ?_
  refine G_newaA 0 (a := m + 1 + 21) (len := 384) dMO_init_193 k21.2.1 (by decide) rfl aI (by decide) (by decide) (by decide) (by decide) (by decide) ?_
  refine G_putR (r := some (m + 1 + 21)) rfl wMO_84 (Or.inr rfl) dMO_init_195 (gNa_tag k21.1 (by omega)) (nr_a _) (ft_a _) ?_
  have k22 : MK T0 i0 r0 (gNa T21 (m + 1 + 21) 100 384) (gup i21 (m + 1 + 21) (fun _ => 0)) (gu (gup r21 (m + 1 + 21) (fun _ => none)) m 28 (some (m + 1 + 21))) m 22 (gup (gup (gup (fun _ => 0) 0 (nI 1)) 23 (noI none)) 24 (noI none)) := MK_arr k21 (by decide)
  generalize gNa T21 (m + 1 + 21) 100 384 = T22 at k22 ⊢
  generalize gup i21 (m + 1 + 21) (fun _ => 0) = i22 at k22 ⊢
  generalize gu (gup r21 (m + 1 + 21) (fun _ => none)) m 28 (some (m + 1 + 21)) = r22 at k22 ⊢
  exact mi_c _ _ (by decide) (by decide) k22
theorem mi_b2 {E : gE} {T0 T : gT} {i0 gi : gI} {r0 gr : gR} {m : Nat} {x y : Int32} (kz nz : Nat) (hkz : kz = 11) (hnz : nz = 132) (k0 : MK T0 i0 r0 T gi gr m 11 (gup (fun _ => 0) 0 (nI 1))) : G E mMO_init 97 [.ref m, .int x, .int y] [] T gi gr kz nz (fun T' gi' gr' v => v = none ∧ T'.2.2 = m + 23 ∧ FrB T0 T' i0 gi' r0 gr' m ∧ MInv T' gi' gr' m 1 (fun _ => none) (fun _ => 0) (fun _ => false) (fun _ => false) (fun _ => 0) (fun _ => 0) 0 (nearI x 1 24) (nearI y 1 16) (pl0 x y) (fun _ => none) (atM (fun _ => none) (pl0 x y) (fun _ => false) (fun _ => 0) none) (atM (fun _ => none) (pl0 x y) (fun _ => false) (fun _ => 0) none) (lookS 1 (fun _ => none) (fun _ => 0) (fun _ => false) (fun _ => false) (pl0 x y) none none (fun _ _ => false) (fun _ => 0) (fun _ => false)).1 (lookS 1 (fun _ => none) (fun _ => 0) (fun _ => false) (fun _ => false) (pl0 x y) none none (fun _ _ => false) (fun _ => 0) (fun _ => false)).2.1 (lookS 1 (fun _ => none) (fun _ => 0) (fun _ => false) (fun _ => false) (pl0 x y) none none (fun _ _ => false) (fun _ => 0) (fun _ => false)).2.2 (fun _ => 0)) := by
  subst hkz
  subst hnz
  refine G_aload_n dMO_init_97 rfl ?_
  refine G_bipush (v := 16) dMO_init_98 (by decide) ?_
  refine G_newaA 0 (a := m + 1 + 11) (len := 16) dMO_init_100 k0.2.1 (by decide) rfl aI (by decide) (by decide) (by decide) (by decide) (by decide) ?_
  refine G_putR (r := some (m + 1 + 11)) rfl wMO_48 (Or.inr rfl) dMO_init_102 (gNa_tag k0.1 (by omega)) (nr_a _) (ft_a _) ?_
  have k12 : MK T0 i0 r0 (gNa T (m + 1 + 11) 100 16) (gup gi (m + 1 + 11) (fun _ => 0)) (gu (gup gr (m + 1 + 11) (fun _ => none)) m 15 (some (m + 1 + 11))) m 12 (gup (fun _ => 0) 0 (nI 1)) := MK_arr k0 (by decide)
  generalize gNa T (m + 1 + 11) 100 16 = T12 at k12 ⊢
  generalize gup gi (m + 1 + 11) (fun _ => 0) = i12 at k12 ⊢
  generalize gu (gup gr (m + 1 + 11) (fun _ => none)) m 15 (some (m + 1 + 11)) = r12 at k12 ⊢
  refine G_aload_n dMO_init_105 rfl ?_
  refine G_bipush (v := 16) dMO_init_106 (by decide) ?_
  refine G_newaA 0 (a := m + 1 + 12) (len := 16) dMO_init_108 k12.2.1 (by decide) rfl aI (by decide) (by decide) (by decide) (by decide) (by decide) ?_
  refine G_putR (r := some (m + 1 + 12)) rfl wMO_51 (Or.inr rfl) dMO_init_110 (gNa_tag k12.1 (by omega)) (nr_a _) (ft_a _) ?_
  have k13 : MK T0 i0 r0 (gNa T12 (m + 1 + 12) 100 16) (gup i12 (m + 1 + 12) (fun _ => 0)) (gu (gup r12 (m + 1 + 12) (fun _ => none)) m 16 (some (m + 1 + 12))) m 13 (gup (fun _ => 0) 0 (nI 1)) := MK_arr k12 (by decide)
  generalize gNa T12 (m + 1 + 12) 100 16 = T13 at k13 ⊢
  generalize gup i12 (m + 1 + 12) (fun _ => 0) = i13 at k13 ⊢
  generalize gu (gup r12 (m + 1 + 12) (fun _ => none)) m 16 (some (m + 1 + 12)) = r13 at k13 ⊢
  refine G_aload_n dMO_init_113 rfl ?_
  refine G_bipush (v := 16) dMO_init_114 (by decide) ?_
  refine G_newaA 0 (a := m + 1 + 13) (len := 16) dMO_init_116 k13.2.1 (by decide) rfl aI (by decide) (by decide) (by decide) (by decide) (by decide) ?_
  refine G_putR (r := some (m + 1 + 13)) rfl wMO_54 (Or.inr rfl) dMO_init_118 (gNa_tag k13.1 (by omega)) (nr_a _) (ft_a _) ?_
  have k14 : MK T0 i0 r0 (gNa T13 (m + 1 + 13) 100 16) (gup i13 (m + 1 + 13) (fun _ => 0)) (gu (gup r13 (m + 1 + 13) (fun _ => none)) m 17 (some (m + 1 + 13))) m 14 (gup (fun _ => 0) 0 (nI 1)) := MK_arr k13 (by decide)
  generalize gNa T13 (m + 1 + 13) 100 16 = T14 at k14 ⊢
  generalize gup i13 (m + 1 + 13) (fun _ => 0) = i14 at k14 ⊢
  generalize gu (gup r13 (m + 1 + 13) (fun _ => none)) m 17 (some (m + 1 + 13)) = r14 at k14 ⊢
  refine G_aload_n dMO_init_121 rfl ?_
  refine G_bipush (v := 120) dMO_init_122 (by decide) ?_
  refine G_newaA 0 (a := m + 1 + 14) (len := 120) dMO_init_124 k14.2.1 (by decide) rfl aI (by decide) (by decide) (by decide) (by decide) (by decide) ?_
  refine G_putR (r := some (m + 1 + 14)) rfl wMO_57 (Or.inr rfl) dMO_init_126 (gNa_tag k14.1 (by omega)) (nr_a _) (ft_a _) ?_
  have k15 : MK T0 i0 r0 (gNa T14 (m + 1 + 14) 100 120) (gup i14 (m + 1 + 14) (fun _ => 0)) (gu (gup r14 (m + 1 + 14) (fun _ => none)) m 19 (some (m + 1 + 14))) m 15 (gup (fun _ => 0) 0 (nI 1)) := MK_arr k14 (by decide)
  generalize gNa T14 (m + 1 + 14) 100 120 = T15 at k15 ⊢
  generalize gup i14 (m + 1 + 14) (fun _ => 0) = i15 at k15 ⊢
  generalize gu (gup r14 (m + 1 + 14) (fun _ => none)) m 19 (some (m + 1 + 14)) = r15 at k15 ⊢
  refine G_aload_n dMO_init_129 rfl ?_
  refine G_bipush (v := 120) dMO_init_130 (by decide) ?_
  refine G_newaA 0 (a := m + 1 + 15) (len := 120) dMO_init_132 k15.2.1 (by decide) rfl aI (by decide) (by decide) (by decide) (by decide) (by decide) ?_
  refine G_putR (r := some (m + 1 + 15)) rfl wMO_60 (Or.inr rfl) dMO_init_134 (gNa_tag k15.1 (by omega)) (nr_a _) (ft_a _) ?_
  have k16 : MK T0 i0 r0 (gNa T15 (m + 1 + 15) 100 120) (gup i15 (m + 1 + 15) (fun _ => 0)) (gu (gup r15 (m + 1 + 15) (fun _ => none)) m 20 (some (m + 1 + 15))) m 16 (gup (fun _ => 0) 0 (nI 1)) := MK_arr k15 (by decide)
  generalize gNa T15 (m + 1 + 15) 100 120 = T16 at k16 ⊢
  generalize gup i15 (m + 1 + 15) (fun _ => 0) = i16 at k16 ⊢
  generalize gu (gup r15 (m + 1 + 15) (fun _ => none)) m 20 (some (m + 1 + 15)) = r16 at k16 ⊢
  refine G_aload_n dMO_init_137 rfl ?_
  refine G_bipush (v := 120) dMO_init_138 (by decide) ?_
  refine G_newaA 0 (a := m + 1 + 16) (len := 120) dMO_init_140 k16.2.1 (by decide) rfl aI (by decide) (by decide) (by decide) (by decide) (by decide) ?_
  refine G_putR (r := some (m + 1 + 16)) rfl wMO_63 (Or.inr rfl) dMO_init_142 (gNa_tag k16.1 (by omega)) (nr_a _) (ft_a _) ?_
  have k17 : MK T0 i0 r0 (gNa T16 (m + 1 + 16) 100 120) (gup i16 (m + 1 + 16) (fun _ => 0)) (gu (gup r16 (m + 1 + 16) (fun _ => none)) m 21 (some (m + 1 + 16))) m 17 (gup (fun _ => 0) 0 (nI 1)) := MK_arr k16 (by decide)
  generalize gNa T16 (m + 1 + 16) 100 120 = T17 at k17 ⊢
  generalize gup i16 (m + 1 + 16) (fun _ => 0) = i17 at k17 ⊢
  generalize gu (gup r16 (m + 1 + 16) (fun _ => none)) m 21 (some (m + 1 + 16)) = r17 at k17 ⊢
  exact mi_b3 _ _ (by decide) (by decide) k17
theorem mi_b1 {E : gE} {T0 T : gT} {i0 gi : gI} {r0 gr : gR} {m : Nat} {x y : Int32} (kz nz : Nat) (hkz : kz = 5) (hnz : nz = 30) (k0 : MK T0 i0 r0 T gi gr m 5 (gup (fun _ => 0) 0 (nI 1))) : G E mMO_init 49 [.ref m, .int x, .int y] [] T gi gr kz nz (fun T' gi' gr' v => v = none ∧ T'.2.2 = m + 23 ∧ FrB T0 T' i0 gi' r0 gr' m ∧ MInv T' gi' gr' m 1 (fun _ => none) (fun _ => 0) (fun _ => false) (fun _ => false) (fun _ => 0) (fun _ => 0) 0 (nearI x 1 24) (nearI y 1 16) (pl0 x y) (fun _ => none) (atM (fun _ => none) (pl0 x y) (fun _ => false) (fun _ => 0) none) (atM (fun _ => none) (pl0 x y) (fun _ => false) (fun _ => 0) none) (lookS 1 (fun _ => none) (fun _ => 0) (fun _ => false) (fun _ => false) (pl0 x y) none none (fun _ _ => false) (fun _ => 0) (fun _ => false)).1 (lookS 1 (fun _ => none) (fun _ => 0) (fun _ => false) (fun _ => false) (pl0 x y) none none (fun _ _ => false) (fun _ => 0) (fun _ => false)).2.1 (lookS 1 (fun _ => none) (fun _ => 0) (fun _ => false) (fun _ => false) (pl0 x y) none none (fun _ _ => false) (fun _ => 0) (fun _ => false)).2.2 (fun _ => 0)) := by
  subst hkz
  subst hnz
  refine G_aload_n dMO_init_49 rfl ?_
  refine G_bipush (v := 6) dMO_init_50 (by decide) ?_
  refine G_newaA 0 (a := m + 1 + 5) (len := 6) dMO_init_52 k0.2.1 (by decide) rfl aI (by decide) (by decide) (by decide) (by decide) (by decide) ?_
  refine G_putR (r := some (m + 1 + 5)) rfl wMO_30 (Or.inr rfl) dMO_init_54 (gNa_tag k0.1 (by omega)) (nr_a _) (ft_a _) ?_
  have k6 : MK T0 i0 r0 (gNa T (m + 1 + 5) 100 6) (gup gi (m + 1 + 5) (fun _ => 0)) (gu (gup gr (m + 1 + 5) (fun _ => none)) m 6 (some (m + 1 + 5))) m 6 (gup (fun _ => 0) 0 (nI 1)) := MK_arr k0 (by decide)
  generalize gNa T (m + 1 + 5) 100 6 = T6 at k6 ⊢
  generalize gup gi (m + 1 + 5) (fun _ => 0) = i6 at k6 ⊢
  generalize gu (gup gr (m + 1 + 5) (fun _ => none)) m 6 (some (m + 1 + 5)) = r6 at k6 ⊢
  refine G_aload_n dMO_init_57 rfl ?_
  refine G_bipush (v := 24) dMO_init_58 (by decide) ?_
  refine G_newaA 0 (a := m + 1 + 6) (len := 24) dMO_init_60 k6.2.1 (by decide) rfl aI (by decide) (by decide) (by decide) (by decide) (by decide) ?_
  refine G_putR (r := some (m + 1 + 6)) rfl wMO_33 (Or.inr rfl) dMO_init_62 (gNa_tag k6.1 (by omega)) (nr_a _) (ft_a _) ?_
  have k7 : MK T0 i0 r0 (gNa T6 (m + 1 + 6) 100 24) (gup i6 (m + 1 + 6) (fun _ => 0)) (gu (gup r6 (m + 1 + 6) (fun _ => none)) m 10 (some (m + 1 + 6))) m 7 (gup (fun _ => 0) 0 (nI 1)) := MK_arr k6 (by decide)
  generalize gNa T6 (m + 1 + 6) 100 24 = T7 at k7 ⊢
  generalize gup i6 (m + 1 + 6) (fun _ => 0) = i7 at k7 ⊢
  generalize gu (gup r6 (m + 1 + 6) (fun _ => none)) m 10 (some (m + 1 + 6)) = r7 at k7 ⊢
  refine G_aload_n dMO_init_65 rfl ?_
  refine G_bipush (v := 24) dMO_init_66 (by decide) ?_
  refine G_newaA 0 (a := m + 1 + 7) (len := 24) dMO_init_68 k7.2.1 (by decide) rfl aI (by decide) (by decide) (by decide) (by decide) (by decide) ?_
  refine G_putR (r := some (m + 1 + 7)) rfl wMO_36 (Or.inr rfl) dMO_init_70 (gNa_tag k7.1 (by omega)) (nr_a _) (ft_a _) ?_
  have k8 : MK T0 i0 r0 (gNa T7 (m + 1 + 7) 100 24) (gup i7 (m + 1 + 7) (fun _ => 0)) (gu (gup r7 (m + 1 + 7) (fun _ => none)) m 11 (some (m + 1 + 7))) m 8 (gup (fun _ => 0) 0 (nI 1)) := MK_arr k7 (by decide)
  generalize gNa T7 (m + 1 + 7) 100 24 = T8 at k8 ⊢
  generalize gup i7 (m + 1 + 7) (fun _ => 0) = i8 at k8 ⊢
  generalize gu (gup r7 (m + 1 + 7) (fun _ => none)) m 11 (some (m + 1 + 7)) = r8 at k8 ⊢
  refine G_aload_n dMO_init_73 rfl ?_
  refine G_bipush (v := 16) dMO_init_74 (by decide) ?_
  refine G_newaA 1 (a := m + 1 + 8) (len := 16) dMO_init_76 k8.2.1 (by decide) rfl aZ (by decide) (by decide) (by decide) (by decide) (by decide) ?_
  refine G_putR (r := some (m + 1 + 8)) rfl wMO_39 (Or.inr rfl) dMO_init_78 (gNa_tag k8.1 (by omega)) (nr_a _) (ft_a _) ?_
  have k9 : MK T0 i0 r0 (gNa T8 (m + 1 + 8) 101 16) (gup i8 (m + 1 + 8) (fun _ => 0)) (gu (gup r8 (m + 1 + 8) (fun _ => none)) m 12 (some (m + 1 + 8))) m 9 (gup (fun _ => 0) 0 (nI 1)) := MK_arr k8 (by decide)
  generalize gNa T8 (m + 1 + 8) 101 16 = T9 at k9 ⊢
  generalize gup i8 (m + 1 + 8) (fun _ => 0) = i9 at k9 ⊢
  generalize gu (gup r8 (m + 1 + 8) (fun _ => none)) m 12 (some (m + 1 + 8)) = r9 at k9 ⊢
  refine G_aload_n dMO_init_81 rfl ?_
  refine G_bipush (v := 16) dMO_init_82 (by decide) ?_
  refine G_newaA 0 (a := m + 1 + 9) (len := 16) dMO_init_84 k9.2.1 (by decide) rfl aI (by decide) (by decide) (by decide) (by decide) (by decide) ?_
  refine G_putR (r := some (m + 1 + 9)) rfl wMO_42 (Or.inr rfl) dMO_init_86 (gNa_tag k9.1 (by omega)) (nr_a _) (ft_a _) ?_
  have k10 : MK T0 i0 r0 (gNa T9 (m + 1 + 9) 100 16) (gup i9 (m + 1 + 9) (fun _ => 0)) (gu (gup r9 (m + 1 + 9) (fun _ => none)) m 13 (some (m + 1 + 9))) m 10 (gup (fun _ => 0) 0 (nI 1)) := MK_arr k9 (by decide)
  generalize gNa T9 (m + 1 + 9) 100 16 = T10 at k10 ⊢
  generalize gup i9 (m + 1 + 9) (fun _ => 0) = i10 at k10 ⊢
  generalize gu (gup r9 (m + 1 + 9) (fun _ => none)) m 13 (some (m + 1 + 9)) = r10 at k10 ⊢
  refine G_aload_n dMO_init_89 rfl ?_
  refine G_bipush (v := 16) dMO_init_90 (by decide) ?_
  refine G_newaA 0 (a := m + 1 + 10) (len := 16) dMO_init_92 k10.2.1 (by decide) rfl aI (by decide) (by decide) (by decide) (by decide) (by decide) ?_
  refine G_putR (r := some (m + 1 + 10)) rfl wMO_45 (Or.inr rfl) dMO_init_94 (gNa_tag k10.1 (by omega)) (nr_a _) (ft_a _) ?_
  have k11 : MK T0 i0 r0 (gNa T10 (m + 1 + 10) 100 16) (gup i10 (m + 1 + 10) (fun _ => 0)) (gu (gup r10 (m + 1 + 10) (fun _ => none)) m 14 (some (m + 1 + 10))) m 11 (gup (fun _ => 0) 0 (nI 1)) := MK_arr k10 (by decide)
  generalize gNa T10 (m + 1 + 10) 100 16 = T11 at k11 ⊢
  generalize gup i10 (m + 1 + 10) (fun _ => 0) = i11 at k11 ⊢
  generalize gu (gup r10 (m + 1 + 10) (fun _ => none)) m 14 (some (m + 1 + 10)) = r11 at k11 ⊢
  exact mi_b2 _ _ (by decide) (by decide) k11
theorem M_init {E : gE} {T : gT} {gi : gI} {gr : gR} {m : Nat} {x y : Int32} (ht : T.1 m = 8) (hsz : T.2.2 = m + 1) (hg0 : gi m = fun _ => 0) : Ct E mMO_init [.ref m, .int x, .int y] T gi gr (fun T' gi' gr' v => v = none ∧ T'.2.2 = m + 23 ∧ FrB T T' gi gi' gr gr' m ∧ MInv T' gi' gr' m 1 (fun _ => none) (fun _ => 0) (fun _ => false) (fun _ => false) (fun _ => 0) (fun _ => 0) 0 (nearI x 1 24) (nearI y 1 16) (pl0 x y) (fun _ => none) (atM (fun _ => none) (pl0 x y) (fun _ => false) (fun _ => 0) none) (atM (fun _ => none) (pl0 x y) (fun _ => false) (fun _ => 0) none) (lookS 1 (fun _ => none) (fun _ => 0) (fun _ => false) (fun _ => false) (pl0 x y) none none (fun _ _ => false) (fun _ => 0) (fun _ => false)).1 (lookS 1 (fun _ => none) (fun _ => 0) (fun _ => false) (fun _ => false) (pl0 x y) none none (fun _ _ => false) (fun _ => 0) (fun _ => false)).2.1 (lookS 1 (fun _ => none) (fun _ => 0) (fun _ => false) (fun _ => false) (pl0 x y) none none (fun _ _ => false) (fun _ => 0) (fun _ => false)).2.2 (fun _ => 0)) := by
  refine Ct_of (ls := [.ref m, .int x, .int y]) (by decide) (gcat_cons rfl (gcat_cons rfl (gcat_cons rfl gcat_nil))) (Nat.le_of_ble_eq_true rfl) rfl ?_
  refine G_aload_n dMO_init_0 rfl ?_
  refine G_objInit oMO_1.1 oMO_1.2.1 oMO_1.2.2 dMO_init_1 (by decide) (Nat.le_of_ble_eq_true rfl) ?_
  have kk : MK T gi gr T gi gr m 0 (fun _ => 0) := ⟨ht, hsz, fun k hk => absurd hk (Nat.not_lt_zero _), hg0, FrB.rf⟩
  refine G_aload_n dMO_init_4 rfl ?_
  refine G_iconst (v := nI 1) dMO_init_5 (by decide +kernel) ?_
  refine G_putI wMO_7 (Or.inr rfl) dMO_init_6 kk.1 rfl rfl ?_
  have k0 := MK_slot (s := 0) (x := nI 1) kk
  generalize gu gi m 0 (nI 1) = ia at k0 ⊢
  refine G_aload_n dMO_init_9 rfl ?_
  refine G_bipush (v := 6) dMO_init_10 (by decide) ?_
  refine G_newaA 0 (a := m + 1 + 0) (len := 6) dMO_init_12 k0.2.1 (by decide) rfl aI (by decide) (by decide) (by decide) (by decide) (by decide) ?_
  refine G_putR (r := some (m + 1 + 0)) rfl wMO_13 (Or.inr rfl) dMO_init_14 (gNa_tag k0.1 (by omega)) (nr_a _) (ft_a _) ?_
  have k1 : MK T gi gr (gNa T (m + 1 + 0) 100 6) (gup ia (m + 1 + 0) (fun _ => 0)) (gu (gup gr (m + 1 + 0) (fun _ => none)) m 1 (some (m + 1 + 0))) m 1 (gup (fun _ => 0) 0 (nI 1)) := MK_arr k0 (by decide)
  generalize gNa T (m + 1 + 0) 100 6 = T1 at k1 ⊢
  generalize gup ia (m + 1 + 0) (fun _ => 0) = i1 at k1 ⊢
  generalize gu (gup gr (m + 1 + 0) (fun _ => none)) m 1 (some (m + 1 + 0)) = r1 at k1 ⊢
  refine G_aload_n dMO_init_17 rfl ?_
  refine G_bipush (v := 6) dMO_init_18 (by decide) ?_
  refine G_newaA 0 (a := m + 1 + 1) (len := 6) dMO_init_20 k1.2.1 (by decide) rfl aI (by decide) (by decide) (by decide) (by decide) (by decide) ?_
  refine G_putR (r := some (m + 1 + 1)) rfl wMO_17 (Or.inr rfl) dMO_init_22 (gNa_tag k1.1 (by omega)) (nr_a _) (ft_a _) ?_
  have k2 : MK T gi gr (gNa T1 (m + 1 + 1) 100 6) (gup i1 (m + 1 + 1) (fun _ => 0)) (gu (gup r1 (m + 1 + 1) (fun _ => none)) m 2 (some (m + 1 + 1))) m 2 (gup (fun _ => 0) 0 (nI 1)) := MK_arr k1 (by decide)
  generalize gNa T1 (m + 1 + 1) 100 6 = T2 at k2 ⊢
  generalize gup i1 (m + 1 + 1) (fun _ => 0) = i2 at k2 ⊢
  generalize gu (gup r1 (m + 1 + 1) (fun _ => none)) m 2 (some (m + 1 + 1)) = r2 at k2 ⊢
  refine G_aload_n dMO_init_25 rfl ?_
  refine G_bipush (v := 6) dMO_init_26 (by decide) ?_
  refine G_newaA 1 (a := m + 1 + 2) (len := 6) dMO_init_28 k2.2.1 (by decide) rfl aZ (by decide) (by decide) (by decide) (by decide) (by decide) ?_
  refine G_putR (r := some (m + 1 + 2)) rfl wMO_20 (Or.inr rfl) dMO_init_30 (gNa_tag k2.1 (by omega)) (nr_a _) (ft_a _) ?_
  have k3 : MK T gi gr (gNa T2 (m + 1 + 2) 101 6) (gup i2 (m + 1 + 2) (fun _ => 0)) (gu (gup r2 (m + 1 + 2) (fun _ => none)) m 3 (some (m + 1 + 2))) m 3 (gup (fun _ => 0) 0 (nI 1)) := MK_arr k2 (by decide)
  generalize gNa T2 (m + 1 + 2) 101 6 = T3 at k3 ⊢
  generalize gup i2 (m + 1 + 2) (fun _ => 0) = i3 at k3 ⊢
  generalize gu (gup r2 (m + 1 + 2) (fun _ => none)) m 3 (some (m + 1 + 2)) = r3 at k3 ⊢
  refine G_aload_n dMO_init_33 rfl ?_
  refine G_bipush (v := 6) dMO_init_34 (by decide) ?_
  refine G_newaA 1 (a := m + 1 + 3) (len := 6) dMO_init_36 k3.2.1 (by decide) rfl aZ (by decide) (by decide) (by decide) (by decide) (by decide) ?_
  refine G_putR (r := some (m + 1 + 3)) rfl wMO_24 (Or.inr rfl) dMO_init_38 (gNa_tag k3.1 (by omega)) (nr_a _) (ft_a _) ?_
  have k4 : MK T gi gr (gNa T3 (m + 1 + 3) 101 6) (gup i3 (m + 1 + 3) (fun _ => 0)) (gu (gup r3 (m + 1 + 3) (fun _ => none)) m 4 (some (m + 1 + 3))) m 4 (gup (fun _ => 0) 0 (nI 1)) := MK_arr k3 (by decide)
  generalize gNa T3 (m + 1 + 3) 101 6 = T4 at k4 ⊢
  generalize gup i3 (m + 1 + 3) (fun _ => 0) = i4 at k4 ⊢
  generalize gu (gup r3 (m + 1 + 3) (fun _ => none)) m 4 (some (m + 1 + 3)) = r4 at k4 ⊢
  refine G_aload_n dMO_init_41 rfl ?_
  refine G_bipush (v := 6) dMO_init_42 (by decide) ?_
  refine G_newaA 0 (a := m + 1 + 4) (len := 6) dMO_init_44 k4.2.1 (by decide) rfl aI (by decide) (by decide) (by decide) (by decide) (by decide) ?_
  refine G_putR (r := some (m + 1 + 4)) rfl wMO_27 (Or.inr rfl) dMO_init_46 (gNa_tag k4.1 (by omega)) (nr_a _) (ft_a _) ?_
  have k5 : MK T gi gr (gNa T4 (m + 1 + 4) 100 6) (gup i4 (m + 1 + 4) (fun _ => 0)) (gu (gup r4 (m + 1 + 4) (fun _ => none)) m 5 (some (m + 1 + 4))) m 5 (gup (fun _ => 0) 0 (nI 1)) := MK_arr k4 (by decide)
  generalize gNa T4 (m + 1 + 4) 100 6 = T5 at k5 ⊢
  generalize gup i4 (m + 1 + 4) (fun _ => 0) = i5 at k5 ⊢
  generalize gu (gup r4 (m + 1 + 4) (fun _ => none)) m 5 (some (m + 1 + 4)) = r5 at k5 ⊢
  exact mi_b1 _ _ (by decide) (by decide) k5
