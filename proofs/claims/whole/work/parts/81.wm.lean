theorem law_loop {E : gE} {dv : Nat} (hL : E.2.2.2.2.1 ≤ 3074) : ∀ (r j : Nat), j + r = 512 → ∀ (T : gT) (gi : gI) (gr : gR) (k n : Nat), CI T gi gr dv j → k ≤ 100 + 3 * j → n ≤ 10000 + 17 * j → G E mLW_law 38 (lwL E dv j) [] T gi gr k n (fun _ _ _ v => v = some (.int 1)) := by
  intro r
  induction r with
  | zero =>
    intro j hj T gi gr k n hc hk hn
    refine G_iload_n dLW_law_38 rfl ?_
    refine G_aload_n dLW_law_39 rfl ?_
    refine G_slen (v := nI E.2.2.2.2.1) dLW_law_40 rfl ?_
    refine G_bipush (v := 6) dLW_law_41 (by decide) ?_
    refine G_isub dLW_law_43 ?_
    refine G_icmp_gt dLW_law_44 (fun h => ?_) (fun h => ?_)
    · refine G_iconst (v := 1) dLW_law_699 (by decide) ?_
      exact G_ireturn dLW_law_700 rfl rfl (by show k ≤ 600000; omega) (by show n ≤ 7302250; omega) rfl
    · refine absurd ?_ h
      have z6 : (6 : Int32).toInt = 6 := rfl
      have e1 := nI_toInt (n := E.2.2.2.2.1) (by omega)
      rw [Int32.lt_iff_toInt_lt, i_sub (by omega) (by omega) (by omega), e1, nI_toInt (n := 2 + 6 * j) (by omega), z6]
      omega
  | succ r ih =>
    intro j hj T gi gr k n hc hk hn
    have fin : lwF E dv j (fun _ _ _ v => v = some (.int 1)) := by
      intro T gi gr k n hc hk hn
      refine G_iinc (ls' := lwL E dv (j + 1)) dLW_law_693 rfl (show nI (2 + 6 * j) + Int32.ofInt 6 = nI (2 + 6 * (j + 1)) from nI_add (2 + 6 * j) 6) (by decide) rfl ?_
      refine G_goto dLW_law_696 ?_
      exact ih (j + 1) (by omega) T gi gr k n hc hk hn
    refine G_iload_n dLW_law_38 rfl ?_
    refine G_aload_n dLW_law_39 rfl ?_
    refine G_slen (v := nI E.2.2.2.2.1) dLW_law_40 rfl ?_
    refine G_bipush (v := 6) dLW_law_41 (by decide) ?_
    refine G_isub dLW_law_43 ?_
    refine G_icmp_gt dLW_law_44 (fun h => ?_) (fun h => ?_)
    · refine G_iconst (v := 1) dLW_law_699 (by decide) ?_
      exact G_ireturn dLW_law_700 rfl rfl (by show k ≤ 600000; omega) (by show n ≤ 7302250; omega) rfl
    · have hi : 2 + 6 * j + 6 ≤ E.2.2.2.2.1 := by
        have z6 : (6 : Int32).toInt = 6 := rfl
        have e1 := nI_toInt (n := E.2.2.2.2.1) (by omega)
        rw [Int32.lt_iff_toInt_lt, i_sub (by omega) (by omega) (by omega), e1, nI_toInt (n := 2 + 6 * j) (by omega), z6] at h
        omega
      refine G_aload_n dLW_law_47 rfl ?_
      refine G_iload_n dLW_law_48 rfl ?_
      refine G_sald dLW_law_49 (vp_in_nI (by omega) (by omega)) ?_
      refine G_bipush (v := 31) dLW_law_50 (by decide) ?_
      refine G_iand dLW_law_52 ?_
      generalize E.2.2.2.2.2.1 (nI (2 + 6 * j)).toNatClampNeg &&& 31 = x
      by_cases ho : x.toInt < 0 ∨ 18 < x.toInt
      · refine G_tableOut dLW_law_53 ho (tgt := 693) (by decide) ?_
        exact fin T gi gr k n (CI_k hc) (by omega) (by omega)
      · have hx : x.toInt = 0 ∨ x.toInt = 1 ∨ x.toInt = 2 ∨ x.toInt = 3 ∨ x.toInt = 4 ∨ x.toInt = 5 ∨ x.toInt = 6 ∨ x.toInt = 7 ∨ x.toInt = 8 ∨ x.toInt = 9 ∨ x.toInt = 10 ∨ x.toInt = 11 ∨ x.toInt = 12 ∨ x.toInt = 13 ∨ x.toInt = 14 ∨ x.toInt = 15 ∨ x.toInt = 16 ∨ x.toInt = 17 ∨ x.toInt = 18 := by omega
        rcases hx with hx | hx | hx | hx | hx | hx | hx | hx | hx | hx | hx | hx | hx | hx | hx | hx | hx | hx | hx
        · exact G_tableIn dLW_law_53 (by omega) (by omega) (off := 91) (by rw [hx]; rfl) (tgt := 144) (by decide) (LW_box hL (by omega) hi hc hk hn fin)
        · exact G_tableIn dLW_law_53 (by omega) (by omega) (off := 124) (by rw [hx]; rfl) (tgt := 177) (by decide) (LW_constrain hL (by omega) hi hc hk hn fin)
        · exact G_tableIn dLW_law_53 (by omega) (by omega) (off := 187) (by rw [hx]; rfl) (tgt := 240) (by decide) (LW_remove hL (by omega) hi hc hk hn fin)
        · exact G_tableIn dLW_law_53 (by omega) (by omega) (off := 210) (by rw [hx]; rfl) (tgt := 263) (by decide) (LW_suggest hL (by omega) hi hc hk hn fin)
        · exact G_tableIn dLW_law_53 (by omega) (by omega) (off := 243) (by rw [hx]; rfl) (tgt := 296) (by decide) (LW_resize hL (by omega) hi hc hk hn fin)
        · exact G_tableIn dLW_law_53 (by omega) (by omega) (off := 276) (by rw [hx]; rfl) (tgt := 329) (by decide) (LW_place hL (by omega) hi hc hk hn fin)
        · exact G_tableIn dLW_law_53 (by omega) (by omega) (off := 299) (by rw [hx]; rfl) (tgt := 352) (by decide) (LW_error hL (by omega) hi hc hk hn fin)
        · exact G_tableIn dLW_law_53 (by omega) (by omega) (off := 322) (by rw [hx]; rfl) (tgt := 375) (by decide) (LW_hide hL (by omega) hi hc hk hn fin)
        · exact G_tableIn dLW_law_53 (by omega) (by omega) (off := 371) (by rw [hx]; rfl) (tgt := 424) (by decide) (LW_raise hL (by omega) hi hc hk hn fin)
        · exact G_tableIn dLW_law_53 (by omega) (by omega) (off := 394) (by rw [hx]; rfl) (tgt := 447) (by decide) (LW_hit hL (by omega) hi hc hk hn fin)
        · exact G_tableIn dLW_law_53 (by omega) (by omega) (off := 427) (by rw [hx]; rfl) (tgt := 480) (by decide) (LW_press hL (by omega) hi hc hk hn fin)
        · exact G_tableIn dLW_law_53 (by omega) (by omega) (off := 460) (by rw [hx]; rfl) (tgt := 513) (by decide) (LW_release hL (by omega) hi hc hk hn fin)
        · exact G_tableIn dLW_law_53 (by omega) (by omega) (off := 493) (by rw [hx]; rfl) (tgt := 546) (by decide) (LW_step hL (by omega) hi hc hk hn fin)
        · exact G_tableIn dLW_law_53 (by omega) (by omega) (off := 532) (by rw [hx]; rfl) (tgt := 585) (by decide) (LW_key hL (by omega) hi hc hk hn fin)
        · exact G_tableIn dLW_law_53 (by omega) (by omega) (off := 545) (by rw [hx]; rfl) (tgt := 598) (by decide) (LW_attention hL (by omega) hi hc hk hn fin)
        · exact G_tableIn dLW_law_53 (by omega) (by omega) (off := 558) (by rw [hx]; rfl) (tgt := 611) (by decide) (LW_count hL (by omega) hi hc hk hn fin)
        · exact G_tableIn dLW_law_53 (by omega) (by omega) (off := 581) (by rw [hx]; rfl) (tgt := 634) (by decide) (LW_damage hL (by omega) hi hc hk hn fin)
        · exact G_tableIn dLW_law_53 (by omega) (by omega) (off := 594) (by rw [hx]; rfl) (tgt := 647) (by decide) (LW_paint hL (by omega) hi hc hk hn fin)
        · exact G_tableIn dLW_law_53 (by omega) (by omega) (off := 607) (by rw [hx]; rfl) (tgt := 660) (by decide) (LW_pixel hL (by omega) hi hc hk hn fin)
