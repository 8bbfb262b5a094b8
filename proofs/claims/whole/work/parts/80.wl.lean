theorem G_arg {E : gE} {X : gX} {pc p1 p2 p3 p4 p5 : Nat} {ls st : List Value} {T : gT} {gi : gI} {gr : gR} {k n : Nat} {Q : gQ} {cz : Int} (c : Nat) {i : Nat} (d1 : gD X pc (.aload_n 0) 1 p1) (d2 : gD X p1 (.iload_n 3) 1 p2) (d3 : gD X p2 (.iconst cz) 1 p3) (hc : Int32.ofInt cz = nI c) (d4 : gD X p3 .iadd 1 p4) (d5 : gD X p4 .iaload 1 p5) (h0 : ls[0]? = some (.ref E.2.2.2.1)) (h3 : ls[3]? = some (.int (nI i))) (hL : E.2.2.2.2.1 ≤ 3074) (hi : i + c < E.2.2.2.2.1) (kk : G E X p5 ls (.int (E.2.2.2.2.2.1 (i + c)) :: st) T gi gr k n Q) : G E X pc ls st T gi gr k n Q := by
  refine G_aload_n d1 h0 ?_
  refine G_iload_n d2 h3 ?_
  refine G_iconst (v := nI c) d3 hc ?_
  refine G_iadd d4 ?_
  refine G_st (st' := .int (nI (i + c)) :: .ref E.2.2.2.1 :: st) (by rw [nI_add]) ?_
  refine G_sald d5 (vp_in_nI hi (by omega)) ?_
  rw [nI_clamp (by omega)]
  exact kk
theorem G_bool {E : gE} {X : gX} {pc p1 p2 p3 p4 tgt : Nat} {off off2 : Int} {ls st : List Value} {T : gT} {gi : gI} {gr : gR} {k n : Nat} {Q : gQ} {x : Int32} (d0 : gB X pc (.ifCond .eq off) off tgt p1) (d1 : gD X p1 (.iconst 1) 1 p2) (d2 : gB X p2 (.goto off2) off2 p4 p3) (d3 : gD X tgt (.iconst 0) 1 p4) (kk : G E X p4 ls (.int (bI (decide (¬ x = 0))) :: st) T gi gr k n Q) : G E X pc ls (.int x :: st) T gi gr k n Q := by
  refine G_if_eq d0 (fun h => ?_) (fun h => ?_)
  · refine G_iconst (v := 0) d3 (by decide) ?_
    rw [decide_eq_false (fun z => z h)] at kk
    exact kk
  · refine G_iconst (v := 1) d1 (by decide) ?_
    refine G_goto d2 ?_
    rw [decide_eq_true h] at kk
    exact kk
theorem cLW_cell {E : gE} {T : gT} {gi : gI} {gr : gR} {c : Nat} (hc : c < 10) (hL : E.2.2.2.2.1 ≤ 3074) : Ct E mLW_cell [.ref E.2.2.2.1, .int (nI c)] T gi gr (fun T' gi' gr' v => T' = T ∧ gi' = gi ∧ gr' = gr ∧ v = some (.int (if c < E.2.2.2.2.1 then E.2.2.2.2.2.1 c else 0))) := by
  refine Ct_of (ls := [.ref E.2.2.2.1, .int (nI c)]) (by decide) (gcat_cons rfl (gcat_cons rfl gcat_nil)) (Nat.le_of_ble_eq_true rfl) rfl ?_
  refine G_iload_n dLW_cell_0 rfl ?_
  refine G_aload_n dLW_cell_1 rfl ?_
  refine G_slen (v := nI E.2.2.2.2.1) dLW_cell_2 rfl ?_
  refine G_icmp_ge dLW_cell_3 (fun h => ?_) (fun h => ?_)
  · rw [nI_leI (by omega) (by omega)] at h
    refine G_iconst (v := 0) dLW_cell_12 (by decide) ?_
    exact G_ireturn dLW_cell_13 rfl rfl (by decide) (by decide) ⟨rfl, rfl, rfl, by rw [if_neg (by omega)]⟩
  · rw [nI_leI (by omega) (by omega)] at h
    refine G_aload_n dLW_cell_6 rfl ?_
    refine G_iload_n dLW_cell_7 rfl ?_
    refine G_sald dLW_cell_8 (vp_in_nI (by omega) (by omega)) ?_
    rw [nI_clamp (by omega)]
    refine G_goto dLW_cell_9 ?_
    exact G_ireturn dLW_cell_13 rfl rfl (by decide) (by decide) ⟨rfl, rfl, rfl, by rw [if_pos (by omega)]⟩
theorem CI_k {T : gT} {gi : gI} {gr : gR} {dv k : Nat} (hc : CI T gi gr dv k) : CI T gi gr dv (k + 1) := by
  obtain ⟨nb, bx, cx, od, par, B, fo, pr, w, h, pl, cs, D, F, kd, hd, li, ct, rk, rks, ar, co, D', F', hI, hM, hV, hS, hz⟩ := hc
  exact CI_mk hI hM (CV_k hV) hS hz
theorem CI_t {T : gT} {gi : gI} {gr : gR} {dv k : Nat} (hc : CI T gi gr dv k) : T.1 dv = 1 := by
  obtain ⟨nb, bx, cx, od, par, B, fo, pr, w, h, pl, cs, D, F, kd, hd, li, ct, rk, rks, ar, co, D', F', hI, -⟩ := hc
  exact hI.1.1.1
abbrev lwL (E : gE) (dv j : Nat) : List Value := [.ref E.2.2.2.1, .ref dv, .ref (dv + 38), .int (nI (2 + 6 * j))]
def lwF (E : gE) (dv j : Nat) (Q : gQ) : Prop := ∀ T gi gr k n, CI T gi gr dv (j + 1) → k ≤ 100 + 3 * (j + 1) → n ≤ 10000 + 17 * (j + 1) → G E mLW_law 693 (lwL E dv j) [] T gi gr k n Q
theorem LW_box {E : gE} {T : gT} {gi : gI} {gr : gR} {dv j k n : Nat} {Q : gQ} (hL : E.2.2.2.2.1 ≤ 3074) (hj : j < 512) (hi : 2 + 6 * j + 6 ≤ E.2.2.2.2.1) (hc : CI T gi gr dv j) (hk : k ≤ 100 + 3 * j) (hn : n ≤ 10000 + 17 * j) (fin : lwF E dv j Q) : G E mLW_law 144 (lwL E dv j) [] T gi gr k n Q := by
  obtain ⟨Q1, hC1, hF1⟩ := (P_box hc hj : PO E mDV_box mMO_box [.int (E.2.2.2.2.2.1 (2 + 6 * j + 1)), .int (E.2.2.2.2.2.1 (2 + 6 * j + 2))] T gi gr dv j)
  have ht := CI_t hc
  refine G_aload_n dLW_law_144 rfl ?_
  refine G_arg 1 dLW_law_145 dLW_law_146 dLW_law_147 (by decide) dLW_law_148 dLW_law_149 rfl rfl hL (by omega) ?_
  refine G_arg 2 dLW_law_150 dLW_law_151 dLW_law_152 (by decide) dLW_law_153 dLW_law_154 rfl rfl hL (by omega) ?_
  refine G_callV (As := [.int (E.2.2.2.2.2.1 (2 + 6 * j + 1)), .int (E.2.2.2.2.2.1 (2 + 6 * j + 2))]) (rest := []) gLW_law_DV_box lLW_21.1 lLW_21.2.1 lLW_21.2.2.1 lLW_21.2.2.2 dLW_law_155 rfl (Nat.le_of_ble_eq_true rfl) ht ⟨by show k + 3 ≤ 600000; omega, by show n + 17 ≤ 7302250; omega⟩ hC1 (fun T1 gi1 gr1 v1 q1 => ?_)
  obtain ⟨x, rfl, hm, Q2, hC2, hF2⟩ := hF1 T1 gi1 gr1 v1 q1
  refine G_st (st' := [.int x]) rfl ?_
  refine G_aload_n dLW_law_158 rfl ?_
  refine G_arg 1 dLW_law_159 dLW_law_160 dLW_law_161 (by decide) dLW_law_162 dLW_law_163 rfl rfl hL (by omega) ?_
  refine G_arg 2 dLW_law_164 dLW_law_165 dLW_law_166 (by decide) dLW_law_167 dLW_law_168 rfl rfl hL (by omega) ?_
  refine G_callV (As := [.int (E.2.2.2.2.2.1 (2 + 6 * j + 1)), .int (E.2.2.2.2.2.1 (2 + 6 * j + 2))]) (rest := [.int x]) gLW_law_MO_box lLW_25.1 lLW_25.2.1 lLW_25.2.2.1 lLW_25.2.2.2 dLW_law_169 rfl (Nat.le_of_ble_eq_true rfl) hm ⟨by show k + 3 + 0 ≤ 600000; omega, by show n + 17 + 0 ≤ 7302250; omega⟩ hC2 (fun T2 gi2 gr2 v2 q2 => ?_)
  obtain ⟨rfl, hc2⟩ := hF2 T2 gi2 gr2 v2 q2
  refine G_st (st' := [.int x, .int x]) rfl ?_
  refine G_icmp_eq dLW_law_172 (fun _ => ?_) (fun h => absurd rfl h)
  exact fin T2 gi2 gr2 _ _ hc2 (by show k + 3 + 0 ≤ 100 + 3 * (j + 1); omega) (by show n + 17 + 0 ≤ 10000 + 17 * (j + 1); omega)
theorem LW_constrain {E : gE} {T : gT} {gi : gI} {gr : gR} {dv j k n : Nat} {Q : gQ} (hL : E.2.2.2.2.1 ≤ 3074) (hj : j < 512) (hi : 2 + 6 * j + 6 ≤ E.2.2.2.2.1) (hc : CI T gi gr dv j) (hk : k ≤ 100 + 3 * j) (hn : n ≤ 10000 + 17 * j) (fin : lwF E dv j Q) : G E mLW_law 177 (lwL E dv j) [] T gi gr k n Q := by
  obtain ⟨Q1, hC1, hF1⟩ := (P_constrain hc hj : PO E mDV_constrain mMO_constrain [.int (E.2.2.2.2.2.1 (2 + 6 * j + 1)), .int (E.2.2.2.2.2.1 (2 + 6 * j + 2)), .int (E.2.2.2.2.2.1 (2 + 6 * j + 3)), .int (E.2.2.2.2.2.1 (2 + 6 * j + 4)), .int (E.2.2.2.2.2.1 (2 + 6 * j + 5))] T gi gr dv j)
  have ht := CI_t hc
  refine G_aload_n dLW_law_177 rfl ?_
  refine G_arg 1 dLW_law_178 dLW_law_179 dLW_law_180 (by decide) dLW_law_181 dLW_law_182 rfl rfl hL (by omega) ?_
  refine G_arg 2 dLW_law_183 dLW_law_184 dLW_law_185 (by decide) dLW_law_186 dLW_law_187 rfl rfl hL (by omega) ?_
  refine G_arg 3 dLW_law_188 dLW_law_189 dLW_law_190 (by decide) dLW_law_191 dLW_law_192 rfl rfl hL (by omega) ?_
  refine G_arg 4 dLW_law_193 dLW_law_194 dLW_law_195 (by decide) dLW_law_196 dLW_law_197 rfl rfl hL (by omega) ?_
  refine G_arg 5 dLW_law_198 dLW_law_199 dLW_law_200 (by decide) dLW_law_201 dLW_law_202 rfl rfl hL (by omega) ?_
  refine G_callV (As := [.int (E.2.2.2.2.2.1 (2 + 6 * j + 1)), .int (E.2.2.2.2.2.1 (2 + 6 * j + 2)), .int (E.2.2.2.2.2.1 (2 + 6 * j + 3)), .int (E.2.2.2.2.2.1 (2 + 6 * j + 4)), .int (E.2.2.2.2.2.1 (2 + 6 * j + 5))]) (rest := []) gLW_law_DV_constrain lLW_26.1 lLW_26.2.1 lLW_26.2.2.1 lLW_26.2.2.2 dLW_law_203 rfl (Nat.le_of_ble_eq_true rfl) ht ⟨by show k + 1 ≤ 600000; omega, by show n + 5 ≤ 7302250; omega⟩ hC1 (fun T1 gi1 gr1 v1 q1 => ?_)
  obtain ⟨x, rfl, hm, Q2, hC2, hF2⟩ := hF1 T1 gi1 gr1 v1 q1
  refine G_st (st' := [.int x]) rfl ?_
  refine G_aload_n dLW_law_206 rfl ?_
  refine G_arg 1 dLW_law_207 dLW_law_208 dLW_law_209 (by decide) dLW_law_210 dLW_law_211 rfl rfl hL (by omega) ?_
  refine G_arg 2 dLW_law_212 dLW_law_213 dLW_law_214 (by decide) dLW_law_215 dLW_law_216 rfl rfl hL (by omega) ?_
  refine G_arg 3 dLW_law_217 dLW_law_218 dLW_law_219 (by decide) dLW_law_220 dLW_law_221 rfl rfl hL (by omega) ?_
  refine G_arg 4 dLW_law_222 dLW_law_223 dLW_law_224 (by decide) dLW_law_225 dLW_law_226 rfl rfl hL (by omega) ?_
  refine G_arg 5 dLW_law_227 dLW_law_228 dLW_law_229 (by decide) dLW_law_230 dLW_law_231 rfl rfl hL (by omega) ?_
  refine G_callV (As := [.int (E.2.2.2.2.2.1 (2 + 6 * j + 1)), .int (E.2.2.2.2.2.1 (2 + 6 * j + 2)), .int (E.2.2.2.2.2.1 (2 + 6 * j + 3)), .int (E.2.2.2.2.2.1 (2 + 6 * j + 4)), .int (E.2.2.2.2.2.1 (2 + 6 * j + 5))]) (rest := [.int x]) gLW_law_MO_constrain lLW_30.1 lLW_30.2.1 lLW_30.2.2.1 lLW_30.2.2.2 dLW_law_232 rfl (Nat.le_of_ble_eq_true rfl) hm ⟨by show k + 1 + 0 ≤ 600000; omega, by show n + 5 + 0 ≤ 7302250; omega⟩ hC2 (fun T2 gi2 gr2 v2 q2 => ?_)
  obtain ⟨rfl, hc2⟩ := hF2 T2 gi2 gr2 v2 q2
  refine G_st (st' := [.int x, .int x]) rfl ?_
  refine G_icmp_eq dLW_law_235 (fun _ => ?_) (fun h => absurd rfl h)
  exact fin T2 gi2 gr2 _ _ hc2 (by show k + 1 + 0 ≤ 100 + 3 * (j + 1); omega) (by show n + 5 + 0 ≤ 10000 + 17 * (j + 1); omega)
theorem LW_remove {E : gE} {T : gT} {gi : gI} {gr : gR} {dv j k n : Nat} {Q : gQ} (hL : E.2.2.2.2.1 ≤ 3074) (hj : j < 512) (hi : 2 + 6 * j + 6 ≤ E.2.2.2.2.1) (hc : CI T gi gr dv j) (hk : k ≤ 100 + 3 * j) (hn : n ≤ 10000 + 17 * j) (fin : lwF E dv j Q) : G E mLW_law 240 (lwL E dv j) [] T gi gr k n Q := by
  obtain ⟨Q1, hC1, hF1⟩ := (P_remove hc hj : PO E mDV_remove mMO_remove [.int (E.2.2.2.2.2.1 (2 + 6 * j + 1))] T gi gr dv j)
  have ht := CI_t hc
  refine G_aload_n dLW_law_240 rfl ?_
  refine G_arg 1 dLW_law_241 dLW_law_242 dLW_law_243 (by decide) dLW_law_244 dLW_law_245 rfl rfl hL (by omega) ?_
  refine G_callV (As := [.int (E.2.2.2.2.2.1 (2 + 6 * j + 1))]) (rest := []) gLW_law_DV_remove lLW_31.1 lLW_31.2.1 lLW_31.2.2.1 lLW_31.2.2.2 dLW_law_246 rfl (Nat.le_of_ble_eq_true rfl) ht ⟨by show k + 0 ≤ 600000; omega, by show n + 0 ≤ 7302250; omega⟩ hC1 (fun T1 gi1 gr1 v1 q1 => ?_)
  obtain ⟨x, rfl, hm, Q2, hC2, hF2⟩ := hF1 T1 gi1 gr1 v1 q1
  refine G_st (st' := [.int x]) rfl ?_
  refine G_aload_n dLW_law_249 rfl ?_
  refine G_arg 1 dLW_law_250 dLW_law_251 dLW_law_252 (by decide) dLW_law_253 dLW_law_254 rfl rfl hL (by omega) ?_
  refine G_callV (As := [.int (E.2.2.2.2.2.1 (2 + 6 * j + 1))]) (rest := [.int x]) gLW_law_MO_remove lLW_35.1 lLW_35.2.1 lLW_35.2.2.1 lLW_35.2.2.2 dLW_law_255 rfl (Nat.le_of_ble_eq_true rfl) hm ⟨by show k + 0 + 0 ≤ 600000; omega, by show n + 0 + 0 ≤ 7302250; omega⟩ hC2 (fun T2 gi2 gr2 v2 q2 => ?_)
  obtain ⟨rfl, hc2⟩ := hF2 T2 gi2 gr2 v2 q2
  refine G_st (st' := [.int x, .int x]) rfl ?_
  refine G_icmp_eq dLW_law_258 (fun _ => ?_) (fun h => absurd rfl h)
  exact fin T2 gi2 gr2 _ _ hc2 (by show k + 0 + 0 ≤ 100 + 3 * (j + 1); omega) (by show n + 0 + 0 ≤ 10000 + 17 * (j + 1); omega)
theorem LW_suggest {E : gE} {T : gT} {gi : gI} {gr : gR} {dv j k n : Nat} {Q : gQ} (hL : E.2.2.2.2.1 ≤ 3074) (hj : j < 512) (hi : 2 + 6 * j + 6 ≤ E.2.2.2.2.1) (hc : CI T gi gr dv j) (hk : k ≤ 100 + 3 * j) (hn : n ≤ 10000 + 17 * j) (fin : lwF E dv j Q) : G E mLW_law 263 (lwL E dv j) [] T gi gr k n Q := by
  obtain ⟨Q1, hC1, hF1⟩ := (P_suggest hc hj : PO E mDV_suggest mMO_suggest [.int (E.2.2.2.2.2.1 (2 + 6 * j + 1)), .int (E.2.2.2.2.2.1 (2 + 6 * j + 2))] T gi gr dv j)
  have ht := CI_t hc
  refine G_aload_n dLW_law_263 rfl ?_
  refine G_arg 1 dLW_law_264 dLW_law_265 dLW_law_266 (by decide) dLW_law_267 dLW_law_268 rfl rfl hL (by omega) ?_
  refine G_arg 2 dLW_law_269 dLW_law_270 dLW_law_271 (by decide) dLW_law_272 dLW_law_273 rfl rfl hL (by omega) ?_
  refine G_callV (As := [.int (E.2.2.2.2.2.1 (2 + 6 * j + 1)), .int (E.2.2.2.2.2.1 (2 + 6 * j + 2))]) (rest := []) gLW_law_DV_suggest lLW_36.1 lLW_36.2.1 lLW_36.2.2.1 lLW_36.2.2.2 dLW_law_274 rfl (Nat.le_of_ble_eq_true rfl) ht ⟨by show k + 0 ≤ 600000; omega, by show n + 0 ≤ 7302250; omega⟩ hC1 (fun T1 gi1 gr1 v1 q1 => ?_)
  obtain ⟨x, rfl, hm, Q2, hC2, hF2⟩ := hF1 T1 gi1 gr1 v1 q1
  refine G_st (st' := [.int x]) rfl ?_
  refine G_aload_n dLW_law_277 rfl ?_
  refine G_arg 1 dLW_law_278 dLW_law_279 dLW_law_280 (by decide) dLW_law_281 dLW_law_282 rfl rfl hL (by omega) ?_
  refine G_arg 2 dLW_law_283 dLW_law_284 dLW_law_285 (by decide) dLW_law_286 dLW_law_287 rfl rfl hL (by omega) ?_
  refine G_callV (As := [.int (E.2.2.2.2.2.1 (2 + 6 * j + 1)), .int (E.2.2.2.2.2.1 (2 + 6 * j + 2))]) (rest := [.int x]) gLW_law_MO_suggest lLW_40.1 lLW_40.2.1 lLW_40.2.2.1 lLW_40.2.2.2 dLW_law_288 rfl (Nat.le_of_ble_eq_true rfl) hm ⟨by show k + 0 + 0 ≤ 600000; omega, by show n + 0 + 0 ≤ 7302250; omega⟩ hC2 (fun T2 gi2 gr2 v2 q2 => ?_)
  obtain ⟨rfl, hc2⟩ := hF2 T2 gi2 gr2 v2 q2
  refine G_st (st' := [.int x, .int x]) rfl ?_
  refine G_icmp_eq dLW_law_291 (fun _ => ?_) (fun h => absurd rfl h)
  exact fin T2 gi2 gr2 _ _ hc2 (by show k + 0 + 0 ≤ 100 + 3 * (j + 1); omega) (by show n + 0 + 0 ≤ 10000 + 17 * (j + 1); omega)
theorem LW_resize {E : gE} {T : gT} {gi : gI} {gr : gR} {dv j k n : Nat} {Q : gQ} (hL : E.2.2.2.2.1 ≤ 3074) (hj : j < 512) (hi : 2 + 6 * j + 6 ≤ E.2.2.2.2.1) (hc : CI T gi gr dv j) (hk : k ≤ 100 + 3 * j) (hn : n ≤ 10000 + 17 * j) (fin : lwF E dv j Q) : G E mLW_law 296 (lwL E dv j) [] T gi gr k n Q := by
  obtain ⟨Q1, hC1, hF1⟩ := (P_resize hc hj : PO E mDV_resize mMO_resize [.int (E.2.2.2.2.2.1 (2 + 6 * j + 1)), .int (E.2.2.2.2.2.1 (2 + 6 * j + 2))] T gi gr dv j)
  have ht := CI_t hc
  refine G_aload_n dLW_law_296 rfl ?_
  refine G_arg 1 dLW_law_297 dLW_law_298 dLW_law_299 (by decide) dLW_law_300 dLW_law_301 rfl rfl hL (by omega) ?_
  refine G_arg 2 dLW_law_302 dLW_law_303 dLW_law_304 (by decide) dLW_law_305 dLW_law_306 rfl rfl hL (by omega) ?_
  refine G_callV (As := [.int (E.2.2.2.2.2.1 (2 + 6 * j + 1)), .int (E.2.2.2.2.2.1 (2 + 6 * j + 2))]) (rest := []) gLW_law_DV_resize lLW_41.1 lLW_41.2.1 lLW_41.2.2.1 lLW_41.2.2.2 dLW_law_307 rfl (Nat.le_of_ble_eq_true rfl) ht ⟨by show k + 0 ≤ 600000; omega, by show n + 0 ≤ 7302250; omega⟩ hC1 (fun T1 gi1 gr1 v1 q1 => ?_)
  obtain ⟨x, rfl, hm, Q2, hC2, hF2⟩ := hF1 T1 gi1 gr1 v1 q1
  refine G_st (st' := [.int x]) rfl ?_
  refine G_aload_n dLW_law_310 rfl ?_
  refine G_arg 1 dLW_law_311 dLW_law_312 dLW_law_313 (by decide) dLW_law_314 dLW_law_315 rfl rfl hL (by omega) ?_
  refine G_arg 2 dLW_law_316 dLW_law_317 dLW_law_318 (by decide) dLW_law_319 dLW_law_320 rfl rfl hL (by omega) ?_
  refine G_callV (As := [.int (E.2.2.2.2.2.1 (2 + 6 * j + 1)), .int (E.2.2.2.2.2.1 (2 + 6 * j + 2))]) (rest := [.int x]) gLW_law_MO_resize lLW_44.1 lLW_44.2.1 lLW_44.2.2.1 lLW_44.2.2.2 dLW_law_321 rfl (Nat.le_of_ble_eq_true rfl) hm ⟨by show k + 0 + 0 ≤ 600000; omega, by show n + 0 + 0 ≤ 7302250; omega⟩ hC2 (fun T2 gi2 gr2 v2 q2 => ?_)
  obtain ⟨rfl, hc2⟩ := hF2 T2 gi2 gr2 v2 q2
  refine G_st (st' := [.int x, .int x]) rfl ?_
  refine G_icmp_eq dLW_law_324 (fun _ => ?_) (fun h => absurd rfl h)
  exact fin T2 gi2 gr2 _ _ hc2 (by show k + 0 + 0 ≤ 100 + 3 * (j + 1); omega) (by show n + 0 + 0 ≤ 10000 + 17 * (j + 1); omega)
theorem LW_place {E : gE} {T : gT} {gi : gI} {gr : gR} {dv j k n : Nat} {Q : gQ} (hL : E.2.2.2.2.1 ≤ 3074) (hj : j < 512) (hi : 2 + 6 * j + 6 ≤ E.2.2.2.2.1) (hc : CI T gi gr dv j) (hk : k ≤ 100 + 3 * j) (hn : n ≤ 10000 + 17 * j) (fin : lwF E dv j Q) : G E mLW_law 329 (lwL E dv j) [] T gi gr k n Q := by
  obtain ⟨Q1, hC1, hF1⟩ := (P_place hc hj : PO E mDV_place mMO_place [.int (E.2.2.2.2.2.1 (2 + 6 * j + 1))] T gi gr dv j)
  have ht := CI_t hc
  refine G_aload_n dLW_law_329 rfl ?_
  refine G_arg 1 dLW_law_330 dLW_law_331 dLW_law_332 (by decide) dLW_law_333 dLW_law_334 rfl rfl hL (by omega) ?_
  refine G_callV (As := [.int (E.2.2.2.2.2.1 (2 + 6 * j + 1))]) (rest := []) gLW_law_DV_place lLW_45.1 lLW_45.2.1 lLW_45.2.2.1 lLW_45.2.2.2 dLW_law_335 rfl (Nat.le_of_ble_eq_true rfl) ht ⟨by show k + 0 ≤ 600000; omega, by show n + 0 ≤ 7302250; omega⟩ hC1 (fun T1 gi1 gr1 v1 q1 => ?_)
  obtain ⟨x, rfl, hm, Q2, hC2, hF2⟩ := hF1 T1 gi1 gr1 v1 q1
  refine G_st (st' := [.int x]) rfl ?_
  refine G_aload_n dLW_law_338 rfl ?_
  refine G_arg 1 dLW_law_339 dLW_law_340 dLW_law_341 (by decide) dLW_law_342 dLW_law_343 rfl rfl hL (by omega) ?_
  refine G_callV (As := [.int (E.2.2.2.2.2.1 (2 + 6 * j + 1))]) (rest := [.int x]) gLW_law_MO_place lLW_49.1 lLW_49.2.1 lLW_49.2.2.1 lLW_49.2.2.2 dLW_law_344 rfl (Nat.le_of_ble_eq_true rfl) hm ⟨by show k + 0 + 0 ≤ 600000; omega, by show n + 0 + 0 ≤ 7302250; omega⟩ hC2 (fun T2 gi2 gr2 v2 q2 => ?_)
  obtain ⟨rfl, hc2⟩ := hF2 T2 gi2 gr2 v2 q2
  refine G_st (st' := [.int x, .int x]) rfl ?_
  refine G_icmp_eq dLW_law_347 (fun _ => ?_) (fun h => absurd rfl h)
  exact fin T2 gi2 gr2 _ _ hc2 (by show k + 0 + 0 ≤ 100 + 3 * (j + 1); omega) (by show n + 0 + 0 ≤ 10000 + 17 * (j + 1); omega)
theorem LW_error {E : gE} {T : gT} {gi : gI} {gr : gR} {dv j k n : Nat} {Q : gQ} (hL : E.2.2.2.2.1 ≤ 3074) (hj : j < 512) (hi : 2 + 6 * j + 6 ≤ E.2.2.2.2.1) (hc : CI T gi gr dv j) (hk : k ≤ 100 + 3 * j) (hn : n ≤ 10000 + 17 * j) (fin : lwF E dv j Q) : G E mLW_law 352 (lwL E dv j) [] T gi gr k n Q := by
  obtain ⟨Q1, hC1, hF1⟩ := (P_error hc hj : PO E mDV_error mMO_error [.int (E.2.2.2.2.2.1 (2 + 6 * j + 1))] T gi gr dv j)
  have ht := CI_t hc
  refine G_aload_n dLW_law_352 rfl ?_
  refine G_arg 1 dLW_law_353 dLW_law_354 dLW_law_355 (by decide) dLW_law_356 dLW_law_357 rfl rfl hL (by omega) ?_
  refine G_callV (As := [.int (E.2.2.2.2.2.1 (2 + 6 * j + 1))]) (rest := []) gLW_law_DV_error lLW_50.1 lLW_50.2.1 lLW_50.2.2.1 lLW_50.2.2.2 dLW_law_358 rfl (Nat.le_of_ble_eq_true rfl) ht ⟨by show k + 0 ≤ 600000; omega, by show n + 0 ≤ 7302250; omega⟩ hC1 (fun T1 gi1 gr1 v1 q1 => ?_)
  obtain ⟨x, rfl, hm, Q2, hC2, hF2⟩ := hF1 T1 gi1 gr1 v1 q1
  refine G_st (st' := [.int x]) rfl ?_
  refine G_aload_n dLW_law_361 rfl ?_
  refine G_arg 1 dLW_law_362 dLW_law_363 dLW_law_364 (by decide) dLW_law_365 dLW_law_366 rfl rfl hL (by omega) ?_
  refine G_callV (As := [.int (E.2.2.2.2.2.1 (2 + 6 * j + 1))]) (rest := [.int x]) gLW_law_MO_error lLW_53.1 lLW_53.2.1 lLW_53.2.2.1 lLW_53.2.2.2 dLW_law_367 rfl (Nat.le_of_ble_eq_true rfl) hm ⟨by show k + 0 + 0 ≤ 600000; omega, by show n + 0 + 0 ≤ 7302250; omega⟩ hC2 (fun T2 gi2 gr2 v2 q2 => ?_)
  obtain ⟨rfl, hc2⟩ := hF2 T2 gi2 gr2 v2 q2
  refine G_st (st' := [.int x, .int x]) rfl ?_
  refine G_icmp_eq dLW_law_370 (fun _ => ?_) (fun h => absurd rfl h)
  exact fin T2 gi2 gr2 _ _ hc2 (by show k + 0 + 0 ≤ 100 + 3 * (j + 1); omega) (by show n + 0 + 0 ≤ 10000 + 17 * (j + 1); omega)
theorem LW_hide {E : gE} {T : gT} {gi : gI} {gr : gR} {dv j k n : Nat} {Q : gQ} (hL : E.2.2.2.2.1 ≤ 3074) (hj : j < 512) (hi : 2 + 6 * j + 6 ≤ E.2.2.2.2.1) (hc : CI T gi gr dv j) (hk : k ≤ 100 + 3 * j) (hn : n ≤ 10000 + 17 * j) (fin : lwF E dv j Q) : G E mLW_law 375 (lwL E dv j) [] T gi gr k n Q := by
  obtain ⟨Q1, hC1, hF1⟩ := (P_hide hc hj : PO E mDV_hide mMO_hide [.int (E.2.2.2.2.2.1 (2 + 6 * j + 1)), .int (bI (decide (¬ (E.2.2.2.2.2.1 (2 + 6 * j + 2)) = 0)))] T gi gr dv j)
  have ht := CI_t hc
  refine G_aload_n dLW_law_375 rfl ?_
  refine G_arg 1 dLW_law_376 dLW_law_377 dLW_law_378 (by decide) dLW_law_379 dLW_law_380 rfl rfl hL (by omega) ?_
  refine G_arg 2 dLW_law_381 dLW_law_382 dLW_law_383 (by decide) dLW_law_384 dLW_law_385 rfl rfl hL (by omega) ?_
  refine G_bool dLW_law_386 dLW_law_389 dLW_law_390 dLW_law_393 ?_
  refine G_callV (As := [.int (E.2.2.2.2.2.1 (2 + 6 * j + 1)), .int (bI (decide (¬ (E.2.2.2.2.2.1 (2 + 6 * j + 2)) = 0)))]) (rest := []) gLW_law_DV_hide lLW_54.1 lLW_54.2.1 lLW_54.2.2.1 lLW_54.2.2.2 dLW_law_394 rfl (Nat.le_of_ble_eq_true rfl) ht ⟨by show k + 0 ≤ 600000; omega, by show n + 0 ≤ 7302250; omega⟩ hC1 (fun T1 gi1 gr1 v1 q1 => ?_)
  obtain ⟨x, rfl, hm, Q2, hC2, hF2⟩ := hF1 T1 gi1 gr1 v1 q1
  refine G_st (st' := [.int x]) rfl ?_
  refine G_aload_n dLW_law_397 rfl ?_
  refine G_arg 1 dLW_law_398 dLW_law_399 dLW_law_400 (by decide) dLW_law_401 dLW_law_402 rfl rfl hL (by omega) ?_
  refine G_arg 2 dLW_law_403 dLW_law_404 dLW_law_405 (by decide) dLW_law_406 dLW_law_407 rfl rfl hL (by omega) ?_
  refine G_bool dLW_law_408 dLW_law_411 dLW_law_412 dLW_law_415 ?_
  refine G_callV (As := [.int (E.2.2.2.2.2.1 (2 + 6 * j + 1)), .int (bI (decide (¬ (E.2.2.2.2.2.1 (2 + 6 * j + 2)) = 0)))]) (rest := [.int x]) gLW_law_MO_hide lLW_58.1 lLW_58.2.1 lLW_58.2.2.1 lLW_58.2.2.2 dLW_law_416 rfl (Nat.le_of_ble_eq_true rfl) hm ⟨by show k + 0 + 0 ≤ 600000; omega, by show n + 0 + 0 ≤ 7302250; omega⟩ hC2 (fun T2 gi2 gr2 v2 q2 => ?_)
  obtain ⟨rfl, hc2⟩ := hF2 T2 gi2 gr2 v2 q2
  refine G_st (st' := [.int x, .int x]) rfl ?_
  refine G_icmp_eq dLW_law_419 (fun _ => ?_) (fun h => absurd rfl h)
  exact fin T2 gi2 gr2 _ _ hc2 (by show k + 0 + 0 ≤ 100 + 3 * (j + 1); omega) (by show n + 0 + 0 ≤ 10000 + 17 * (j + 1); omega)
theorem LW_raise {E : gE} {T : gT} {gi : gI} {gr : gR} {dv j k n : Nat} {Q : gQ} (hL : E.2.2.2.2.1 ≤ 3074) (hj : j < 512) (hi : 2 + 6 * j + 6 ≤ E.2.2.2.2.1) (hc : CI T gi gr dv j) (hk : k ≤ 100 + 3 * j) (hn : n ≤ 10000 + 17 * j) (fin : lwF E dv j Q) : G E mLW_law 424 (lwL E dv j) [] T gi gr k n Q := by
  obtain ⟨Q1, hC1, hF1⟩ := (P_raise hc hj : PO E mDV_raise mMO_raise [.int (E.2.2.2.2.2.1 (2 + 6 * j + 1))] T gi gr dv j)
  have ht := CI_t hc
  refine G_aload_n dLW_law_424 rfl ?_
  refine G_arg 1 dLW_law_425 dLW_law_426 dLW_law_427 (by decide) dLW_law_428 dLW_law_429 rfl rfl hL (by omega) ?_
  refine G_callV (As := [.int (E.2.2.2.2.2.1 (2 + 6 * j + 1))]) (rest := []) gLW_law_DV_raise lLW_59.1 lLW_59.2.1 lLW_59.2.2.1 lLW_59.2.2.2 dLW_law_430 rfl (Nat.le_of_ble_eq_true rfl) ht ⟨by show k + 0 ≤ 600000; omega, by show n + 0 ≤ 7302250; omega⟩ hC1 (fun T1 gi1 gr1 v1 q1 => ?_)
  obtain ⟨x, rfl, hm, Q2, hC2, hF2⟩ := hF1 T1 gi1 gr1 v1 q1
  refine G_st (st' := [.int x]) rfl ?_
  refine G_aload_n dLW_law_433 rfl ?_
  refine G_arg 1 dLW_law_434 dLW_law_435 dLW_law_436 (by decide) dLW_law_437 dLW_law_438 rfl rfl hL (by omega) ?_
  refine G_callV (As := [.int (E.2.2.2.2.2.1 (2 + 6 * j + 1))]) (rest := [.int x]) gLW_law_MO_raise lLW_62.1 lLW_62.2.1 lLW_62.2.2.1 lLW_62.2.2.2 dLW_law_439 rfl (Nat.le_of_ble_eq_true rfl) hm ⟨by show k + 0 + 0 ≤ 600000; omega, by show n + 0 + 0 ≤ 7302250; omega⟩ hC2 (fun T2 gi2 gr2 v2 q2 => ?_)
  obtain ⟨rfl, hc2⟩ := hF2 T2 gi2 gr2 v2 q2
  refine G_st (st' := [.int x, .int x]) rfl ?_
  refine G_icmp_eq dLW_law_442 (fun _ => ?_) (fun h => absurd rfl h)
  exact fin T2 gi2 gr2 _ _ hc2 (by show k + 0 + 0 ≤ 100 + 3 * (j + 1); omega) (by show n + 0 + 0 ≤ 10000 + 17 * (j + 1); omega)
theorem LW_hit {E : gE} {T : gT} {gi : gI} {gr : gR} {dv j k n : Nat} {Q : gQ} (hL : E.2.2.2.2.1 ≤ 3074) (hj : j < 512) (hi : 2 + 6 * j + 6 ≤ E.2.2.2.2.1) (hc : CI T gi gr dv j) (hk : k ≤ 100 + 3 * j) (hn : n ≤ 10000 + 17 * j) (fin : lwF E dv j Q) : G E mLW_law 447 (lwL E dv j) [] T gi gr k n Q := by
  obtain ⟨Q1, hC1, hF1⟩ := (P_hit hc hj : PO E mDV_hit mMO_hit [.int (E.2.2.2.2.2.1 (2 + 6 * j + 1)), .int (E.2.2.2.2.2.1 (2 + 6 * j + 2))] T gi gr dv j)
  have ht := CI_t hc
  refine G_aload_n dLW_law_447 rfl ?_
  refine G_arg 1 dLW_law_448 dLW_law_449 dLW_law_450 (by decide) dLW_law_451 dLW_law_452 rfl rfl hL (by omega) ?_
  refine G_arg 2 dLW_law_453 dLW_law_454 dLW_law_455 (by decide) dLW_law_456 dLW_law_457 rfl rfl hL (by omega) ?_
  refine G_callV (As := [.int (E.2.2.2.2.2.1 (2 + 6 * j + 1)), .int (E.2.2.2.2.2.1 (2 + 6 * j + 2))]) (rest := []) gLW_law_DV_hit lLW_63.1 lLW_63.2.1 lLW_63.2.2.1 lLW_63.2.2.2 dLW_law_458 rfl (Nat.le_of_ble_eq_true rfl) ht ⟨by show k + 0 ≤ 600000; omega, by show n + 0 ≤ 7302250; omega⟩ hC1 (fun T1 gi1 gr1 v1 q1 => ?_)
  obtain ⟨x, rfl, hm, Q2, hC2, hF2⟩ := hF1 T1 gi1 gr1 v1 q1
  refine G_st (st' := [.int x]) rfl ?_
  refine G_aload_n dLW_law_461 rfl ?_
  refine G_arg 1 dLW_law_462 dLW_law_463 dLW_law_464 (by decide) dLW_law_465 dLW_law_466 rfl rfl hL (by omega) ?_
  refine G_arg 2 dLW_law_467 dLW_law_468 dLW_law_469 (by decide) dLW_law_470 dLW_law_471 rfl rfl hL (by omega) ?_
  refine G_callV (As := [.int (E.2.2.2.2.2.1 (2 + 6 * j + 1)), .int (E.2.2.2.2.2.1 (2 + 6 * j + 2))]) (rest := [.int x]) gLW_law_MO_hit lLW_66.1 lLW_66.2.1 lLW_66.2.2.1 lLW_66.2.2.2 dLW_law_472 rfl (Nat.le_of_ble_eq_true rfl) hm ⟨by show k + 0 + 0 ≤ 600000; omega, by show n + 0 + 0 ≤ 7302250; omega⟩ hC2 (fun T2 gi2 gr2 v2 q2 => ?_)
  obtain ⟨rfl, hc2⟩ := hF2 T2 gi2 gr2 v2 q2
  refine G_st (st' := [.int x, .int x]) rfl ?_
  refine G_icmp_eq dLW_law_475 (fun _ => ?_) (fun h => absurd rfl h)
  exact fin T2 gi2 gr2 _ _ hc2 (by show k + 0 + 0 ≤ 100 + 3 * (j + 1); omega) (by show n + 0 + 0 ≤ 10000 + 17 * (j + 1); omega)
theorem LW_press {E : gE} {T : gT} {gi : gI} {gr : gR} {dv j k n : Nat} {Q : gQ} (hL : E.2.2.2.2.1 ≤ 3074) (hj : j < 512) (hi : 2 + 6 * j + 6 ≤ E.2.2.2.2.1) (hc : CI T gi gr dv j) (hk : k ≤ 100 + 3 * j) (hn : n ≤ 10000 + 17 * j) (fin : lwF E dv j Q) : G E mLW_law 480 (lwL E dv j) [] T gi gr k n Q := by
  obtain ⟨Q1, hC1, hF1⟩ := (P_press hc hj : PO E mDV_press mMO_press [.int (E.2.2.2.2.2.1 (2 + 6 * j + 1)), .int (E.2.2.2.2.2.1 (2 + 6 * j + 2))] T gi gr dv j)
  have ht := CI_t hc
  refine G_aload_n dLW_law_480 rfl ?_
  refine G_arg 1 dLW_law_481 dLW_law_482 dLW_law_483 (by decide) dLW_law_484 dLW_law_485 rfl rfl hL (by omega) ?_
  refine G_arg 2 dLW_law_486 dLW_law_487 dLW_law_488 (by decide) dLW_law_489 dLW_law_490 rfl rfl hL (by omega) ?_
  refine G_callV (As := [.int (E.2.2.2.2.2.1 (2 + 6 * j + 1)), .int (E.2.2.2.2.2.1 (2 + 6 * j + 2))]) (rest := []) gLW_law_DV_press lLW_67.1 lLW_67.2.1 lLW_67.2.2.1 lLW_67.2.2.2 dLW_law_491 rfl (Nat.le_of_ble_eq_true rfl) ht ⟨by show k + 0 ≤ 600000; omega, by show n + 0 ≤ 7302250; omega⟩ hC1 (fun T1 gi1 gr1 v1 q1 => ?_)
  obtain ⟨x, rfl, hm, Q2, hC2, hF2⟩ := hF1 T1 gi1 gr1 v1 q1
  refine G_st (st' := [.int x]) rfl ?_
  refine G_aload_n dLW_law_494 rfl ?_
  refine G_arg 1 dLW_law_495 dLW_law_496 dLW_law_497 (by decide) dLW_law_498 dLW_law_499 rfl rfl hL (by omega) ?_
  refine G_arg 2 dLW_law_500 dLW_law_501 dLW_law_502 (by decide) dLW_law_503 dLW_law_504 rfl rfl hL (by omega) ?_
  refine G_callV (As := [.int (E.2.2.2.2.2.1 (2 + 6 * j + 1)), .int (E.2.2.2.2.2.1 (2 + 6 * j + 2))]) (rest := [.int x]) gLW_law_MO_press lLW_70.1 lLW_70.2.1 lLW_70.2.2.1 lLW_70.2.2.2 dLW_law_505 rfl (Nat.le_of_ble_eq_true rfl) hm ⟨by show k + 0 + 0 ≤ 600000; omega, by show n + 0 + 0 ≤ 7302250; omega⟩ hC2 (fun T2 gi2 gr2 v2 q2 => ?_)
  obtain ⟨rfl, hc2⟩ := hF2 T2 gi2 gr2 v2 q2
  refine G_st (st' := [.int x, .int x]) rfl ?_
  refine G_icmp_eq dLW_law_508 (fun _ => ?_) (fun h => absurd rfl h)
  exact fin T2 gi2 gr2 _ _ hc2 (by show k + 0 + 0 ≤ 100 + 3 * (j + 1); omega) (by show n + 0 + 0 ≤ 10000 + 17 * (j + 1); omega)
theorem LW_release {E : gE} {T : gT} {gi : gI} {gr : gR} {dv j k n : Nat} {Q : gQ} (hL : E.2.2.2.2.1 ≤ 3074) (hj : j < 512) (hi : 2 + 6 * j + 6 ≤ E.2.2.2.2.1) (hc : CI T gi gr dv j) (hk : k ≤ 100 + 3 * j) (hn : n ≤ 10000 + 17 * j) (fin : lwF E dv j Q) : G E mLW_law 513 (lwL E dv j) [] T gi gr k n Q := by
  obtain ⟨Q1, hC1, hF1⟩ := (P_release hc hj : PO E mDV_release mMO_release [.int (E.2.2.2.2.2.1 (2 + 6 * j + 1)), .int (E.2.2.2.2.2.1 (2 + 6 * j + 2))] T gi gr dv j)
  have ht := CI_t hc
  refine G_aload_n dLW_law_513 rfl ?_
  refine G_arg 1 dLW_law_514 dLW_law_515 dLW_law_516 (by decide) dLW_law_517 dLW_law_518 rfl rfl hL (by omega) ?_
  refine G_arg 2 dLW_law_519 dLW_law_520 dLW_law_521 (by decide) dLW_law_522 dLW_law_523 rfl rfl hL (by omega) ?_
  refine G_callV (As := [.int (E.2.2.2.2.2.1 (2 + 6 * j + 1)), .int (E.2.2.2.2.2.1 (2 + 6 * j + 2))]) (rest := []) gLW_law_DV_release lLW_71.1 lLW_71.2.1 lLW_71.2.2.1 lLW_71.2.2.2 dLW_law_524 rfl (Nat.le_of_ble_eq_true rfl) ht ⟨by show k + 0 ≤ 600000; omega, by show n + 0 ≤ 7302250; omega⟩ hC1 (fun T1 gi1 gr1 v1 q1 => ?_)
  obtain ⟨x, rfl, hm, Q2, hC2, hF2⟩ := hF1 T1 gi1 gr1 v1 q1
  refine G_st (st' := [.int x]) rfl ?_
  refine G_aload_n dLW_law_527 rfl ?_
  refine G_arg 1 dLW_law_528 dLW_law_529 dLW_law_530 (by decide) dLW_law_531 dLW_law_532 rfl rfl hL (by omega) ?_
  refine G_arg 2 dLW_law_533 dLW_law_534 dLW_law_535 (by decide) dLW_law_536 dLW_law_537 rfl rfl hL (by omega) ?_
  refine G_callV (As := [.int (E.2.2.2.2.2.1 (2 + 6 * j + 1)), .int (E.2.2.2.2.2.1 (2 + 6 * j + 2))]) (rest := [.int x]) gLW_law_MO_release lLW_74.1 lLW_74.2.1 lLW_74.2.2.1 lLW_74.2.2.2 dLW_law_538 rfl (Nat.le_of_ble_eq_true rfl) hm ⟨by show k + 0 + 0 ≤ 600000; omega, by show n + 0 + 0 ≤ 7302250; omega⟩ hC2 (fun T2 gi2 gr2 v2 q2 => ?_)
  obtain ⟨rfl, hc2⟩ := hF2 T2 gi2 gr2 v2 q2
  refine G_st (st' := [.int x, .int x]) rfl ?_
  refine G_icmp_eq dLW_law_541 (fun _ => ?_) (fun h => absurd rfl h)
  exact fin T2 gi2 gr2 _ _ hc2 (by show k + 0 + 0 ≤ 100 + 3 * (j + 1); omega) (by show n + 0 + 0 ≤ 10000 + 17 * (j + 1); omega)
theorem LW_step {E : gE} {T : gT} {gi : gI} {gr : gR} {dv j k n : Nat} {Q : gQ} (hL : E.2.2.2.2.1 ≤ 3074) (hj : j < 512) (hi : 2 + 6 * j + 6 ≤ E.2.2.2.2.1) (hc : CI T gi gr dv j) (hk : k ≤ 100 + 3 * j) (hn : n ≤ 10000 + 17 * j) (fin : lwF E dv j Q) : G E mLW_law 546 (lwL E dv j) [] T gi gr k n Q := by
  obtain ⟨Q1, hC1, hF1⟩ := (P_step hc hj : PO E mDV_step mMO_step [.int (bI (decide (¬ (E.2.2.2.2.2.1 (2 + 6 * j + 1)) = 0)))] T gi gr dv j)
  have ht := CI_t hc
  refine G_aload_n dLW_law_546 rfl ?_
  refine G_arg 1 dLW_law_547 dLW_law_548 dLW_law_549 (by decide) dLW_law_550 dLW_law_551 rfl rfl hL (by omega) ?_
  refine G_bool dLW_law_552 dLW_law_555 dLW_law_556 dLW_law_559 ?_
  refine G_callV (As := [.int (bI (decide (¬ (E.2.2.2.2.2.1 (2 + 6 * j + 1)) = 0)))]) (rest := []) gLW_law_DV_step lLW_75.1 lLW_75.2.1 lLW_75.2.2.1 lLW_75.2.2.2 dLW_law_560 rfl (Nat.le_of_ble_eq_true rfl) ht ⟨by show k + 0 ≤ 600000; omega, by show n + 0 ≤ 7302250; omega⟩ hC1 (fun T1 gi1 gr1 v1 q1 => ?_)
  obtain ⟨x, rfl, hm, Q2, hC2, hF2⟩ := hF1 T1 gi1 gr1 v1 q1
  refine G_st (st' := [.int x]) rfl ?_
  refine G_aload_n dLW_law_563 rfl ?_
  refine G_arg 1 dLW_law_564 dLW_law_565 dLW_law_566 (by decide) dLW_law_567 dLW_law_568 rfl rfl hL (by omega) ?_
  refine G_bool dLW_law_569 dLW_law_572 dLW_law_573 dLW_law_576 ?_
  refine G_callV (As := [.int (bI (decide (¬ (E.2.2.2.2.2.1 (2 + 6 * j + 1)) = 0)))]) (rest := [.int x]) gLW_law_MO_step lLW_79.1 lLW_79.2.1 lLW_79.2.2.1 lLW_79.2.2.2 dLW_law_577 rfl (Nat.le_of_ble_eq_true rfl) hm ⟨by show k + 0 + 0 ≤ 600000; omega, by show n + 0 + 0 ≤ 7302250; omega⟩ hC2 (fun T2 gi2 gr2 v2 q2 => ?_)
  obtain ⟨rfl, hc2⟩ := hF2 T2 gi2 gr2 v2 q2
  refine G_st (st' := [.int x, .int x]) rfl ?_
  refine G_icmp_eq dLW_law_580 (fun _ => ?_) (fun h => absurd rfl h)
  exact fin T2 gi2 gr2 _ _ hc2 (by show k + 0 + 0 ≤ 100 + 3 * (j + 1); omega) (by show n + 0 + 0 ≤ 10000 + 17 * (j + 1); omega)
theorem LW_key {E : gE} {T : gT} {gi : gI} {gr : gR} {dv j k n : Nat} {Q : gQ} (hL : E.2.2.2.2.1 ≤ 3074) (hj : j < 512) (hi : 2 + 6 * j + 6 ≤ E.2.2.2.2.1) (hc : CI T gi gr dv j) (hk : k ≤ 100 + 3 * j) (hn : n ≤ 10000 + 17 * j) (fin : lwF E dv j Q) : G E mLW_law 585 (lwL E dv j) [] T gi gr k n Q := by
  obtain ⟨Q1, hC1, hF1⟩ := (P_key hc hj : PO E mDV_key mMO_key [] T gi gr dv j)
  have ht := CI_t hc
  refine G_aload_n dLW_law_585 rfl ?_
  refine G_callV (As := []) (rest := []) gLW_law_DV_key lLW_80.1 lLW_80.2.1 lLW_80.2.2.1 lLW_80.2.2.2 dLW_law_586 rfl (Nat.le_of_ble_eq_true rfl) ht ⟨by show k + 0 ≤ 600000; omega, by show n + 0 ≤ 7302250; omega⟩ hC1 (fun T1 gi1 gr1 v1 q1 => ?_)
  obtain ⟨x, rfl, hm, Q2, hC2, hF2⟩ := hF1 T1 gi1 gr1 v1 q1
  refine G_st (st' := [.int x]) rfl ?_
  refine G_aload_n dLW_law_589 rfl ?_
  refine G_callV (As := []) (rest := [.int x]) gLW_law_MO_key lLW_84.1 lLW_84.2.1 lLW_84.2.2.1 lLW_84.2.2.2 dLW_law_590 rfl (Nat.le_of_ble_eq_true rfl) hm ⟨by show k + 0 + 0 ≤ 600000; omega, by show n + 0 + 0 ≤ 7302250; omega⟩ hC2 (fun T2 gi2 gr2 v2 q2 => ?_)
  obtain ⟨rfl, hc2⟩ := hF2 T2 gi2 gr2 v2 q2
  refine G_st (st' := [.int x, .int x]) rfl ?_
  refine G_icmp_eq dLW_law_593 (fun _ => ?_) (fun h => absurd rfl h)
  exact fin T2 gi2 gr2 _ _ hc2 (by show k + 0 + 0 ≤ 100 + 3 * (j + 1); omega) (by show n + 0 + 0 ≤ 10000 + 17 * (j + 1); omega)
theorem LW_attention {E : gE} {T : gT} {gi : gI} {gr : gR} {dv j k n : Nat} {Q : gQ} (hL : E.2.2.2.2.1 ≤ 3074) (hj : j < 512) (hi : 2 + 6 * j + 6 ≤ E.2.2.2.2.1) (hc : CI T gi gr dv j) (hk : k ≤ 100 + 3 * j) (hn : n ≤ 10000 + 17 * j) (fin : lwF E dv j Q) : G E mLW_law 598 (lwL E dv j) [] T gi gr k n Q := by
  obtain ⟨Q1, hC1, hF1⟩ := (P_attention hc hj : PO E mDV_attention mMO_attention [] T gi gr dv j)
  have ht := CI_t hc
  refine G_aload_n dLW_law_598 rfl ?_
  refine G_callV (As := []) (rest := []) gLW_law_DV_attention lLW_85.1 lLW_85.2.1 lLW_85.2.2.1 lLW_85.2.2.2 dLW_law_599 rfl (Nat.le_of_ble_eq_true rfl) ht ⟨by show k + 0 ≤ 600000; omega, by show n + 0 ≤ 7302250; omega⟩ hC1 (fun T1 gi1 gr1 v1 q1 => ?_)
  obtain ⟨x, rfl, hm, Q2, hC2, hF2⟩ := hF1 T1 gi1 gr1 v1 q1
  refine G_st (st' := [.int x]) rfl ?_
  refine G_aload_n dLW_law_602 rfl ?_
  refine G_callV (As := []) (rest := [.int x]) gLW_law_MO_attention lLW_88.1 lLW_88.2.1 lLW_88.2.2.1 lLW_88.2.2.2 dLW_law_603 rfl (Nat.le_of_ble_eq_true rfl) hm ⟨by show k + 0 + 0 ≤ 600000; omega, by show n + 0 + 0 ≤ 7302250; omega⟩ hC2 (fun T2 gi2 gr2 v2 q2 => ?_)
  obtain ⟨rfl, hc2⟩ := hF2 T2 gi2 gr2 v2 q2
  refine G_st (st' := [.int x, .int x]) rfl ?_
  refine G_icmp_eq dLW_law_606 (fun _ => ?_) (fun h => absurd rfl h)
  exact fin T2 gi2 gr2 _ _ hc2 (by show k + 0 + 0 ≤ 100 + 3 * (j + 1); omega) (by show n + 0 + 0 ≤ 10000 + 17 * (j + 1); omega)
theorem LW_count {E : gE} {T : gT} {gi : gI} {gr : gR} {dv j k n : Nat} {Q : gQ} (hL : E.2.2.2.2.1 ≤ 3074) (hj : j < 512) (hi : 2 + 6 * j + 6 ≤ E.2.2.2.2.1) (hc : CI T gi gr dv j) (hk : k ≤ 100 + 3 * j) (hn : n ≤ 10000 + 17 * j) (fin : lwF E dv j Q) : G E mLW_law 611 (lwL E dv j) [] T gi gr k n Q := by
  obtain ⟨Q1, hC1, hF1⟩ := (P_count hc hj : PO E mDV_count mMO_count [.int (E.2.2.2.2.2.1 (2 + 6 * j + 1))] T gi gr dv j)
  have ht := CI_t hc
  refine G_aload_n dLW_law_611 rfl ?_
  refine G_arg 1 dLW_law_612 dLW_law_613 dLW_law_614 (by decide) dLW_law_615 dLW_law_616 rfl rfl hL (by omega) ?_
  refine G_callV (As := [.int (E.2.2.2.2.2.1 (2 + 6 * j + 1))]) (rest := []) gLW_law_DV_count lLW_89.1 lLW_89.2.1 lLW_89.2.2.1 lLW_89.2.2.2 dLW_law_617 rfl (Nat.le_of_ble_eq_true rfl) ht ⟨by show k + 0 ≤ 600000; omega, by show n + 0 ≤ 7302250; omega⟩ hC1 (fun T1 gi1 gr1 v1 q1 => ?_)
  obtain ⟨x, rfl, hm, Q2, hC2, hF2⟩ := hF1 T1 gi1 gr1 v1 q1
  refine G_st (st' := [.int x]) rfl ?_
  refine G_aload_n dLW_law_620 rfl ?_
  refine G_arg 1 dLW_law_621 dLW_law_622 dLW_law_623 (by decide) dLW_law_624 dLW_law_625 rfl rfl hL (by omega) ?_
  refine G_callV (As := [.int (E.2.2.2.2.2.1 (2 + 6 * j + 1))]) (rest := [.int x]) gLW_law_MO_count lLW_92.1 lLW_92.2.1 lLW_92.2.2.1 lLW_92.2.2.2 dLW_law_626 rfl (Nat.le_of_ble_eq_true rfl) hm ⟨by show k + 0 + 0 ≤ 600000; omega, by show n + 0 + 0 ≤ 7302250; omega⟩ hC2 (fun T2 gi2 gr2 v2 q2 => ?_)
  obtain ⟨rfl, hc2⟩ := hF2 T2 gi2 gr2 v2 q2
  refine G_st (st' := [.int x, .int x]) rfl ?_
  refine G_icmp_eq dLW_law_629 (fun _ => ?_) (fun h => absurd rfl h)
  exact fin T2 gi2 gr2 _ _ hc2 (by show k + 0 + 0 ≤ 100 + 3 * (j + 1); omega) (by show n + 0 + 0 ≤ 10000 + 17 * (j + 1); omega)
theorem LW_damage {E : gE} {T : gT} {gi : gI} {gr : gR} {dv j k n : Nat} {Q : gQ} (hL : E.2.2.2.2.1 ≤ 3074) (hj : j < 512) (hi : 2 + 6 * j + 6 ≤ E.2.2.2.2.1) (hc : CI T gi gr dv j) (hk : k ≤ 100 + 3 * j) (hn : n ≤ 10000 + 17 * j) (fin : lwF E dv j Q) : G E mLW_law 634 (lwL E dv j) [] T gi gr k n Q := by
  obtain ⟨Q1, hC1, hF1⟩ := (P_damage hc hj : PO E mDV_damage mMO_damage [] T gi gr dv j)
  have ht := CI_t hc
  refine G_aload_n dLW_law_634 rfl ?_
  refine G_callV (As := []) (rest := []) gLW_law_DV_damage lLW_93.1 lLW_93.2.1 lLW_93.2.2.1 lLW_93.2.2.2 dLW_law_635 rfl (Nat.le_of_ble_eq_true rfl) ht ⟨by show k + 0 ≤ 600000; omega, by show n + 0 ≤ 7302250; omega⟩ hC1 (fun T1 gi1 gr1 v1 q1 => ?_)
  obtain ⟨x, rfl, hm, Q2, hC2, hF2⟩ := hF1 T1 gi1 gr1 v1 q1
  refine G_st (st' := [.int x]) rfl ?_
  refine G_aload_n dLW_law_638 rfl ?_
  refine G_callV (As := []) (rest := [.int x]) gLW_law_MO_damage lLW_96.1 lLW_96.2.1 lLW_96.2.2.1 lLW_96.2.2.2 dLW_law_639 rfl (Nat.le_of_ble_eq_true rfl) hm ⟨by show k + 0 + 0 ≤ 600000; omega, by show n + 0 + 0 ≤ 7302250; omega⟩ hC2 (fun T2 gi2 gr2 v2 q2 => ?_)
  obtain ⟨rfl, hc2⟩ := hF2 T2 gi2 gr2 v2 q2
  refine G_st (st' := [.int x, .int x]) rfl ?_
  refine G_icmp_eq dLW_law_642 (fun _ => ?_) (fun h => absurd rfl h)
  exact fin T2 gi2 gr2 _ _ hc2 (by show k + 0 + 0 ≤ 100 + 3 * (j + 1); omega) (by show n + 0 + 0 ≤ 10000 + 17 * (j + 1); omega)
theorem LW_paint {E : gE} {T : gT} {gi : gI} {gr : gR} {dv j k n : Nat} {Q : gQ} (hL : E.2.2.2.2.1 ≤ 3074) (hj : j < 512) (hi : 2 + 6 * j + 6 ≤ E.2.2.2.2.1) (hc : CI T gi gr dv j) (hk : k ≤ 100 + 3 * j) (hn : n ≤ 10000 + 17 * j) (fin : lwF E dv j Q) : G E mLW_law 647 (lwL E dv j) [] T gi gr k n Q := by
  obtain ⟨Q1, hC1, hF1⟩ := (P_paint hc hj : PO E mDV_paint mMO_paint [] T gi gr dv j)
  have ht := CI_t hc
  refine G_aload_n dLW_law_647 rfl ?_
  refine G_callV (As := []) (rest := []) gLW_law_DV_paint lLW_97.1 lLW_97.2.1 lLW_97.2.2.1 lLW_97.2.2.2 dLW_law_648 rfl (Nat.le_of_ble_eq_true rfl) ht ⟨by show k + 0 ≤ 600000; omega, by show n + 0 ≤ 7302250; omega⟩ hC1 (fun T1 gi1 gr1 v1 q1 => ?_)
  obtain ⟨x, rfl, hm, Q2, hC2, hF2⟩ := hF1 T1 gi1 gr1 v1 q1
  refine G_st (st' := [.int x]) rfl ?_
  refine G_aload_n dLW_law_651 rfl ?_
  refine G_callV (As := []) (rest := [.int x]) gLW_law_MO_paint lLW_100.1 lLW_100.2.1 lLW_100.2.2.1 lLW_100.2.2.2 dLW_law_652 rfl (Nat.le_of_ble_eq_true rfl) hm ⟨by show k + 0 + 0 ≤ 600000; omega, by show n + 0 + 0 ≤ 7302250; omega⟩ hC2 (fun T2 gi2 gr2 v2 q2 => ?_)
  obtain ⟨rfl, hc2⟩ := hF2 T2 gi2 gr2 v2 q2
  refine G_st (st' := [.int x, .int x]) rfl ?_
  refine G_icmp_eq dLW_law_655 (fun _ => ?_) (fun h => absurd rfl h)
  exact fin T2 gi2 gr2 _ _ hc2 (by show k + 0 + 0 ≤ 100 + 3 * (j + 1); omega) (by show n + 0 + 0 ≤ 10000 + 17 * (j + 1); omega)
theorem LW_pixel {E : gE} {T : gT} {gi : gI} {gr : gR} {dv j k n : Nat} {Q : gQ} (hL : E.2.2.2.2.1 ≤ 3074) (hj : j < 512) (hi : 2 + 6 * j + 6 ≤ E.2.2.2.2.1) (hc : CI T gi gr dv j) (hk : k ≤ 100 + 3 * j) (hn : n ≤ 10000 + 17 * j) (fin : lwF E dv j Q) : G E mLW_law 660 (lwL E dv j) [] T gi gr k n Q := by
  obtain ⟨Q1, hC1, hF1⟩ := (P_pixel hc hj : PO E mDV_pixel mMO_pixel [.int (E.2.2.2.2.2.1 (2 + 6 * j + 1)), .int (E.2.2.2.2.2.1 (2 + 6 * j + 2))] T gi gr dv j)
  have ht := CI_t hc
  refine G_aload_n dLW_law_660 rfl ?_
  refine G_arg 1 dLW_law_661 dLW_law_662 dLW_law_663 (by decide) dLW_law_664 dLW_law_665 rfl rfl hL (by omega) ?_
  refine G_arg 2 dLW_law_666 dLW_law_667 dLW_law_668 (by decide) dLW_law_669 dLW_law_670 rfl rfl hL (by omega) ?_
  refine G_callV (As := [.int (E.2.2.2.2.2.1 (2 + 6 * j + 1)), .int (E.2.2.2.2.2.1 (2 + 6 * j + 2))]) (rest := []) gLW_law_DV_pixel lLW_101.1 lLW_101.2.1 lLW_101.2.2.1 lLW_101.2.2.2 dLW_law_671 rfl (Nat.le_of_ble_eq_true rfl) ht ⟨by show k + 0 ≤ 600000; omega, by show n + 0 ≤ 7302250; omega⟩ hC1 (fun T1 gi1 gr1 v1 q1 => ?_)
  obtain ⟨x, rfl, hm, Q2, hC2, hF2⟩ := hF1 T1 gi1 gr1 v1 q1
  refine G_st (st' := [.int x]) rfl ?_
  refine G_aload_n dLW_law_674 rfl ?_
  refine G_arg 1 dLW_law_675 dLW_law_676 dLW_law_677 (by decide) dLW_law_678 dLW_law_679 rfl rfl hL (by omega) ?_
  refine G_arg 2 dLW_law_680 dLW_law_681 dLW_law_682 (by decide) dLW_law_683 dLW_law_684 rfl rfl hL (by omega) ?_
  refine G_callV (As := [.int (E.2.2.2.2.2.1 (2 + 6 * j + 1)), .int (E.2.2.2.2.2.1 (2 + 6 * j + 2))]) (rest := [.int x]) gLW_law_MO_pixel lLW_104.1 lLW_104.2.1 lLW_104.2.2.1 lLW_104.2.2.2 dLW_law_685 rfl (Nat.le_of_ble_eq_true rfl) hm ⟨by show k + 0 + 0 ≤ 600000; omega, by show n + 0 + 0 ≤ 7302250; omega⟩ hC2 (fun T2 gi2 gr2 v2 q2 => ?_)
  obtain ⟨rfl, hc2⟩ := hF2 T2 gi2 gr2 v2 q2
  refine G_st (st' := [.int x, .int x]) rfl ?_
  refine G_icmp_eq dLW_law_688 (fun _ => ?_) (fun h => absurd rfl h)
  exact fin T2 gi2 gr2 _ _ hc2 (by show k + 0 + 0 ≤ 100 + 3 * (j + 1); omega) (by show n + 0 + 0 ≤ 10000 + 17 * (j + 1); omega)
