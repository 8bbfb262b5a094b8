def BdOk (T : gT) (gr : gR) (bd : Nat) : Prop := T.1 bd = 4 ∧ T.1 (bd + 1) = 104 ∧ T.2.1 (bd + 1) = 24 ∧ gr bd 0 = some (bd + 1) ∧ ∀ i, i < 24 → gr (bd + 1) i = some (bd + 2 + i) ∧ T.1 (bd + 2 + i) = 100 ∧ T.2.1 (bd + 2 + i) = 24
def BdIs (gi : gI) (bd : Nat) (R : Nat → Nat → Int32) (cf : Int32) (ec : Nat) : Prop := gi bd 1 = nI ec ∧ gi bd 2 = cf ∧ ∀ i j, i < 24 → j < 24 → gi (bd + 2 + i) j = R i j
def BdOff (gi gi' : gI) (bd : Nat) : Prop := ∀ a, ¬ (bd ≤ a ∧ a < bd + 26) → gi' a = gi a
theorem BdOff.rf {gi : gI} {bd : Nat} : BdOff gi gi bd := fun _ _ => rfl
theorem BdOff.tr {g1 g2 g3 : gI} {bd : Nat} (h : BdOff g1 g2 bd) (h' : BdOff g2 g3 bd) : BdOff g1 g3 bd := fun a ha => (h' a ha).trans (h a ha)
theorem nI_inc (a : Nat) : nI a + Int32.ofInt 1 = nI (a + 1) := nI_1 a
theorem gcat_nil : ∀ v ∈ ([] : List Value), v.category = 1 := fun _ h => by cases h
theorem gcat_cons {v : Value} {l : List Value} (h : v.category = 1) (hl : ∀ w ∈ l, w.category = 1) : ∀ w ∈ v :: l, w.category = 1 := by
  intro w hw
  rcases List.mem_cons.mp hw with rfl | hw
  · exact h
  · exact hl w hw
theorem va_rf_cat (r : Option Nat) : (va_rf r).category = 1 := by cases r <;> rfl
theorem cBD_highest {E : gE} {T : gT} {gi : gI} {gr : gR} {bd p q : Nat} (hB : BdOk T gr bd) (hp : p < 24) (hq : q < 24) : Ct E mBD_highest [.ref bd, .int (nI p), .int (nI q)] T gi gr (fun T' gi' gr' v => T' = T ∧ gi' = gi ∧ gr' = gr ∧ v = some (.int (gi (bd + 2 + q) p))) := by
  refine Ct_of (ls := [.ref bd, .int (nI p), .int (nI q)]) (by decide) (gcat_cons rfl (gcat_cons rfl (gcat_cons rfl gcat_nil))) (Nat.le_of_ble_eq_true rfl) rfl ?_
  refine G_aload_n dBD_highest_0 rfl ?_
  refine G_getRs fBD_11 dBD_highest_1 hB.1 hB.2.2.2.1 ?_
  refine G_iload_n dBD_highest_4 rfl ?_
  refine G_aaldsN 4 dBD_highest_5 (by decide) hB.2.1 hB.2.2.1 (by decide) hq (hB.2.2.2.2 q hq).1 ?_
  refine G_iload_n dBD_highest_6 rfl ?_
  refine G_ialdN dBD_highest_7 (hB.2.2.2.2 q hq).2.1 (hB.2.2.2.2 q hq).2.2 (by decide) hp ?_
  exact G_ireturn dBD_highest_8 rfl rfl (Nat.zero_le _) (Nat.zero_le _) ⟨rfl, rfl, rfl, rfl⟩
theorem cBD_lowest {E : gE} {T : gT} {gi : gI} {gr : gR} {bd p q : Nat} (hB : BdOk T gr bd) (hp : p < 24) (hq : q < 24) : Ct E mBD_lowest [.ref bd, .int (nI p), .int (nI q)] T gi gr (fun T' gi' gr' v => T' = T ∧ gi' = gi ∧ gr' = gr ∧ v = some (.int (-(gi (bd + 2 + p) q)))) := by
  refine Ct_of (ls := [.ref bd, .int (nI p), .int (nI q)]) (by decide) (gcat_cons rfl (gcat_cons rfl (gcat_cons rfl gcat_nil))) (Nat.le_of_ble_eq_true rfl) rfl ?_
  refine G_aload_n dBD_lowest_0 rfl ?_
  refine G_getRs fBD_11 dBD_lowest_1 hB.1 hB.2.2.2.1 ?_
  refine G_iload_n dBD_lowest_4 rfl ?_
  refine G_aaldsN 4 dBD_lowest_5 (by decide) hB.2.1 hB.2.2.1 (by decide) hp (hB.2.2.2.2 p hp).1 ?_
  refine G_iload_n dBD_lowest_6 rfl ?_
  refine G_ialdN dBD_lowest_7 (hB.2.2.2.2 p hp).2.1 (hB.2.2.2.2 p hp).2.2 (by decide) hq ?_
  refine G_ineg dBD_lowest_8 ?_
  exact G_ireturn dBD_lowest_9 rfl rfl (Nat.zero_le _) (Nat.zero_le _) ⟨rfl, rfl, rfl, rfl⟩
def kamR (R : Nat → Nat → Int32) (p q : Nat) (d : Int32) (ec : Nat) : Nat → Nat → Int32 := fun f t => if f < ec ∧ t < ec ∧ ¬ 268435456 ≤ R f q ∧ R f q + d < R f p ∧ ¬ 268435456 ≤ R p t ∧ ¬ R f t ≤ R f q + d + R p t then R f q + d + R p t else R f t
def kamM (R : Nat → Nat → Int32) (p q : Nat) (d : Int32) (ec : Nat) : Nat → Nat → Int32 := if d < R q p then (if -(R p q) ≤ d then kamR R p q d ec else R) else R
def kamC (R : Nat → Nat → Int32) (p q : Nat) (d : Int32) (cf : Int32) : Int32 := if d < R q p then (if -(R p q) ≤ d then cf else 1) else cf
def kamI (g0 gi : gI) (bd p f : Nat) (way : Int32) (t : Nat) : Prop := (∀ a, a ≠ bd + 2 + f → gi a = g0 a) ∧ ∀ j, j < 24 → gi (bd + 2 + f) j = if j < t ∧ ¬ 268435456 ≤ g0 (bd + 2 + p) j ∧ ¬ g0 (bd + 2 + f) j ≤ way + g0 (bd + 2 + p) j then way + g0 (bd + 2 + p) j else g0 (bd + 2 + f) j
theorem kamI_0 {g0 : gI} {bd p f : Nat} {way : Int32} : kamI g0 g0 bd p f way 0 := ⟨fun _ _ => rfl, fun j _ => by rw [if_neg (fun h => absurd h.1 (Nat.not_lt_zero _))]⟩
theorem kamI_skip {g0 gi : gI} {bd p f t : Nat} {way : Int32} (h : kamI g0 gi bd p f way t) (hn : ¬ (¬ 268435456 ≤ g0 (bd + 2 + p) t ∧ ¬ g0 (bd + 2 + f) t ≤ way + g0 (bd + 2 + p) t)) : kamI g0 gi bd p f way (t + 1) := by
  refine ⟨h.1, fun j hj => ?_⟩
  rw [h.2 j hj]
  by_cases e : j = t
  · subst e
    rw [if_neg (fun z => absurd z.1 (Nat.lt_irrefl _)), if_neg (fun z => hn z.2)]
  · by_cases c : j < t
    · have c' : j < t + 1 := Nat.lt_succ_of_lt c
      simp only [c, c', true_and]
    · have c' : ¬ j < t + 1 := by omega
      simp only [c, c', false_and]
theorem kamI_put {g0 gi : gI} {bd p f t : Nat} {way : Int32} (h : kamI g0 gi bd p f way t) (hn : ¬ 268435456 ≤ g0 (bd + 2 + p) t ∧ ¬ g0 (bd + 2 + f) t ≤ way + g0 (bd + 2 + p) t) : kamI g0 (gu gi (bd + 2 + f) t (way + g0 (bd + 2 + p) t)) bd p f way (t + 1) := by
  refine ⟨fun a ha => (gu_off ha).trans (h.1 a ha), fun j hj => ?_⟩
  rw [gu_row]
  by_cases e : j = t
  · subst e
    rw [if_pos rfl, if_pos ⟨Nat.lt_succ_self _, hn⟩]
  · rw [if_neg e, h.2 j hj]
    by_cases c : j < t
    · have c' : j < t + 1 := Nat.lt_succ_of_lt c
      simp only [c, c', true_and]
    · have c' : ¬ j < t + 1 := by omega
      simp only [c, c', false_and]
theorem kam_in {E : gE} {T : gT} {g0 : gI} {gr : gR} {bd p q f ec : Nat} {d way : Int32} {Q : gQ} (hB : BdOk T gr bd) (hp : p < 24) (hq : q < 24) (hf : f < 24) (hfp : f ≠ p) (hec24 : ec ≤ 24) (hec0 : g0 bd 1 = nI ec)
    (kx : ∀ gi : gI, kamI g0 gi bd p f way ec → G E mBD_keepAtMost 167 [.ref bd, .int (nI p), .int (nI q), .int d, .int (nI f), .int way, .int (nI ec)] [] T gi gr 0 0 Q) : ∀ (n t : Nat), t + n = ec → ∀ gi : gI, kamI g0 gi bd p f way t → G E mBD_keepAtMost 91 [.ref bd, .int (nI p), .int (nI q), .int d, .int (nI f), .int way, .int (nI t)] [] T gi gr 0 0 Q := by
  intro n
  induction n with
  | zero =>
    intro t htn gi hI
    have hec : gi bd 1 = nI ec := by rw [hI.1 bd (by omega)]; exact hec0
    refine G_iload dBD_keepAtMost_91 rfl ?_
    refine G_aload_n dBD_keepAtMost_93 rfl ?_
    refine G_getI fBD_22 dBD_keepAtMost_94 hB.1 ?_
    rw [hec]
    refine G_icmp_ge dBD_keepAtMost_97 (fun h1 => ?_) (fun h1 => ?_)
    · rw [show t = ec by omega]
      rw [show t = ec by omega] at hI
      exact kx gi hI
    · exact absurd (nI_le (by omega) (by omega)) h1
  | succ n ih =>
    intro t htn gi hI
    have ht : t < 24 := by omega
    have hec : gi bd 1 = nI ec := by rw [hI.1 bd (by omega)]; exact hec0
    have hpt : gi (bd + 2 + p) t = g0 (bd + 2 + p) t := by rw [hI.1 (bd + 2 + p) (by omega)]
    have hft : gi (bd + 2 + f) t = g0 (bd + 2 + f) t := by rw [hI.2 t ht, if_neg (fun z => absurd z.1 (Nat.lt_irrefl _))]
    refine G_iload dBD_keepAtMost_91 rfl ?_
    refine G_aload_n dBD_keepAtMost_93 rfl ?_
    refine G_getI fBD_22 dBD_keepAtMost_94 hB.1 ?_
    rw [hec]
    refine G_icmp_ge dBD_keepAtMost_97 (fun h1 => ?_) (fun h1 => ?_)
    · exact absurd h1 (nI_ge (by omega) (by omega))
    · refine G_aload_n dBD_keepAtMost_100 rfl ?_
      refine G_getRs fBD_11 dBD_keepAtMost_101 hB.1 hB.2.2.2.1 ?_
      refine G_iload_n dBD_keepAtMost_104 rfl ?_
      refine G_aaldsN 4 dBD_keepAtMost_105 (by decide) hB.2.1 hB.2.2.1 (by decide) hp (hB.2.2.2.2 p hp).1 ?_
      refine G_iload dBD_keepAtMost_106 rfl ?_
      refine G_ialdN dBD_keepAtMost_108 (hB.2.2.2.2 p hp).2.1 (hB.2.2.2.2 p hp).2.2 (by decide) ht ?_
      rw [hpt]
      refine G_ldc (v := 268435456) dBD_keepAtMost_109 kBD_30 ?_
      refine G_icmp_ge dBD_keepAtMost_111 (fun h2 => ?_) (fun h2 => ?_)
      · refine G_iinc (ls' := [.ref bd, .int (nI p), .int (nI q), .int d, .int (nI f), .int way, .int (nI (t + 1))]) dBD_keepAtMost_161 rfl (nI_inc t) (by decide) rfl ?_
        refine G_goto dBD_keepAtMost_164 ?_
        exact ih (t + 1) (by omega) _ (kamI_skip hI (fun z => z.1 h2))
      · refine G_iload dBD_keepAtMost_114 rfl ?_
        refine G_aload_n dBD_keepAtMost_116 rfl ?_
        refine G_getRs fBD_11 dBD_keepAtMost_117 hB.1 hB.2.2.2.1 ?_
        refine G_iload_n dBD_keepAtMost_120 rfl ?_
        refine G_aaldsN 4 dBD_keepAtMost_121 (by decide) hB.2.1 hB.2.2.1 (by decide) hp (hB.2.2.2.2 p hp).1 ?_
        refine G_iload dBD_keepAtMost_122 rfl ?_
        refine G_ialdN dBD_keepAtMost_124 (hB.2.2.2.2 p hp).2.1 (hB.2.2.2.2 p hp).2.2 (by decide) ht ?_
        rw [hpt]
        refine G_iadd dBD_keepAtMost_125 ?_
        refine G_aload_n dBD_keepAtMost_126 rfl ?_
        refine G_getRs fBD_11 dBD_keepAtMost_127 hB.1 hB.2.2.2.1 ?_
        refine G_iload dBD_keepAtMost_130 rfl ?_
        refine G_aaldsN 4 dBD_keepAtMost_132 (by decide) hB.2.1 hB.2.2.1 (by decide) hf (hB.2.2.2.2 f hf).1 ?_
        refine G_iload dBD_keepAtMost_133 rfl ?_
        refine G_ialdN dBD_keepAtMost_135 (hB.2.2.2.2 f hf).2.1 (hB.2.2.2.2 f hf).2.2 (by decide) ht ?_
        rw [hft]
        refine G_icmp_ge dBD_keepAtMost_136 (fun h3 => ?_) (fun h3 => ?_)
        · refine G_iinc (ls' := [.ref bd, .int (nI p), .int (nI q), .int d, .int (nI f), .int way, .int (nI (t + 1))]) dBD_keepAtMost_161 rfl (nI_inc t) (by decide) rfl ?_
          refine G_goto dBD_keepAtMost_164 ?_
          exact ih (t + 1) (by omega) _ (kamI_skip hI (fun z => z.2 h3))
        · refine G_aload_n dBD_keepAtMost_139 rfl ?_
          refine G_getRs fBD_11 dBD_keepAtMost_140 hB.1 hB.2.2.2.1 ?_
          refine G_iload dBD_keepAtMost_143 rfl ?_
          refine G_aaldsN 4 dBD_keepAtMost_145 (by decide) hB.2.1 hB.2.2.1 (by decide) hf (hB.2.2.2.2 f hf).1 ?_
          refine G_iload dBD_keepAtMost_146 rfl ?_
          refine G_iload dBD_keepAtMost_148 rfl ?_
          refine G_aload_n dBD_keepAtMost_150 rfl ?_
          refine G_getRs fBD_11 dBD_keepAtMost_151 hB.1 hB.2.2.2.1 ?_
          refine G_iload_n dBD_keepAtMost_154 rfl ?_
          refine G_aaldsN 4 dBD_keepAtMost_155 (by decide) hB.2.1 hB.2.2.1 (by decide) hp (hB.2.2.2.2 p hp).1 ?_
          refine G_iload dBD_keepAtMost_156 rfl ?_
          refine G_ialdN dBD_keepAtMost_158 (hB.2.2.2.2 p hp).2.1 (hB.2.2.2.2 p hp).2.2 (by decide) ht ?_
          rw [hpt]
          refine G_iadd dBD_keepAtMost_159 ?_
          refine G_iastN dBD_keepAtMost_160 (hB.2.2.2.2 f hf).2.1 (hB.2.2.2.2 f hf).2.2 (by decide) ht ?_
          refine G_iinc (ls' := [.ref bd, .int (nI p), .int (nI q), .int d, .int (nI f), .int way, .int (nI (t + 1))]) dBD_keepAtMost_161 rfl (nI_inc t) (by decide) rfl ?_
          refine G_goto dBD_keepAtMost_164 ?_
          exact ih (t + 1) (by omega) _ (kamI_put hI ⟨h2, h3⟩)
def kamS (R : Nat → Nat → Int32) (p q : Nat) (d : Int32) (ec f : Nat) : Nat → Nat → Int32 := fun i j => if i < f then kamR R p q d ec i j else R i j
theorem kamR_p {R : Nat → Nat → Int32} {p q ec : Nat} {d : Int32} (hpp : ¬ (¬ 268435456 ≤ R p q ∧ R p q + d < R p p)) (j : Nat) : kamR R p q d ec p j = R p j := by
  unfold kamR
  rw [if_neg]
  rintro ⟨-, -, h1, h2, -⟩
  exact hpp ⟨h1, h2⟩
theorem kamS_skip {gi : gI} {bd : Nat} {R : Nat → Nat → Int32} {p q ec f : Nat} {d cf : Int32} (hI : BdIs gi bd (kamS R p q d ec f) cf ec) (h : ¬ (¬ 268435456 ≤ R f q ∧ R f q + d < R f p)) : BdIs gi bd (kamS R p q d ec (f + 1)) cf ec := by
  refine ⟨hI.1, hI.2.1, fun i j hi hj => ?_⟩
  rw [hI.2.2 i j hi hj]
  unfold kamS
  by_cases e : i = f
  · subst e
    rw [if_neg (Nat.lt_irrefl _), if_pos (Nat.lt_succ_self _)]
    unfold kamR
    rw [if_neg]
    rintro ⟨-, -, h1, h2, -⟩
    exact h ⟨h1, h2⟩
  · by_cases c : i < f
    · rw [if_pos c, if_pos (by omega)]
    · rw [if_neg c, if_neg (by omega)]
theorem kamS_row {g0 gi : gI} {bd : Nat} {R : Nat → Nat → Int32} {p q ec f : Nat} {d cf : Int32} (hI : BdIs g0 bd (kamS R p q d ec f) cf ec) (hf : f < ec) (hf24 : f < 24) (hp : p < 24) (hfp : f ≠ p) (hpp : ¬ (¬ 268435456 ≤ R p q ∧ R p q + d < R p p)) (h1 : ¬ 268435456 ≤ R f q) (h2 : R f q + d < R f p) (hK : kamI g0 gi bd p f (R f q + d) ec) : BdIs gi bd (kamS R p q d ec (f + 1)) cf ec ∧ BdOff g0 gi bd := by
  have hrp : ∀ j, j < 24 → g0 (bd + 2 + p) j = R p j := by
    intro j hj
    rw [hI.2.2 p j hp hj]
    unfold kamS
    split
    · exact kamR_p hpp j
    · rfl
  have hrf : ∀ j, j < 24 → g0 (bd + 2 + f) j = R f j := by
    intro j hj
    rw [hI.2.2 f j hf24 hj]
    unfold kamS
    rw [if_neg (Nat.lt_irrefl _)]
  refine ⟨⟨by rw [hK.1 bd (by omega)]; exact hI.1, by rw [hK.1 bd (by omega)]; exact hI.2.1, fun i j hi hj => ?_⟩, fun a ha => hK.1 a (by omega)⟩
  by_cases e : i = f
  · subst e
    rw [hK.2 j hj, hrp j hj, hrf j hj]
    unfold kamS
    rw [if_pos (Nat.lt_succ_self _)]
    unfold kamR
    simp only [hf, h1, h2, true_and, not_false_eq_true]
  · rw [hK.1 (bd + 2 + i) (by omega), hI.2.2 i j hi hj]
    unfold kamS
    by_cases c : i < f
    · rw [if_pos c, if_pos (by omega)]
    · rw [if_neg c, if_neg (by omega)]
theorem kam_out {E : gE} {T : gT} {g00 : gI} {gr : gR} {bd p q ec : Nat} {d cf : Int32} {R : Nat → Nat → Int32} {Q : gQ} (hB : BdOk T gr bd) (hp : p < 24) (hq : q < 24) (hec24 : ec ≤ 24) (hpp : ¬ (¬ 268435456 ≤ R p q ∧ R p q + d < R p p))
    (kx : ∀ (gi : gI) (v5 v6 : Value), BdIs gi bd (kamS R p q d ec ec) cf ec → BdOff g00 gi bd → G E mBD_keepAtMost 173 [.ref bd, .int (nI p), .int (nI q), .int d, .int (nI ec), v5, v6] [] T gi gr 0 0 Q) : ∀ (n f : Nat), f + n = ec → ∀ (gi : gI) (v5 v6 : Value), BdIs gi bd (kamS R p q d ec f) cf ec → BdOff g00 gi bd → G E mBD_keepAtMost 35 [.ref bd, .int (nI p), .int (nI q), .int d, .int (nI f), v5, v6] [] T gi gr 0 0 Q := by
  intro n
  induction n with
  | zero =>
    intro f hfn gi v5 v6 hI hO
    refine G_iload dBD_keepAtMost_35 rfl ?_
    refine G_aload_n dBD_keepAtMost_37 rfl ?_
    refine G_getI fBD_22 dBD_keepAtMost_38 hB.1 ?_
    rw [hI.1]
    refine G_icmp_ge dBD_keepAtMost_41 (fun h1 => ?_) (fun h1 => ?_)
    · rw [show f = ec by omega]
      rw [show f = ec by omega] at hI
      exact kx gi v5 v6 hI hO
    · exact absurd (nI_le (by omega) (by omega)) h1
  | succ n ih =>
    intro f hfn gi v5 v6 hI hO
    have hf : f < 24 := by omega
    have hec : gi bd 1 = nI ec := hI.1
    have hrow : ∀ j, j < 24 → gi (bd + 2 + f) j = R f j := by
      intro j hj
      rw [hI.2.2 f j hf hj]
      unfold kamS
      rw [if_neg (Nat.lt_irrefl _)]
    have k167 : ∀ (gi : gI) (v5 v6 : Value), BdIs gi bd (kamS R p q d ec (f + 1)) cf ec → BdOff g00 gi bd → G E mBD_keepAtMost 167 [.ref bd, .int (nI p), .int (nI q), .int d, .int (nI f), v5, v6] [] T gi gr 0 0 Q := by
      intro gi v5 v6 hI hO
      refine G_iinc (ls' := [.ref bd, .int (nI p), .int (nI q), .int d, .int (nI (f + 1)), v5, v6]) dBD_keepAtMost_167 rfl (nI_inc f) (by decide) rfl ?_
      refine G_goto dBD_keepAtMost_170 ?_
      exact ih (f + 1) (by omega) gi v5 v6 hI hO
    refine G_iload dBD_keepAtMost_35 rfl ?_
    refine G_aload_n dBD_keepAtMost_37 rfl ?_
    refine G_getI fBD_22 dBD_keepAtMost_38 hB.1 ?_
    rw [hec]
    refine G_icmp_ge dBD_keepAtMost_41 (fun h1 => ?_) (fun h1 => ?_)
    · exact absurd h1 (nI_ge (by omega) (by omega))
    · refine G_aload_n dBD_keepAtMost_44 rfl ?_
      refine G_getRs fBD_11 dBD_keepAtMost_45 hB.1 hB.2.2.2.1 ?_
      refine G_iload dBD_keepAtMost_48 rfl ?_
      refine G_aaldsN 4 dBD_keepAtMost_50 (by decide) hB.2.1 hB.2.2.1 (by decide) hf (hB.2.2.2.2 f hf).1 ?_
      refine G_iload_n dBD_keepAtMost_51 rfl ?_
      refine G_ialdN dBD_keepAtMost_52 (hB.2.2.2.2 f hf).2.1 (hB.2.2.2.2 f hf).2.2 (by decide) hq ?_
      rw [hrow q hq]
      refine G_iload_n dBD_keepAtMost_53 rfl ?_
      refine G_iadd dBD_keepAtMost_54 ?_
      refine G_istore (ls' := [.ref bd, .int (nI p), .int (nI q), .int d, .int (nI f), .int ((R f q) + (d)), v6]) dBD_keepAtMost_55 (by decide) rfl ?_
      refine G_aload_n dBD_keepAtMost_57 rfl ?_
      refine G_getRs fBD_11 dBD_keepAtMost_58 hB.1 hB.2.2.2.1 ?_
      refine G_iload dBD_keepAtMost_61 rfl ?_
      refine G_aaldsN 4 dBD_keepAtMost_63 (by decide) hB.2.1 hB.2.2.1 (by decide) hf (hB.2.2.2.2 f hf).1 ?_
      refine G_iload_n dBD_keepAtMost_64 rfl ?_
      refine G_ialdN dBD_keepAtMost_65 (hB.2.2.2.2 f hf).2.1 (hB.2.2.2.2 f hf).2.2 (by decide) hq ?_
      rw [hrow q hq]
      refine G_ldc (v := 268435456) dBD_keepAtMost_66 kBD_30 ?_
      refine G_icmp_ge dBD_keepAtMost_68 (fun h2 => ?_) (fun h2 => ?_)
      · exact k167 gi _ _ (kamS_skip hI (fun z => z.1 h2)) hO
      · refine G_iload dBD_keepAtMost_71 rfl ?_
        refine G_aload_n dBD_keepAtMost_73 rfl ?_
        refine G_getRs fBD_11 dBD_keepAtMost_74 hB.1 hB.2.2.2.1 ?_
        refine G_iload dBD_keepAtMost_77 rfl ?_
        refine G_aaldsN 4 dBD_keepAtMost_79 (by decide) hB.2.1 hB.2.2.1 (by decide) hf (hB.2.2.2.2 f hf).1 ?_
        refine G_iload_n dBD_keepAtMost_80 rfl ?_
        refine G_ialdN dBD_keepAtMost_81 (hB.2.2.2.2 f hf).2.1 (hB.2.2.2.2 f hf).2.2 (by decide) hp ?_
        rw [hrow p hp]
        refine G_icmp_lt dBD_keepAtMost_82 (fun h3 => ?_) (fun h3 => ?_)
        · refine G_iconst (v := nI 0) dBD_keepAtMost_88 (by decide +kernel) ?_
          refine G_istore (ls' := [.ref bd, .int (nI p), .int (nI q), .int d, .int (nI f), .int ((R f q) + (d)), .int (nI 0)]) dBD_keepAtMost_89 (by decide) rfl ?_
          have hne : f ≠ p := fun z => hpp (by rw [z] at h2 h3; exact ⟨h2, h3⟩)
          exact kam_in hB hp hq hf hne hec24 hec (fun gi2 hK => k167 gi2 _ _ (kamS_row hI (by omega) hf hp hne hpp h2 h3 hK).1 (hO.tr (kamS_row hI (by omega) hf hp hne hpp h2 h3 hK).2)) ec 0 (Nat.zero_add _) gi kamI_0
        · refine G_goto dBD_keepAtMost_85 ?_
          exact k167 gi _ _ (kamS_skip hI (fun z => h3 z.2)) hO
theorem cBD_keepAtMost {E : gE} {T : gT} {gi : gI} {gr : gR} {bd p q ec : Nat} {d cf : Int32} {R : Nat → Nat → Int32} (hB : BdOk T gr bd) (hI : BdIs gi bd R cf ec) (hp : p < 24) (hq : q < 24) (hec24 : ec ≤ 24) (hpp : d < R q p → -(R p q) ≤ d → ¬ (¬ 268435456 ≤ R p q ∧ R p q + d < R p p)) : Ct E mBD_keepAtMost [.ref bd, .int (nI p), .int (nI q), .int d] T gi gr (fun T' gi' gr' v => T' = T ∧ gr' = gr ∧ v = none ∧ BdIs gi' bd (kamM R p q d ec) (kamC R p q d cf) ec ∧ BdOff gi gi' bd) := by
  refine Ct_of (ls := [.ref bd, .int (nI p), .int (nI q), .int d, .long 0, .long 0, .long 0]) (by decide) (gcat_cons rfl (gcat_cons rfl (gcat_cons rfl (gcat_cons rfl gcat_nil)))) (Nat.le_of_ble_eq_true rfl) rfl ?_
  refine G_iload_n dBD_keepAtMost_0 rfl ?_
  refine G_aload_n dBD_keepAtMost_1 rfl ?_
  refine G_getRs fBD_11 dBD_keepAtMost_2 hB.1 hB.2.2.2.1 ?_
  refine G_iload_n dBD_keepAtMost_5 rfl ?_
  refine G_aaldsN 4 dBD_keepAtMost_6 (by decide) hB.2.1 hB.2.2.1 (by decide) hq (hB.2.2.2.2 q hq).1 ?_
  refine G_iload_n dBD_keepAtMost_7 rfl ?_
  refine G_ialdN dBD_keepAtMost_8 (hB.2.2.2.2 q hq).2.1 (hB.2.2.2.2 q hq).2.2 (by decide) hp ?_
  rw [hI.2.2 q p hq hp]
  refine G_icmp_lt dBD_keepAtMost_9 (fun h1 => ?_) (fun h1 => ?_)
  · refine G_iload_n dBD_keepAtMost_13 rfl ?_
    refine G_aload_n dBD_keepAtMost_14 rfl ?_
    refine G_getRs fBD_11 dBD_keepAtMost_15 hB.1 hB.2.2.2.1 ?_
    refine G_iload_n dBD_keepAtMost_18 rfl ?_
    refine G_aaldsN 4 dBD_keepAtMost_19 (by decide) hB.2.1 hB.2.2.1 (by decide) hp (hB.2.2.2.2 p hp).1 ?_
    refine G_iload_n dBD_keepAtMost_20 rfl ?_
    refine G_ialdN dBD_keepAtMost_21 (hB.2.2.2.2 p hp).2.1 (hB.2.2.2.2 p hp).2.2 (by decide) hq ?_
    rw [hI.2.2 p q hp hq]
    refine G_ineg dBD_keepAtMost_22 ?_
    refine G_icmp_ge dBD_keepAtMost_23 (fun h2 => ?_) (fun h2 => ?_)
    · refine G_iconst (v := nI 0) dBD_keepAtMost_32 (by decide +kernel) ?_
      refine G_istore (ls' := [.ref bd, .int (nI p), .int (nI q), .int d, .int (nI 0), .long 0, .long 0]) dBD_keepAtMost_33 (by decide) rfl ?_
      refine kam_out (g00 := gi) (cf := cf) hB hp hq hec24 (hpp h1 h2) (fun gi2 v5 v6 hI2 hO2 => ?_) ec 0 (Nat.zero_add _) gi _ _ ⟨hI.1, hI.2.1, fun i j hi hj => by rw [hI.2.2 i j hi hj]; unfold kamS; rw [if_neg (Nat.not_lt_zero _)]⟩ BdOff.rf
      refine G_return dBD_keepAtMost_173 rfl (Nat.zero_le _) (Nat.zero_le _) ⟨rfl, rfl, rfl, ?_, hO2⟩
      unfold kamM kamC
      rw [if_pos h1, if_pos h2, if_pos h1, if_pos h2]
      refine ⟨hI2.1, hI2.2.1, fun i j hi hj => ?_⟩
      rw [hI2.2.2 i j hi hj]
      unfold kamS
      split
      · rfl
      · unfold kamR
        rw [if_neg (fun z => by omega)]
    · refine G_aload_n dBD_keepAtMost_26 rfl ?_
      refine G_iconst (v := 1) dBD_keepAtMost_27 (by decide) ?_
      refine G_putI wBD_26 (Or.inl rfl) dBD_keepAtMost_28 hB.1 (nr_z (Or.inr rfl)) (ft_z (Or.inr rfl)) ?_
      refine G_return dBD_keepAtMost_31 rfl (Nat.zero_le _) (Nat.zero_le _) ⟨rfl, rfl, rfl, ?_, fun a ha => gu_off (by omega)⟩
      unfold kamM kamC
      rw [if_pos h1, if_neg h2, if_pos h1, if_neg h2]
      exact ⟨by rw [gu_ne (Or.inr (by decide))]; exact hI.1, gu_same, fun i j hi hj => by rw [gu_ne (Or.inl (by omega))]; exact hI.2.2 i j hi hj⟩
  · exact G_return dBD_keepAtMost_12 rfl (Nat.zero_le _) (Nat.zero_le _) ⟨rfl, rfl, rfl, by unfold kamM kamC; rw [if_neg h1, if_neg h1]; exact hI, BdOff.rf⟩
