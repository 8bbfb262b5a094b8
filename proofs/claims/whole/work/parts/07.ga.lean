def gNa (T : gT) (a tag len : Nat) : gT := (gup T.1 a tag, gup T.2.1 a len, a + 1)
def gNMa (T : gT) (a N K : Nat) : gT := (fun q => if q = a then 104 else if a < q ∧ q ≤ a + N then 100 else T.1 q, fun q => if q = a then N else if a < q ∧ q ≤ a + N then K else T.2.1 q, a + 1 + N)
def gNMia (gi : gI) (a N : Nat) : gI := fun q => if a ≤ q ∧ q ≤ a + N then (fun _ => 0) else gi q
def gNMra (gr : gR) (a N : Nat) : gR := fun q => if q = a then (fun j => if j < N then some (a + 1 + j) else none) else if a < q ∧ q ≤ a + N then (fun _ => none) else gr q
section GA
variable {E : gE} {X : gX} {pc pc' : Nat} {ls st : List Value} {T : gT} {gi : gI} {gr : gR} {k n : Nat} {Q : gQ}
theorem G_newA {idx ci N a : Nat} (f : gNw X.1.cls idx ci N) (hd : gD X pc (.new idx) 3 pc') (ha : T.2.2 = a) (hk : k + 1 ≤ X.2.2.2.2.cells) (hn : n + N ≤ X.2.2.2.2.slots)
    (kk : G E X pc' ls (.ref a :: st) (gNa T a (ci + 1) 0) (gup gi a (fun _ => 0)) (gup gr a (fun _ => none)) (k + 1) (n + N) Q) : G E X pc ls st T gi gr k n Q := by
  subst ha
  exact G_new f hd hk hn kk
theorem G_newaA (q : Nat) {ty : ArrayType} {x : Int32} {len a : Nat} (hd : gD X pc (.newarray ty) 2 pc') (ha : T.2.2 = a) (hq : q < 2) (hty : newarray.typeOf ty = gAT q) (hwd : Cond.arrayClass (newarray.typeOf ty) ∈ gTbl) (hx : ¬ x < 0) (hN : x.toNatClampNeg = len) (hlen : len ≤ 100000) (hk : k + 1 ≤ X.2.2.2.2.cells) (hn : n + len ≤ X.2.2.2.2.slots)
    (kk : G E X pc' ls (.ref a :: st) (gNa T a (100 + q) len) (gup gi a (fun _ => 0)) (gup gr a (fun _ => none)) (k + 1) (n + len) Q) : G E X pc ls (.int x :: st) T gi gr k n Q := by
  subst ha
  exact G_newa q hd hq hty hwd hx hN hlen hk hn kk
theorem G_anewA (q : Nat) {idx : Nat} {C : String} {x : Int32} {len a : Nat} (hd : gD X pc (.anewarray idx) 3 pc') (ha : T.2.2 = a) (hq : q = 2 ∨ q = 3) (hC : gAT q = .object C) (hwd : Cond.classLink X.1.cls idx C ∈ gTbl) (hx : ¬ x < 0) (hN : x.toNatClampNeg = len) (hlen : len ≤ 100000) (hk : k + 1 ≤ X.2.2.2.2.cells) (hn : n + len ≤ X.2.2.2.2.slots)
    (kk : G E X pc' ls (.ref a :: st) (gNa T a (100 + q) len) (gup gi a (fun _ => 0)) (gup gr a (fun _ => none)) (k + 1) (n + len) Q) : G E X pc ls (.int x :: st) T gi gr k n Q := by
  subst ha
  exact G_anew q hd hq hC hwd hx hN hlen hk hn kk
theorem G_mnaA {idx N K a : Nat} {x y : Int32} (hd : gD X pc (.multianewarray idx 2) 4 pc') (ha : T.2.2 = a) (w1 : Cond.classLink X.1.cls idx "[[I" ∈ gTbl) (w2 : Cond.arrayClass FieldType.int ∈ gTbl) (hx : ¬ x < 0) (hy : ¬ y < 0) (hN : x.toNatClampNeg = N) (hK : y.toNatClampNeg = K) (hN1 : N ≤ 1000) (hK1 : K ≤ 1000) (hk : k + (1 + N) ≤ X.2.2.2.2.cells) (hn : n + (N + N * K) ≤ X.2.2.2.2.slots)
    (kk : G E X pc' ls (.ref a :: st) (gNMa T a N K) (gNMia gi a N) (gNMra gr a N) (k + 1 + N) (n + N + N * K) Q) : G E X pc ls (.int y :: .int x :: st) T gi gr k n Q := by
  subst ha
  exact G_mna hd w1 w2 hx hy hN hK hN1 hK1 hk hn kk
end GA
def FrB (T T' : gT) (gi gi' : gI) (gr gr' : gR) (b : Nat) : Prop := ∀ a, a < b → T'.1 a = T.1 a ∧ T'.2.1 a = T.2.1 a ∧ gi' a = gi a ∧ gr' a = gr a
theorem FrB.rf {T : gT} {gi : gI} {gr : gR} {b : Nat} : FrB T T gi gi gr gr b := fun _ _ => ⟨rfl, rfl, rfl, rfl⟩
theorem FrB.tr {T T' T'' : gT} {gi gi' gi'' : gI} {gr gr' gr'' : gR} {b : Nat} (h : FrB T T' gi gi' gr gr' b) (h' : FrB T' T'' gi' gi'' gr' gr'' b) : FrB T T'' gi gi'' gr gr'' b := fun a ha => ⟨(h' a ha).1.trans (h a ha).1, (h' a ha).2.1.trans (h a ha).2.1, (h' a ha).2.2.1.trans (h a ha).2.2.1, (h' a ha).2.2.2.trans (h a ha).2.2.2⟩
theorem FrB.le {T T' : gT} {gi gi' : gI} {gr gr' : gR} {b c : Nat} (h : FrB T T' gi gi' gr gr' b) (hc : c ≤ b) : FrB T T' gi gi' gr gr' c := fun a ha => h a (by omega)
