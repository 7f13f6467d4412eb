/-! ===== the reference: who is aboard, who are friends ===== -/
section MLines4
variable {d : Nat} {w : Mem} {Q : Option Value → Mem → Prop} {B : Nat → Nat} {n b h l c k : Nat} {τ : Tk3} {s : Cs} {N : Nat → Nm4} {G : Nat → Int32} {T : Tv} {D : Nat → Nat}
/-- the number of a name that was told -/
theorem nu_lt (hP : NMP B n b h l c N) {t : Tk3} (hq : fnN B t N c < c) : ((N (fnN B t N c)).2.2.1 = 7 → (N (fnN B t N c)).2.2.2 < l) ∧ ((N (fnN B t N c)).2.2.1 = 6 → (N (fnN B t N c)).2.2.2 < h) ∧ ((N (fnN B t N c)).2.2.1 = 5 → (N (fnN B t N c)).2.2.2 < b) := by
  have := (hP.2.1 _ hq).2
  omega
/-- the loop that counts who is aboard -/
theorem ab_loop {v : Nat} {x1 : Value} (hd : ∀ i, i < 5 → w.1 63 (35 + 4 * i + 2) = nI (D i)) (hD : DOK D) (hv : v < 2 ^ 29) (h7 : w.1 63 7 = nI l) (hl5 : l ≤ 5) (hQ : Wp m_X11_aboardLine d 0 Q 51 [.ref 59, x1, .int (nI v), .int (nI (cnt (fun i => decide (D i = v + 1)) l)), .int (nI l)] [] w) : Wp m_X11_aboardLine d 0 Q 51 [.ref 59, x1, .int (nI v), .int 0, .int (nI 0)] [] w := by
  refine cnt_loop (p := fun i => decide (D i = v + 1)) (n := l) (fun j a => Wp m_X11_aboardLine d 0 Q 51 [.ref 59, x1, .int (nI v), .int a, .int (nI j)] [] w) (fun j hj hd9 => ?_) hQ
  have ei : 35 + 4 * nI j = nI (35 + 4 * j) := by rw [show (35 : Int32) = nI 35 from rfl, show (4 : Int32) = nI 4 from rfl, nI_mul, nI_add]
  have hx : 35 + 4 * j + 2 < 191 := by omega
  have hdj := hd j (by omega)
  have hDj := hD.1 j (by omega)
  have ee : (nI (D j) = nI (v + 1)) = (D j = v + 1) := eq_n (by omega) (by omega)
  refine S_X11_aboardLine_L1 _ _ _ ?_
  simp +decide (disch := omega) only [↓EQA, CEA, LIA, NIA, Nat.lt_irrefl, Option.toList_some, Option.toList_none, List.cons_append, List.nil_append, true_and, and_true, Nat.reduceAdd, Nat.reduceLeDiff, not_true_eq_false, not_false_eq_true, if_true, if_false, ite_true, ite_false, Int32.reduceLT, ite_not, eq_self, or_true, true_or, ite_self, reduceIte, B_X11_aboardLine_L1, h7, hj, ei, hx, hdj, nI_1, ee, B_X11_aboardLine_J2]
  by_cases q : D j = v + 1
  · rw [if_pos q]
    rw [if_pos (by simpa using q)] at hd9
    exact hd9
  · rw [if_neg q]
    rw [if_neg (by simpa using q)] at hd9
    rw [Int32.add_zero]
    exact hd9
theorem u_aboardLineF (hf : w.1 59 13 = 1) (hG : R63 w G) (hGd : ∀ i, i < 5 → G (35 + 4 * i + 2) = nI (D i)) (hD : DOK D) (hG7 : G 7 = nI l) (hl5 : l ≤ 5) (hQ : Q none w) : Cl (d + 9) m_X11_aboardLine [.ref 59] w Q := by
  have h7 : w.1 63 7 = nI l := by rw [hG 7 (by decide)]; exact hG7
  refine Cl_of k_X11_aboardLine.1 (Nat.le_of_ble_eq_true rfl) (show Wp m_X11_aboardLine _ 0 _ 0 [.ref 59, .null, .null, .null, .null] [] _ from S_X11_aboardLine_0 _ _ _ ?_)
  simp +decide (disch := omega) only [↓EQA, CEA, LIA, NIA, Nat.lt_irrefl, Option.toList_some, Option.toList_none, List.cons_append, List.nil_append, true_and, and_true, Nat.reduceAdd, Nat.reduceLeDiff, not_true_eq_false, not_false_eq_true, if_true, if_false, ite_true, ite_false, Int32.reduceLT, ite_not, eq_self, or_true, true_or, ite_self, reduceIte, B_X11_aboardLine_0]
  refine u_lodgerHereF hf ?_
  simp +decide (disch := omega) only [↓EQA, CEA, LIA, NIA, Nat.lt_irrefl, Option.toList_some, Option.toList_none, List.cons_append, List.nil_append, true_and, and_true, Nat.reduceAdd, Nat.reduceLeDiff, not_true_eq_false, not_false_eq_true, if_true, if_false, ite_true, ite_false, Int32.reduceLT, ite_not, eq_self, or_true, true_or, ite_self, reduceIte, hf, B_X11_aboardLine_J1]
  refine u_passF hf ?_
  simp +decide (disch := omega) only [↓EQA, CEA, LIA, NIA, Nat.lt_irrefl, Option.toList_some, Option.toList_none, List.cons_append, List.nil_append, true_and, and_true, Nat.reduceAdd, Nat.reduceLeDiff, not_true_eq_false, not_false_eq_true, if_true, if_false, ite_true, ite_false, Int32.reduceLT, ite_not, eq_self, or_true, true_or, ite_self, reduceIte]
  refine u_houseHereF hf ?_
  simp +decide (disch := omega) only [↓EQA, CEA, LIA, NIA, Nat.lt_irrefl, Option.toList_some, Option.toList_none, List.cons_append, List.nil_append, true_and, and_true, Nat.reduceAdd, Nat.reduceLeDiff, not_true_eq_false, not_false_eq_true, if_true, if_false, ite_true, ite_false, Int32.reduceLT, ite_not, eq_self, or_true, true_or, ite_self, reduceIte]
  refine ab_loop (v := 0) (D := D) (l := l) (fun i hi => by rw [hG _ (by omega)]; exact hGd i hi) hD (by decide) h7 hl5 ?_
  refine S_X11_aboardLine_L1 _ _ _ ?_
  simp +decide (disch := omega) only [↓EQA, CEA, LIA, NIA, Nat.lt_irrefl, Option.toList_some, Option.toList_none, List.cons_append, List.nil_append, true_and, and_true, Nat.reduceAdd, Nat.reduceLeDiff, not_true_eq_false, not_false_eq_true, if_true, if_false, ite_true, ite_false, Int32.reduceLT, ite_not, eq_self, or_true, true_or, ite_self, reduceIte, B_X11_aboardLine_L1, h7, hf, B_X11_aboardLine_J3]
  refine u_passF hf ?_
  simp +decide (disch := omega) only [↓EQA, CEA, LIA, NIA, Nat.lt_irrefl, Option.toList_some, Option.toList_none, List.cons_append, List.nil_append, true_and, and_true, Nat.reduceAdd, Nat.reduceLeDiff, not_true_eq_false, not_false_eq_true, if_true, if_false, ite_true, ite_false, Int32.reduceLT, ite_not, eq_self, or_true, true_or, ite_self, reduceIte, hf, B_X11_aboardLine_J4]
  exact hQ
theorem u_aboardLine (hS : MSf w B n (τ, none)) (hN : MNM w B c N) (hP : NMP B n b h l c N) (hb : b ≤ 4) (hh : h ≤ 4) (hl : l ≤ 5) (hG : R63 w G) (hGd : ∀ i, i < 5 → G (35 + 4 * i + 2) = nI (D i)) (hD : DOK D) (hD0 : ∀ i, l ≤ i → i < 5 → D i = 0) (hG7 : G 7 = nI l) (hGs : ∀ i, i < h → G (19 + 4 * i + 3) = T 5 i) (hQ : ∀ w', Ag MlP w w' → MSf w' B n (ab6 B n N c T D τ) → (∀ i, 74 ≤ i → w'.1 63 i = w.1 63 i) → ((ab6 B n N c T D τ).2 = none → nuV B N c 7 τ < l ∧ abH B n N c D τ < h ∧ R63 w' (updG G (35 + 4 * nuV B N c 7 τ + 2) (nI (abH B n N c D τ + 1)))) → Q none w') : Cl (d + 9) m_X11_aboardLine [.ref 59] w Q := by
  have two : ∀ w5 v1 v4, Ag MrP w w5 → MSf w5 B n (ab5 B n N c T D τ) → ((ab5 B n N c T D τ).2 = none → v1 = nuV B N c 7 τ ∧ v1 < l ∧ v4 = abH B n N c D τ ∧ v4 < h ∧ (ab5 B n N c T D τ).1.2.2 ≠ 4) → ∀ x3 x4, B_X11_aboardLine_J3 (d + 8) 0 Q [.ref 59, .int (nI v1), .int (nI v4), x3, x4] [] w5 := by
    intro w5 v1 v4 ha5 hS5 hv x3 x4
    simp +decide (disch := omega) only [↓EQA, CEA, LIA, NIA, Nat.lt_irrefl, Option.toList_some, Option.toList_none, List.cons_append, List.nil_append, true_and, and_true, Nat.reduceAdd, Nat.reduceLeDiff, not_true_eq_false, not_false_eq_true, if_true, if_false, ite_true, ite_false, Int32.reduceLT, ite_not, eq_self, or_true, true_or, ite_self, reduceIte, B_X11_aboardLine_J3]
    refine u_pass hS5 (fun z => (hv z).2.2.2.2) fun w6 ha6 hS6 => ?_
    have hS6' : MSf w6 B n (ab6 B n N c T D τ) := hS6
    have hb6 : Ag MrP w w6 := ha5.tr ha6
    have hG6 : R63 w6 G := hG.ag hb6 (fun i hi z => by omega)
    cases hbl : (ab6 B n N c T D τ).2 with
    | some e =>
      have hf6 := hS6'.f1 hbl
      simp +decide (disch := omega) only [↓EQA, CEA, LIA, NIA, Nat.lt_irrefl, Option.toList_some, Option.toList_none, List.cons_append, List.nil_append, true_and, and_true, Nat.reduceAdd, Nat.reduceLeDiff, not_true_eq_false, not_false_eq_true, if_true, if_false, ite_true, ite_false, Int32.reduceLT, ite_not, eq_self, or_true, true_or, ite_self, reduceIte, hf6, B_X11_aboardLine_J4]
      exact hQ w6 (hb6.wk fun j i z => Or.inl z) hS6' (fun i hi => (hb6 63 i (by omega)).1) (fun z => by rw [hbl] at z; cases z)
    | none =>
      have hf6 := hS6'.f0 hbl
      have n5 : (ab5 B n N c T D τ).2 = none := nx_none hbl
      obtain ⟨e1, l1, e4, l4, -⟩ := hv n5
      have ei : 35 + 4 * nI v1 = nI (35 + 4 * v1) := by rw [show (35 : Int32) = nI 35 from rfl, show (4 : Int32) = nI 4 from rfl, nI_mul, nI_add]
      have hx : 35 + 4 * v1 + 2 < 191 := by omega
      simp +decide (disch := omega) only [↓EQA, CEA, LIA, NIA, Nat.lt_irrefl, Option.toList_some, Option.toList_none, List.cons_append, List.nil_append, true_and, and_true, Nat.reduceAdd, Nat.reduceLeDiff, not_true_eq_false, not_false_eq_true, if_true, if_false, ite_true, ite_false, Int32.reduceLT, ite_not, eq_self, or_true, true_or, ite_self, reduceIte, hf6, ei, hx, nI_1, B_X11_aboardLine_J4]
      have hbM : Ag (fun j i => MrP j i ∨ (j = 63 ∧ i < 74)) w w6 := hb6.wk fun j i z => Or.inl z
      have hb7 := hbM.wI (v := nI (v4 + 1)) (k := 63) (p := 35 + 4 * v1 + 2) (Or.inr ⟨rfl, by omega⟩)
      refine hQ _ (hb7.wk fun j i z => by omega) hS6'.w63 (fun i hi => (hb7 63 i (by omega)).1) (fun _ => ?_)
      rw [← e1, ← e4]
      exact ⟨l1, l4, R63.wI hG6⟩
  have one : ∀ w2 v1, Ag MrP w w2 → MSf w2 B n (ab2 B N c D τ) → ((ab2 B N c D τ).2 = none → v1 = nuV B N c 7 τ ∧ v1 < l ∧ (ab2 B N c D τ).1.2.2 ≠ 4) → B_X11_aboardLine_J1 (d + 8) 0 Q [.ref 59, .int (nI v1), .null, .null, .null] [] w2 := by
    intro w2 v1 ha2 hS2 hv
    simp +decide (disch := omega) only [↓EQA, CEA, LIA, NIA, Nat.lt_irrefl, Option.toList_some, Option.toList_none, List.cons_append, List.nil_append, true_and, and_true, Nat.reduceAdd, Nat.reduceLeDiff, not_true_eq_false, not_false_eq_true, if_true, if_false, ite_true, ite_false, Int32.reduceLT, ite_not, eq_self, or_true, true_or, ite_self, reduceIte, B_X11_aboardLine_J1]
    refine u_pass hS2 (fun z => (hv z).2.2) fun w3 ha3 hS3 => ?_
    have hS3' : MSf w3 B n (ab3 B n N c D τ) := hS3
    have hN3 : MNM w3 B c N := hN.ag (ha2.tr ha3) (fun i hi z => by omega)
    simp +decide (disch := omega) only [↓EQA, CEA, LIA, NIA, Nat.lt_irrefl, Option.toList_some, Option.toList_none, List.cons_append, List.nil_append, true_and, and_true, Nat.reduceAdd, Nat.reduceLeDiff, not_true_eq_false, not_false_eq_true, if_true, if_false, ite_true, ite_false, Int32.reduceLT, ite_not, eq_self, or_true, true_or, ite_self, reduceIte]
    refine u_houseHere hS3' hN3 hP hb hh hl fun w4 v4 ha4 hS4 hv4 hv40 => ?_
    have hS4' : MSf w4 B n (ab4 B n N c D τ) := hS4
    have hb4 : Ag MrP w w4 := (ha2.tr ha3).tr ha4
    have hG4 : R63 w4 G := hG.ag hb4 (fun i hi z => by omega)
    have h7 : w4.1 63 7 = nI l := by rw [hG4 7 (by decide)]; exact hG7
    have b4 : v4 < 4 := by
      cases hbl : (ab4 B n N c D τ).2 with
      | none =>
        have n4 := num_one (s := ab3 B n N c D τ) (so := 6) hbl
        rw [hv4 hbl, n4.2.2.2.2.2.2]
        have := (nu_lt hP n4.2.2.2.2.1).2.1 n4.2.2.2.2.2.1
        omega
      | some e => rw [hv40 (fun z => by rw [show cst (eNum B N c 6) (ab3 B n N c D τ) = ab4 B n N c D τ from rfl, hbl] at z; cases z)]; decide
    simp +decide (disch := omega) only [↓EQA, CEA, LIA, NIA, Nat.lt_irrefl, Option.toList_some, Option.toList_none, List.cons_append, List.nil_append, true_and, and_true, Nat.reduceAdd, Nat.reduceLeDiff, not_true_eq_false, not_false_eq_true, if_true, if_false, ite_true, ite_false, Int32.reduceLT, ite_not, eq_self, or_true, true_or, ite_self, reduceIte]
    refine ab_loop (v := v4) (D := D) (l := l) (fun i hi => by rw [hG4 _ (by omega)]; exact hGd i hi) hD (by omega) h7 hl ?_
    refine S_X11_aboardLine_L1 _ _ _ ?_
    cases hbl : (ab4 B n N c D τ).2 with
    | some e =>
      have hf4 := hS4'.f1 hbl
      have e5 : ab5 B n N c T D τ = ab4 B n N c D τ := blIf_some hbl
      simp +decide (disch := omega) only [↓EQA, CEA, LIA, NIA, Nat.lt_irrefl, Option.toList_some, Option.toList_none, List.cons_append, List.nil_append, true_and, and_true, Nat.reduceAdd, Nat.reduceLeDiff, not_true_eq_false, not_false_eq_true, if_true, if_false, ite_true, ite_false, Int32.reduceLT, ite_not, eq_self, or_true, true_or, ite_self, reduceIte, B_X11_aboardLine_L1, h7, hf4]
      exact two w4 v1 v4 hb4 (by rw [e5]; exact hS4') (fun z => by rw [e5, hbl] at z; cases z) _ _
    | none =>
      have hf4 := hS4'.f0 hbl
      have h4 : w4.1 59 4 = nI (ab4 B n N c D τ).1.1 := hS4'.a4 hbl
      have n4 := num_one (s := ab3 B n N c D τ) (so := 6) hbl
      have n2 : (ab2 B N c D τ).2 = none := nx_none n4.1
      obtain ⟨e1, l1, -⟩ := hv n2
      have e4 : v4 = abH B n N c D τ := hv4 hbl
      have l4 : v4 < h := by
        rw [e4]
        show nuV B N c 6 (ab3 B n N c D τ).1 < h
        rw [n4.2.2.2.2.2.2]
        exact (nu_lt hP n4.2.2.2.2.1).2.1 n4.2.2.2.2.2.1
      have ei : 19 + 4 * nI v4 = nI (19 + 4 * v4) := by rw [show (19 : Int32) = nI 19 from rfl, show (4 : Int32) = nI 4 from rfl, nI_mul, nI_add]
      have hx : 19 + 4 * v4 + 3 < 191 := by omega
      have hs : w4.1 63 (19 + 4 * v4 + 3) = T 5 v4 := by rw [hG4 _ (by omega)]; exact hGs v4 l4
      have ec : cnt (fun i => decide (D i = v4 + 1)) l = pc5 (cw D v4) := by
        rw [pc5_cw]
        exact (cnt_ext hl fun j a b' => by rw [hD0 j a b']; simp).symm
      have t4 : (ab4 B n N c D τ).1.2.2 ≠ 4 := by
        show (cst (eNum B N c 6) (ab3 B n N c D τ)).1.2.2 ≠ 4
        rw [n4.2.1]
        show (ab3 B n N c D τ).1.2.2 ≠ 4
        rw [n4.2.2.1]; decide
      simp +decide (disch := omega) only [↓EQA, CEA, LIA, NIA, Nat.lt_irrefl, Option.toList_some, Option.toList_none, List.cons_append, List.nil_append, true_and, and_true, Nat.reduceAdd, Nat.reduceLeDiff, not_true_eq_false, not_false_eq_true, if_true, if_false, ite_true, ite_false, Int32.reduceLT, ite_not, eq_self, or_true, true_or, ite_self, reduceIte, B_X11_aboardLine_L1, h7, hf4, ei, hx, hs, ec]
      by_cases q : nI (pc5 (cw D v4)) < T 5 v4
      · rw [if_pos q]
        have e5 : ab5 B n N c T D τ = ab4 B n N c D τ := by
          unfold ab5 blIf
          rw [if_neg (by rw [← e4]; simpa using q)]
        exact two w4 v1 v4 hb4 (by rw [e5]; exact hS4') (fun _ => ⟨e1, l1, e4, l4, by rw [e5]; exact t4⟩) _ _
      · rw [if_neg q]
        simp +decide (disch := omega) only [↓EQA, CEA, LIA, NIA, Nat.lt_irrefl, Option.toList_some, Option.toList_none, List.cons_append, List.nil_append, true_and, and_true, Nat.reduceAdd, Nat.reduceLeDiff, not_true_eq_false, not_false_eq_true, if_true, if_false, ite_true, ite_false, Int32.reduceLT, ite_not, eq_self, or_true, true_or, ite_self, reduceIte, h4]
        refine u_wrong (f := 7) (p := (ab4 B n N c D τ).1.1) hf4 ?_
        obtain ⟨c1, c2⟩ := MSf.bad (τ := (ab4 B n N c D τ).1) (f := 7) hS4'.1
        have e5 : ab5 B n N c T D τ = ((ab4 B n N c D τ).1, some (7, (ab4 B n N c D τ).1.1)) := by
          unfold ab5 blIf
          rw [if_pos (by rw [← e4]; simpa using q), hbl]
          rfl
        simp +decide (disch := omega) only [↓EQA, CEA, LIA, NIA, Nat.lt_irrefl, Option.toList_some, Option.toList_none, List.cons_append, List.nil_append, true_and, and_true, Nat.reduceAdd, Nat.reduceLeDiff, not_true_eq_false, not_false_eq_true, if_true, if_false, ite_true, ite_false, Int32.reduceLT, ite_not, eq_self, or_true, true_or, ite_self, reduceIte]
        exact two _ v1 v4 (hb4.tr c2) (by rw [e5]; exact c1) (fun z => by rw [e5] at z; cases z) _ _
  refine Cl_of k_X11_aboardLine.1 (Nat.le_of_ble_eq_true rfl) (show Wp m_X11_aboardLine _ 0 _ 0 [.ref 59, .null, .null, .null, .null] [] _ from S_X11_aboardLine_0 _ _ _ ?_)
  simp +decide (disch := omega) only [↓EQA, CEA, LIA, NIA, Nat.lt_irrefl, Option.toList_some, Option.toList_none, List.cons_append, List.nil_append, true_and, and_true, Nat.reduceAdd, Nat.reduceLeDiff, not_true_eq_false, not_false_eq_true, if_true, if_false, ite_true, ite_false, Int32.reduceLT, ite_not, eq_self, or_true, true_or, ite_self, reduceIte, B_X11_aboardLine_0]
  refine u_lodgerHere hS hN hP hb hh hl fun w1 v1 ha1 hS1 hv1 hv10 => ?_
  have hS1' : MSf w1 B n (ab1 B N c τ) := hS1
  have hG1 : R63 w1 G := hG.ag ha1 (fun i hi z => by omega)
  cases hbl : (ab1 B N c τ).2 with
  | some e =>
    have hf1 := hS1'.f1 hbl
    have e2 : ab2 B N c D τ = ab1 B N c τ := blIf_some hbl
    simp +decide (disch := omega) only [↓EQA, CEA, LIA, NIA, Nat.lt_irrefl, Option.toList_some, Option.toList_none, List.cons_append, List.nil_append, true_and, and_true, Nat.reduceAdd, Nat.reduceLeDiff, not_true_eq_false, not_false_eq_true, if_true, if_false, ite_true, ite_false, Int32.reduceLT, ite_not, eq_self, or_true, true_or, ite_self, reduceIte, hf1]
    exact one w1 v1 ha1 (by rw [e2]; exact hS1') (fun z => by rw [e2, hbl] at z; cases z)
  | none =>
    have hf1 := hS1'.f0 hbl
    have h4 : w1.1 59 4 = nI (ab1 B N c τ).1.1 := hS1'.a4 hbl
    have n1 := num_one (s := (τ, none)) (so := 7) hbl
    have e1 : v1 = nuV B N c 7 τ := hv1 hbl
    have l1 : v1 < l := by
      rw [e1]
      have := n1.2.2.2.2.2.2
      rw [show nuV B N c 7 τ = nuV B N c 7 ((τ, none) : Cs).1 from rfl, this]
      exact (nu_lt hP n1.2.2.2.2.1).1 n1.2.2.2.2.2.1
    have ei : 35 + 4 * nI v1 = nI (35 + 4 * v1) := by rw [show (35 : Int32) = nI 35 from rfl, show (4 : Int32) = nI 4 from rfl, nI_mul, nI_add]
    have hx : 35 + 4 * v1 + 2 < 191 := by omega
    have hdv : w1.1 63 (35 + 4 * v1 + 2) = nI (D v1) := by rw [hG1 _ (by omega)]; exact hGd v1 (by omega)
    have hD1 := hD.1 v1 (by omega)
    have ee : (0 < nI (D v1)) = (0 < D v1) := lt_n (a := 0) (by decide) (by omega)
    have t1 : (ab1 B N c τ).1.2.2 ≠ 4 := by
      show (cst (eNum B N c 7) (τ, none)).1.2.2 ≠ 4
      rw [n1.2.1]
      show τ.2.2 ≠ 4
      have h1 : τ.2.2 = 1 := n1.2.2.1
      rw [h1]; decide
    simp +decide (disch := omega) only [↓EQA, CEA, LIA, NIA, Nat.lt_irrefl, Option.toList_some, Option.toList_none, List.cons_append, List.nil_append, true_and, and_true, Nat.reduceAdd, Nat.reduceLeDiff, not_true_eq_false, not_false_eq_true, if_true, if_false, ite_true, ite_false, Int32.reduceLT, ite_not, eq_self, or_true, true_or, ite_self, reduceIte, hf1, ei, hx, hdv, ee]
    by_cases q : 0 < D v1
    · rw [if_pos q]
      simp +decide (disch := omega) only [↓EQA, CEA, LIA, NIA, Nat.lt_irrefl, Option.toList_some, Option.toList_none, List.cons_append, List.nil_append, true_and, and_true, Nat.reduceAdd, Nat.reduceLeDiff, not_true_eq_false, not_false_eq_true, if_true, if_false, ite_true, ite_false, Int32.reduceLT, ite_not, eq_self, or_true, true_or, ite_self, reduceIte, h4]
      refine u_wrong (f := 3) (p := (ab1 B N c τ).1.1) hf1 ?_
      obtain ⟨c1, c2⟩ := MSf.bad (τ := (ab1 B N c τ).1) (f := 3) hS1'.1
      have e2 : ab2 B N c D τ = ((ab1 B N c τ).1, some (3, (ab1 B N c τ).1.1)) := by
        unfold ab2 blIf
        rw [if_pos (by rw [← e1]; simpa using (by omega : ¬ D v1 = 0)), hbl]
        rfl
      simp +decide (disch := omega) only [↓EQA, CEA, LIA, NIA, Nat.lt_irrefl, Option.toList_some, Option.toList_none, List.cons_append, List.nil_append, true_and, and_true, Nat.reduceAdd, Nat.reduceLeDiff, not_true_eq_false, not_false_eq_true, if_true, if_false, ite_true, ite_false, Int32.reduceLT, ite_not, eq_self, or_true, true_or, ite_self, reduceIte]
      exact one _ v1 (ha1.tr c2) (by rw [e2]; exact c1) (fun z => by rw [e2] at z; cases z)
    · rw [if_neg q]
      have e2 : ab2 B N c D τ = ab1 B N c τ := by
        unfold ab2 blIf
        rw [if_neg (by rw [← e1]; simpa using (by omega : D v1 = 0))]
      exact one w1 v1 ha1 (by rw [e2]; exact hS1') (fun _ => ⟨e1, l1, by rw [e2]; exact t1⟩)
theorem u_friendLineF (hf : w.1 59 13 = 1) (hQ : Q none w) : Cl (d + 9) m_X11_friendLine [.ref 59] w Q := by
  refine Cl_of k_X11_friendLine.1 (Nat.le_of_ble_eq_true rfl) (show Wp m_X11_friendLine _ 0 _ 0 [.ref 59, .null, .null] [] _ from S_X11_friendLine_0 _ _ _ ?_)
  simp +decide (disch := omega) only [↓EQA, CEA, LIA, NIA, Nat.lt_irrefl, Option.toList_some, Option.toList_none, List.cons_append, List.nil_append, true_and, and_true, Nat.reduceAdd, Nat.reduceLeDiff, not_true_eq_false, not_false_eq_true, if_true, if_false, ite_true, ite_false, Int32.reduceLT, ite_not, eq_self, or_true, true_or, ite_self, reduceIte, B_X11_friendLine_0]
  refine u_lodgerHereF hf ?_
  simp +decide (disch := omega) only [↓EQA, CEA, LIA, NIA, Nat.lt_irrefl, Option.toList_some, Option.toList_none, List.cons_append, List.nil_append, true_and, and_true, Nat.reduceAdd, Nat.reduceLeDiff, not_true_eq_false, not_false_eq_true, if_true, if_false, ite_true, ite_false, Int32.reduceLT, ite_not, eq_self, or_true, true_or, ite_self, reduceIte]
  refine u_passF hf ?_
  simp +decide (disch := omega) only [↓EQA, CEA, LIA, NIA, Nat.lt_irrefl, Option.toList_some, Option.toList_none, List.cons_append, List.nil_append, true_and, and_true, Nat.reduceAdd, Nat.reduceLeDiff, not_true_eq_false, not_false_eq_true, if_true, if_false, ite_true, ite_false, Int32.reduceLT, ite_not, eq_self, or_true, true_or, ite_self, reduceIte]
  refine u_lodgerHereF hf ?_
  simp +decide (disch := omega) only [↓EQA, CEA, LIA, NIA, Nat.lt_irrefl, Option.toList_some, Option.toList_none, List.cons_append, List.nil_append, true_and, and_true, Nat.reduceAdd, Nat.reduceLeDiff, not_true_eq_false, not_false_eq_true, if_true, if_false, ite_true, ite_false, Int32.reduceLT, ite_not, eq_self, or_true, true_or, ite_self, reduceIte, hf, B_X11_friendLine_J2]
  refine u_passF hf ?_
  simp +decide (disch := omega) only [↓EQA, CEA, LIA, NIA, Nat.lt_irrefl, Option.toList_some, Option.toList_none, List.cons_append, List.nil_append, true_and, and_true, Nat.reduceAdd, Nat.reduceLeDiff, not_true_eq_false, not_false_eq_true, if_true, if_false, ite_true, ite_false, Int32.reduceLT, ite_not, eq_self, or_true, true_or, ite_self, reduceIte, hf]
  exact hQ
theorem u_friendLine (hS : MSf w B n (τ, none)) (hN : MNM w B c N) (hP : NMP B n b h l c N) (hb : b ≤ 4) (hh : h ≤ 4) (hl : l ≤ 5) (hG : R63 w G) (hGf : ∀ i, i < l → G (35 + 4 * i + 3) = FO T i) (hk : G 8 = nI k) (hQ : ∀ w', Ag MlP w w' → MSf w' B n (fd5 B n N c T τ) → (∀ i, 74 ≤ i → w'.1 63 i = w.1 63 i) → ((fd5 B n N c T τ).2 = none → nuV B N c 7 τ < l ∧ fdM B n N c τ < l ∧ nuV B N c 7 τ ≠ fdM B n N c τ ∧ R63 w' (updG (updG (updG G (35 + 4 * nuV B N c 7 τ + 3) (G (35 + 4 * nuV B N c 7 τ + 3) ||| (1 <<< (nI (fdM B n N c τ) &&& 31)))) (35 + 4 * fdM B n N c τ + 3) (G (35 + 4 * fdM B n N c τ + 3) ||| (1 <<< (nI (nuV B N c 7 τ) &&& 31)))) 8 (nI (k + 1)))) → Q none w') : Cl (d + 9) m_X11_friendLine [.ref 59] w Q := by
  have two : ∀ w4 v1 v3, Ag MrP w w4 → MSf w4 B n (fd4 B n N c T τ) → ((fd4 B n N c T τ).2 = none → v1 = nuV B N c 7 τ ∧ v1 < l ∧ v3 = fdM B n N c τ ∧ v3 < l ∧ v1 ≠ v3 ∧ (fd4 B n N c T τ).1.2.2 ≠ 4) → B_X11_friendLine_J2 (d + 8) 0 Q [.ref 59, .int (nI v1), .int (nI v3)] [] w4 := by
    intro w4 v1 v3 ha4 hS4 hv
    simp +decide (disch := omega) only [↓EQA, CEA, LIA, NIA, Nat.lt_irrefl, Option.toList_some, Option.toList_none, List.cons_append, List.nil_append, true_and, and_true, Nat.reduceAdd, Nat.reduceLeDiff, not_true_eq_false, not_false_eq_true, if_true, if_false, ite_true, ite_false, Int32.reduceLT, ite_not, eq_self, or_true, true_or, ite_self, reduceIte, B_X11_friendLine_J2]
    refine u_pass hS4 (fun z => (hv z).2.2.2.2.2) fun w5 ha5 hS5 => ?_
    have hS5' : MSf w5 B n (fd5 B n N c T τ) := hS5
    have hb5 : Ag MrP w w5 := ha4.tr ha5
    have hG5 : R63 w5 G := hG.ag hb5 (fun i hi z => by omega)
    cases hbl : (fd5 B n N c T τ).2 with
    | some e =>
      have hf5 := hS5'.f1 hbl
      simp +decide (disch := omega) only [↓EQA, CEA, LIA, NIA, Nat.lt_irrefl, Option.toList_some, Option.toList_none, List.cons_append, List.nil_append, true_and, and_true, Nat.reduceAdd, Nat.reduceLeDiff, not_true_eq_false, not_false_eq_true, if_true, if_false, ite_true, ite_false, Int32.reduceLT, ite_not, eq_self, or_true, true_or, ite_self, reduceIte, hf5]
      exact hQ w5 (hb5.wk fun j i z => Or.inl z) hS5' (fun i hi => (hb5 63 i (by omega)).1) (fun z => by rw [hbl] at z; cases z)
    | none =>
      have hf5 := hS5'.f0 hbl
      have n4 : (fd4 B n N c T τ).2 = none := nx_none hbl
      obtain ⟨e1, l1, e3, l3, ne, -⟩ := hv n4
      have ei1 : 35 + 4 * nI v1 = nI (35 + 4 * v1) := by rw [show (35 : Int32) = nI 35 from rfl, show (4 : Int32) = nI 4 from rfl, nI_mul, nI_add]
      have ei3 : 35 + 4 * nI v3 = nI (35 + 4 * v3) := by rw [show (35 : Int32) = nI 35 from rfl, show (4 : Int32) = nI 4 from rfl, nI_mul, nI_add]
      have hx1 : 35 + 4 * v1 + 3 < 191 := by omega
      have hx3 : 35 + 4 * v3 + 3 < 191 := by omega
      have g1 : w5.1 63 (35 + 4 * v1 + 3) = G (35 + 4 * v1 + 3) := hG5 _ (by omega)
      have g3 : ∀ x, (wI w5 63 (35 + 4 * v1 + 3) x).1 63 (35 + 4 * v3 + 3) = G (35 + 4 * v3 + 3) := fun x => by rw [wI_get, if_neg (by omega)]; exact hG5 _ (by omega)
      have g8 : ∀ x y, (wI (wI w5 63 (35 + 4 * v1 + 3) x) 63 (35 + 4 * v3 + 3) y).1 63 8 = nI k := fun x y => by rw [wI_get, if_neg (by omega), wI_get, if_neg (by omega), hG5 8 (by decide)]; exact hk
      simp +decide (disch := omega) only [↓EQA, CEA, LIA, NIA, Nat.lt_irrefl, Option.toList_some, Option.toList_none, List.cons_append, List.nil_append, true_and, and_true, Nat.reduceAdd, Nat.reduceLeDiff, not_true_eq_false, not_false_eq_true, if_true, if_false, ite_true, ite_false, Int32.reduceLT, ite_not, eq_self, or_true, true_or, ite_self, reduceIte, hf5, ei1, ei3, hx1, hx3, g1, g3, g8, nI_1]
      have hbM : Ag (fun j i => MrP j i ∨ (j = 63 ∧ i < 74)) w w5 := hb5.wk fun j i z => Or.inl z
      have hb6 := ((hbM.wI (v := G (35 + 4 * v1 + 3) ||| (1 <<< (nI v3 &&& 31))) (k := 63) (p := 35 + 4 * v1 + 3) (Or.inr ⟨rfl, by omega⟩)).wI (v := G (35 + 4 * v3 + 3) ||| (1 <<< (nI v1 &&& 31))) (k := 63) (p := 35 + 4 * v3 + 3) (Or.inr ⟨rfl, by omega⟩)).wI (v := nI (k + 1)) (k := 63) (p := 8) (Or.inr ⟨rfl, by omega⟩)
      refine hQ _ (hb6.wk fun j i z => by omega) hS5'.w63.w63.w63 (fun i hi => (hb6 63 i (by omega)).1) (fun _ => ?_)
      rw [← e1, ← e3]
      exact ⟨l1, l3, ne, R63.wI (R63.wI (R63.wI hG5))⟩
  refine Cl_of k_X11_friendLine.1 (Nat.le_of_ble_eq_true rfl) (show Wp m_X11_friendLine _ 0 _ 0 [.ref 59, .null, .null] [] _ from S_X11_friendLine_0 _ _ _ ?_)
  simp +decide (disch := omega) only [↓EQA, CEA, LIA, NIA, Nat.lt_irrefl, Option.toList_some, Option.toList_none, List.cons_append, List.nil_append, true_and, and_true, Nat.reduceAdd, Nat.reduceLeDiff, not_true_eq_false, not_false_eq_true, if_true, if_false, ite_true, ite_false, Int32.reduceLT, ite_not, eq_self, or_true, true_or, ite_self, reduceIte, B_X11_friendLine_0]
  refine u_lodgerHere hS hN hP hb hh hl fun w1 v1 ha1 hS1 hv1 hv10 => ?_
  have hS1' : MSf w1 B n (fd1 B N c τ) := hS1
  simp +decide (disch := omega) only [↓EQA, CEA, LIA, NIA, Nat.lt_irrefl, Option.toList_some, Option.toList_none, List.cons_append, List.nil_append, true_and, and_true, Nat.reduceAdd, Nat.reduceLeDiff, not_true_eq_false, not_false_eq_true, if_true, if_false, ite_true, ite_false, Int32.reduceLT, ite_not, eq_self, or_true, true_or, ite_self, reduceIte]
  refine u_pass hS1' (fun z => ?_) fun w2 ha2 hS2 => ?_
  · have := num_one (s := (τ, none)) (so := 7) z
    show (cst (eNum B N c 7) (τ, none)).1.2.2 ≠ 4
    rw [this.2.1]
    show τ.2.2 ≠ 4
    have h1 : τ.2.2 = 1 := this.2.2.1
    rw [h1]; decide
  have hS2' : MSf w2 B n (fd2 B n N c τ) := hS2
  have hN2 : MNM w2 B c N := hN.ag (ha1.tr ha2) (fun i hi z => by omega)
  simp +decide (disch := omega) only [↓EQA, CEA, LIA, NIA, Nat.lt_irrefl, Option.toList_some, Option.toList_none, List.cons_append, List.nil_append, true_and, and_true, Nat.reduceAdd, Nat.reduceLeDiff, not_true_eq_false, not_false_eq_true, if_true, if_false, ite_true, ite_false, Int32.reduceLT, ite_not, eq_self, or_true, true_or, ite_self, reduceIte]
  refine u_lodgerHere hS2' hN2 hP hb hh hl fun w3 v3 ha3 hS3 hv3 hv30 => ?_
  have hS3' : MSf w3 B n (fd3 B n N c τ) := hS3
  have hb3 : Ag MrP w w3 := (ha1.tr ha2).tr ha3
  have hG3 : R63 w3 G := hG.ag hb3 (fun i hi z => by omega)
  cases hbl : (fd3 B n N c τ).2 with
  | some e =>
    have hf3 := hS3'.f1 hbl
    have e4 : fd4 B n N c T τ = fd3 B n N c τ := blIf_some hbl
    simp +decide (disch := omega) only [↓EQA, CEA, LIA, NIA, Nat.lt_irrefl, Option.toList_some, Option.toList_none, List.cons_append, List.nil_append, true_and, and_true, Nat.reduceAdd, Nat.reduceLeDiff, not_true_eq_false, not_false_eq_true, if_true, if_false, ite_true, ite_false, Int32.reduceLT, ite_not, eq_self, or_true, true_or, ite_self, reduceIte, hf3]
    exact two w3 v1 v3 hb3 (by rw [e4]; exact hS3') (fun z => by rw [e4, hbl] at z; cases z)
  | none =>
    have hf3 := hS3'.f0 hbl
    have n3 := num_one (s := fd2 B n N c τ) (so := 7) hbl
    have n1' : (fd1 B N c τ).2 = none := nx_none n3.1
    have n1 := num_one (s := (τ, none)) (so := 7) n1'
    have e1 : v1 = nuV B N c 7 τ := hv1 n1'
    have e3 : v3 = fdM B n N c τ := hv3 hbl
    have l1 : v1 < l := by
      rw [e1]
      have := n1.2.2.2.2.2.2
      rw [show nuV B N c 7 τ = nuV B N c 7 ((τ, none) : Cs).1 from rfl, this]
      exact (nu_lt hP n1.2.2.2.2.1).1 n1.2.2.2.2.2.1
    have l3 : v3 < l := by
      rw [e3]
      show nuV B N c 7 (fd2 B n N c τ).1 < l
      rw [n3.2.2.2.2.2.2]
      exact (nu_lt hP n3.2.2.2.2.1).1 n3.2.2.2.2.2.1
    have h4 : w3.1 59 4 = nI (fd3 B n N c τ).1.1 := hS3'.a4 hbl
    have ee : (nI v1 = nI v3) = (v1 = v3) := eq_n (by omega) (by omega)
    have t3 : (fd3 B n N c τ).1.2.2 ≠ 4 := by
      show (cst (eNum B N c 7) (fd2 B n N c τ)).1.2.2 ≠ 4
      rw [n3.2.1]
      show (fd2 B n N c τ).1.2.2 ≠ 4
      rw [n3.2.2.1]; decide
    have bad : (decide (nuV B N c 7 τ = fdM B n N c τ) || bb (FO T (nuV B N c 7 τ)) (nI (fdM B n N c τ))) = true → B_X11_friendLine_J1 (d + 8) 0 Q [.ref 59, .int (nI v1), .int (nI v3)] [] w3 := by
      intro hp
      simp +decide (disch := omega) only [↓EQA, CEA, LIA, NIA, Nat.lt_irrefl, Option.toList_some, Option.toList_none, List.cons_append, List.nil_append, true_and, and_true, Nat.reduceAdd, Nat.reduceLeDiff, not_true_eq_false, not_false_eq_true, if_true, if_false, ite_true, ite_false, Int32.reduceLT, ite_not, eq_self, or_true, true_or, ite_self, reduceIte, B_X11_friendLine_J1, h4]
      refine u_wrong (f := 3) (p := (fd3 B n N c τ).1.1) hf3 ?_
      obtain ⟨c1, c2⟩ := MSf.bad (τ := (fd3 B n N c τ).1) (f := 3) hS3'.1
      have e4 : fd4 B n N c T τ = ((fd3 B n N c τ).1, some (3, (fd3 B n N c τ).1.1)) := by
        unfold fd4 blIf
        rw [if_pos hp, hbl]
        rfl
      simp +decide (disch := omega) only [↓EQA, CEA, LIA, NIA, Nat.lt_irrefl, Option.toList_some, Option.toList_none, List.cons_append, List.nil_append, true_and, and_true, Nat.reduceAdd, Nat.reduceLeDiff, not_true_eq_false, not_false_eq_true, if_true, if_false, ite_true, ite_false, Int32.reduceLT, ite_not, eq_self, or_true, true_or, ite_self, reduceIte]
      exact two _ v1 v3 (hb3.tr c2) (by rw [e4]; exact c1) (fun z => by rw [e4] at z; cases z)
    have ei1 : 35 + 4 * nI v1 = nI (35 + 4 * v1) := by rw [show (35 : Int32) = nI 35 from rfl, show (4 : Int32) = nI 4 from rfl, nI_mul, nI_add]
    have hx1 : 35 + 4 * v1 + 3 < 191 := by omega
    have g1 : w3.1 63 (35 + 4 * v1 + 3) = FO T v1 := by rw [hG3 _ (by omega)]; exact hGf v1 l1
    simp +decide (disch := omega) only [↓EQA, CEA, LIA, NIA, Nat.lt_irrefl, Option.toList_some, Option.toList_none, List.cons_append, List.nil_append, true_and, and_true, Nat.reduceAdd, Nat.reduceLeDiff, not_true_eq_false, not_false_eq_true, if_true, if_false, ite_true, ite_false, Int32.reduceLT, ite_not, eq_self, or_true, true_or, ite_self, reduceIte, hf3, ee, ei1, hx1, g1]
    by_cases q : v1 = v3
    · rw [if_pos q]
      exact bad (by rw [← e1, ← e3]; simp [q])
    · rw [if_neg q]
      refine u_hasBit ?_
      cases q2 : bb (FO T v1) (nI v3)
      · simp +decide (disch := omega) only [↓EQA, CEA, LIA, NIA, Nat.lt_irrefl, Option.toList_some, Option.toList_none, List.cons_append, List.nil_append, true_and, and_true, Nat.reduceAdd, Nat.reduceLeDiff, not_true_eq_false, not_false_eq_true, if_true, if_false, ite_true, ite_false, Int32.reduceLT, ite_not, eq_self, or_true, true_or, ite_self, reduceIte]
        have e4 : fd4 B n N c T τ = fd3 B n N c τ := by
          unfold fd4 blIf
          rw [← e1, ← e3, if_neg (by simp [q, q2])]
        exact two w3 v1 v3 hb3 (by rw [e4]; exact hS3') (fun _ => ⟨e1, l1, e3, l3, q, by rw [e4]; exact t3⟩)
      · simp +decide (disch := omega) only [↓EQA, CEA, LIA, NIA, Nat.lt_irrefl, Option.toList_some, Option.toList_none, List.cons_append, List.nil_append, true_and, and_true, Nat.reduceAdd, Nat.reduceLeDiff, not_true_eq_false, not_false_eq_true, if_true, if_false, ite_true, ite_false, Int32.reduceLT, ite_not, eq_self, or_true, true_or, ite_self, reduceIte]
        exact bad (by rw [← e1, ← e3]; simp [q2])
end MLines4
