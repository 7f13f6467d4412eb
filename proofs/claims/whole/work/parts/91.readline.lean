/-! ===== the class reads a line ===== -/
section ReadLine
variable {d : Nat} {w : Mem} {Q : Option Value → Mem → Prop} {B : Nat → Nat} {n c k : Nat} {τ : Tk3} {N : Nat → Nm4} {T : Tv} {D F : Nat → Nat}
theorem RC.same {R : Rc} {w1 : Mem} (h : RC w 42 43 R) (h1 : ∀ i, w1.1 42 i = w.1 42 i) (h2 : ∀ i, w1.1 43 i = w.1 43 i) : RC w1 42 43 R := by
  obtain ⟨a1, a2, a3, a4, a5⟩ := h
  exact ⟨fun i hi => by rw [h2]; exact a1 i hi, by rw [h1]; exact a2, by rw [h1]; exact a3, by rw [h1]; exact a4, by rw [h1]; exact a5⟩
theorem NMs.same {w1 : Mem} (h : NMs w n c N) (h1 : ∀ j i, 23 ≤ j → j ≤ 27 → w1.1 j i = w.1 j i) : NMs w1 n c N := by
  refine ⟨by rw [h1 23 4 (by decide) (by decide)]; exact h.1, h.2.1, fun i hi => ?_⟩
  have := h.2.2 i hi
  exact ⟨⟨by rw [h1 24 i (by decide) (by decide)]; exact this.1.1, by rw [h1 25 i (by decide) (by decide)]; exact this.1.2.1, by rw [h1 26 i (by decide) (by decide)]; exact this.1.2.2.1, by rw [h1 27 i (by decide) (by decide)]; exact this.1.2.2.2⟩, this.2⟩
theorem ToldR.same {w1 : Mem} (h : ToldR w T) (h1 : ∀ j i, 29 ≤ j → j ≤ 41 → w1.1 j i = w.1 j i) : ToldR w1 T := by
  have g : ∀ j, 29 ≤ j → j ≤ 41 → w1.1 j = w.1 j := fun j a b => funext fun i => h1 j i a b
  obtain ⟨a0, a1, a2, a3, a4, a5, a6, a7, a8, a9, a10, a11, a12⟩ := h
  exact ⟨by rw [g 29 (by decide) (by decide)]; exact a0, by rw [g 30 (by decide) (by decide)]; exact a1, by rw [g 31 (by decide) (by decide)]; exact a2, by rw [g 32 (by decide) (by decide)]; exact a3, by rw [g 33 (by decide) (by decide)]; exact a4, by rw [g 34 (by decide) (by decide)]; exact a5, by rw [g 35 (by decide) (by decide)]; exact a6, by rw [g 36 (by decide) (by decide)]; exact a7, by rw [g 37 (by decide) (by decide)]; exact a8, by rw [g 38 (by decide) (by decide)]; exact a9, by rw [g 39 (by decide) (by decide)]; exact a10, by rw [g 40 (by decide) (by decide)]; exact a11, by rw [g 41 (by decide) (by decide)]; exact a12⟩
theorem CRl.ag {P : Nat → Nat → Prop} {w1 : Mem} (h : CRl w n T D N c) (ha : Ag P w w1) (hp : ∀ j i, 22 ≤ j → j ≤ 43 → ¬ P j i) : CRl w1 n T D N c := ⟨h.1.ag ha (fun j i a b => hp j i (by omega) (by omega)), h.2.1.ag ha (fun i => hp 42 i (by decide) (by decide)) (fun i => hp 43 i (by decide) (by decide)), h.2.2.1.ag ha (fun j i a b => hp j i (by omega) (by omega)), by rw [(ha 22 4 (hp 22 4 (by decide) (by decide))).1]; exact h.2.2.2⟩
theorem t_faultNo (hQ : Q (some (.int 1)) w) : Cl (d + 2) m_X6_faultOfLine [.ref 22, .int (-1)] w Q := by
  refine Cl_of k_X6_faultOfLine.1 (Nat.le_of_ble_eq_true rfl) (show Wp m_X6_faultOfLine _ 0 _ 0 [.ref 22, .int (-1)] [] _ from S_X6_faultOfLine_0 _ _ _ ?_)
  simp +decide (disch := omega) only [↓EQA, CEA, LIA, NIA, Nat.lt_irrefl, Option.toList_some, Option.toList_none, List.cons_append, List.nil_append, true_and, and_true, Nat.reduceAdd, Nat.reduceLeDiff, not_true_eq_false, not_false_eq_true, if_true, if_false, ite_true, ite_false, Int32.reduceLT, ite_not, eq_self, or_true, true_or, ite_self, reduceIte, B_X6_faultOfLine_0]
  exact hQ
theorem t_faultRg (hR : CRl w n T D N c) (hQ : Q (some (.int (if D 7 = 0 then 0 else 3))) w) : Cl (d + 2) m_X6_faultOfLine [.ref 22, .int 11] w Q := by
  have hb := hR.2.2.2
  refine Cl_of k_X6_faultOfLine.1 (Nat.le_of_ble_eq_true rfl) (show Wp m_X6_faultOfLine _ 0 _ 0 [.ref 22, .int 11] [] _ from S_X6_faultOfLine_0 _ _ _ ?_)
  by_cases q : D 7 = 0
  · rw [show bI (¬ D 7 = 0) = 0 from if_neg (fun z => z q)] at hb
    rw [if_pos q] at hQ
    simp +decide (disch := omega) only [↓EQA, CEA, LIA, NIA, Nat.lt_irrefl, Option.toList_some, Option.toList_none, List.cons_append, List.nil_append, true_and, and_true, Nat.reduceAdd, Nat.reduceLeDiff, not_true_eq_false, not_false_eq_true, if_true, if_false, ite_true, ite_false, Int32.reduceLT, ite_not, eq_self, or_true, true_or, ite_self, reduceIte, B_X6_faultOfLine_0, hb, B_X6_faultOfLine_J1]
    exact hQ
  · rw [show bI (¬ D 7 = 0) = 1 from if_pos q] at hb
    rw [if_neg q] at hQ
    simp +decide (disch := omega) only [↓EQA, CEA, LIA, NIA, Nat.lt_irrefl, Option.toList_some, Option.toList_none, List.cons_append, List.nil_append, true_and, and_true, Nat.reduceAdd, Nat.reduceLeDiff, not_true_eq_false, not_false_eq_true, if_true, if_false, ite_true, ite_false, Int32.reduceLT, ite_not, eq_self, or_true, true_or, ite_self, reduceIte, B_X6_faultOfLine_0, hb, B_X6_faultOfLine_J1]
    exact hQ
theorem t_faultAb (hR : CRl w n T D N c) (hQ : Q (some (.int (if D 7 = 0 then 6 else 0))) w) : Cl (d + 2) m_X6_faultOfLine [.ref 22, .int 12] w Q := by
  have hb := hR.2.2.2
  refine Cl_of k_X6_faultOfLine.1 (Nat.le_of_ble_eq_true rfl) (show Wp m_X6_faultOfLine _ 0 _ 0 [.ref 22, .int 12] [] _ from S_X6_faultOfLine_0 _ _ _ ?_)
  by_cases q : D 7 = 0
  · rw [show bI (¬ D 7 = 0) = 0 from if_neg (fun z => z q)] at hb
    rw [if_pos q] at hQ
    simp +decide (disch := omega) only [↓EQA, CEA, LIA, NIA, Nat.lt_irrefl, Option.toList_some, Option.toList_none, List.cons_append, List.nil_append, true_and, and_true, Nat.reduceAdd, Nat.reduceLeDiff, not_true_eq_false, not_false_eq_true, if_true, if_false, ite_true, ite_false, Int32.reduceLT, ite_not, eq_self, or_true, true_or, ite_self, reduceIte, B_X6_faultOfLine_0, hb]
    exact hQ
  · rw [show bI (¬ D 7 = 0) = 1 from if_pos q] at hb
    rw [if_neg q] at hQ
    simp +decide (disch := omega) only [↓EQA, CEA, LIA, NIA, Nat.lt_irrefl, Option.toList_some, Option.toList_none, List.cons_append, List.nil_append, true_and, and_true, Nat.reduceAdd, Nat.reduceLeDiff, not_true_eq_false, not_false_eq_true, if_true, if_false, ite_true, ite_false, Int32.reduceLT, ite_not, eq_self, or_true, true_or, ite_self, reduceIte, B_X6_faultOfLine_0, hb, B_X6_faultOfLine_J2, B_X6_faultOfLine_J3]
    exact hQ
theorem t_faultK {l : Nat} (hl : 5 ≤ l ∧ l ≤ 10) (hR : CRl w n T D N c) (hk : T 0 l = nI k) (hk6 : k ≤ 6) (hQ : Q (some (.int (if D 7 = 0 then 6 else if k < roN l then 0 else 5))) w) : Cl (d + 2) m_X6_faultOfLine [.ref 22, .int (nI l)] w Q := by
  have hb := hR.2.2.2
  have k29 : w.1 29 l = nI k := by rw [hR.1.1]; exact hk
  have ro : roN l < 2 ^ 31 := by
    rcases (by omega : l = 5 ∨ l = 6 ∨ l = 7 ∨ l = 8 ∨ l = 9 ∨ l = 10) with rfl | rfl | rfl | rfl | rfl | rfl <;> decide
  have e1 : (nI l = -1) = False := by rcases (by omega : l = 5 ∨ l = 6 ∨ l = 7 ∨ l = 8 ∨ l = 9 ∨ l = 10) with rfl | rfl | rfl | rfl | rfl | rfl <;> decide
  have e2 : (nI l = 11) = False := by rcases (by omega : l = 5 ∨ l = 6 ∨ l = 7 ∨ l = 8 ∨ l = 9 ∨ l = 10) with rfl | rfl | rfl | rfl | rfl | rfl <;> decide
  have e3 : (nI l < 11) = True := by rcases (by omega : l = 5 ∨ l = 6 ∨ l = 7 ∨ l = 8 ∨ l = 9 ∨ l = 10) with rfl | rfl | rfl | rfl | rfl | rfl <;> decide
  have e4 : (nI k < nI (roN l)) = (k < roN l) := lt_n (by omega) ro
  have hl11 : l < 11 := by omega
  refine Cl_of k_X6_faultOfLine.1 (Nat.le_of_ble_eq_true rfl) (show Wp m_X6_faultOfLine _ 0 _ 0 [.ref 22, .int (nI l)] [] _ from S_X6_faultOfLine_0 _ _ _ ?_)
  by_cases q : D 7 = 0
  · rw [show bI (¬ D 7 = 0) = 0 from if_neg (fun z => z q)] at hb
    rw [if_pos q] at hQ
    simp +decide (disch := omega) only [↓EQA, CEA, LIA, NIA, Nat.lt_irrefl, Option.toList_some, Option.toList_none, List.cons_append, List.nil_append, true_and, and_true, Nat.reduceAdd, Nat.reduceLeDiff, not_true_eq_false, not_false_eq_true, if_true, if_false, ite_true, ite_false, Int32.reduceLT, ite_not, eq_self, or_true, true_or, ite_self, reduceIte, B_X6_faultOfLine_0, hb, e1, e2]
    exact hQ
  · rw [show bI (¬ D 7 = 0) = 1 from if_pos q] at hb
    rw [if_neg q] at hQ
    simp +decide (disch := omega) only [↓EQA, CEA, LIA, NIA, Nat.lt_irrefl, Option.toList_some, Option.toList_none, List.cons_append, List.nil_append, true_and, and_true, Nat.reduceAdd, Nat.reduceLeDiff, not_true_eq_false, not_false_eq_true, if_true, if_false, ite_true, ite_false, Int32.reduceLT, ite_not, eq_self, or_true, true_or, ite_self, reduceIte, B_X6_faultOfLine_0, hb, e1, e2, e3, k29, hl11]
    refine t_roomFor hl ?_
    simp +decide (disch := omega) only [↓EQA, CEA, LIA, NIA, Nat.lt_irrefl, Option.toList_some, Option.toList_none, List.cons_append, List.nil_append, true_and, and_true, Nat.reduceAdd, Nat.reduceLeDiff, not_true_eq_false, not_false_eq_true, if_true, if_false, ite_true, ite_false, Int32.reduceLT, ite_not, eq_self, or_true, true_or, ite_self, reduceIte, e4, B_X6_faultOfLine_J2, B_X6_faultOfLine_J3]
    by_cases q2 : k < roN l
    · rw [if_pos q2] at hQ ⊢
      exact hQ
    · rw [if_neg q2] at hQ ⊢
      exact hQ
theorem t_readLine {S : St5} (hC : CSt w B n τ none) (hR : CRl w n S.1 S.2.1 S.2.2.2.1 S.2.2.2.2) (hV : RDVs B n S) (hQ : ∀ w', Ag RdP w w' → CSt w' B n (lnF B n S τ).1.1 (lnF B n S τ).1.2 → ((lnF B n S τ).1.2 = none → CRl w' n (lnF B n S τ).2.1 (lnF B n S τ).2.2.1 (lnF B n S τ).2.2.2.2.1 (lnF B n S τ).2.2.2.2.2) → Q none w') : Cl (d + 9) m_X6_readLine [.ref 22] w Q := by
  obtain ⟨T, D, F, N, c⟩ := S
  dsimp only at hR
  obtain ⟨hZ, hW, hK, hD, hP, hF⟩ := id hV
  dsimp only at hZ hW hK hD hP hF
  obtain ⟨⟨z5, z6, z7, z8, z9, z10⟩, b1, b2, b3, b4, b5, b6⟩ := id hZ
  have hc13 : c = nB T + nH T + nL T := hP.1
  have hNn : NMn c N := fun i hi => by
    have := (hP.2.1 i hi).2
    omega
  refine Cl_of k_X6_readLine.1 (Nat.le_of_ble_eq_true rfl) (show Wp m_X6_readLine _ 0 _ 0 [.ref 22, .null, .null] [] _ from S_X6_readLine_0 _ _ _ ?_)
  simp +decide (disch := omega) only [↓EQA, CEA, LIA, NIA, Nat.lt_irrefl, Option.toList_some, Option.toList_none, List.cons_append, List.nil_append, true_and, and_true, Nat.reduceAdd, Nat.reduceLeDiff, not_true_eq_false, not_false_eq_true, if_true, if_false, ite_true, ite_false, Int32.reduceLT, ite_not, eq_self, or_true, true_or, ite_self, reduceIte, B_X6_readLine_0]
  refine t_sortOfLine hC.1 hC.2.2.1 hC.2.2.2.1.1 ?_
  simp +decide (disch := omega) only [↓EQA, CEA, LIA, NIA, Nat.lt_irrefl, Option.toList_some, Option.toList_none, List.cons_append, List.nil_append, true_and, and_true, Nat.reduceAdd, Nat.reduceLeDiff, not_true_eq_false, not_false_eq_true, if_true, if_false, ite_true, ite_false, Int32.reduceLT, ite_not, eq_self, or_true, true_or, ite_self, reduceIte]
  cases q0 : isWb B τ 0 with
  | true =>
    have el := lnI_0 q0
    have eF := lnF_0 (n := n) (S := (T, D, F, N, c)) q0
    rw [el]
    refine t_faultRg hR ?_
    by_cases h7 : D 7 = 0
    · rw [if_pos h7]
      simp +decide (disch := omega) only [↓EQA, CEA, LIA, NIA, Nat.lt_irrefl, Option.toList_some, Option.toList_none, List.cons_append, List.nil_append, true_and, and_true, Nat.reduceAdd, Nat.reduceLeDiff, not_true_eq_false, not_false_eq_true, if_true, if_false, ite_true, ite_false, Int32.reduceLT, ite_not, eq_self, or_true, true_or, ite_self, reduceIte]
      refine t_stepS hC fun w1 ha1 hC1 => ?_
      have hC1' : CSt w1 B n (nxT B n τ) none := hC1
      have hR1 : CRl w1 n T D N c := hR.ag ha1 (fun j i a b z => by omega)
      have e : lnF B n (T, D, F, N, c) τ = lRg B n (T, D, F, N, c) (nxT B n τ) := by rw [eF]; exact if_pos h7
      rw [e] at hQ
      clear e eF
      generalize nxT B n τ = t at hQ hC1'
      simp +decide (disch := omega) only [↓EQA, CEA, LIA, NIA, Nat.lt_irrefl, Option.toList_some, Option.toList_none, List.cons_append, List.nil_append, true_and, and_true, Nat.reduceAdd, Nat.reduceLeDiff, not_true_eq_false, not_false_eq_true, if_true, if_false, ite_true, ite_false, Int32.reduceLT, ite_not, eq_self, or_true, true_or, ite_self, reduceIte]
      refine t_readRegatta hC1' hR1.1 hR1.2.1 fun w2 ha2 hC2 h23 h22 hT2 hR2 => ?_
      simp +decide (disch := omega) only [↓EQA, CEA, LIA, NIA, Nat.lt_irrefl, Option.toList_some, Option.toList_none, List.cons_append, List.nil_append, true_and, and_true, Nat.reduceAdd, Nat.reduceLeDiff, not_true_eq_false, not_false_eq_true, if_true, if_false, ite_true, ite_false, Int32.reduceLT, ite_not, eq_self, or_true, true_or, ite_self, reduceIte, B_X6_readLine_J1]
      refine hQ w2 ((ha1.wk fun j i z => by omega).tr ha2) hC2 (fun z => ⟨hT2, hR2, hR1.2.2.1.same h23, ?_⟩)
      have z2 : (rg10 B n t).2 = none := z
      have n9 := (cst_none (f := eWhole B n 0 9) (s := rg9 B n t) z2).1
      have n8 := (cst_none (f := eWord B n 12) (s := rg8 B n t) n9).1
      have n7 := (cst_none (f := eWhole B n 0 100) (s := rg7 B n t) n8).1
      have n6 := (cst_none (f := eWord B n 11) (s := rg6 B n t) n7).1
      have n5 := (cst_none (f := eWhole B n 0 30) (s := rg5 B n t) n6).1
      have n4 := (cst_none (f := eWord B n 10) (s := rg4 B n t) n5).1
      have n3 := (cst_none (f := eWhole B n 1 6) (s := rg3 B n t) n4).1
      have n2 := (cst_none (f := eWord B n 9) (s := rg2 B n t) n3).1
      have v0 := whole_in (s := rg1 B n t) n2
      rw [h22]
      have : updD D 7 (valT B (rg1 B n t).1) 7 = valT B (rg1 B n t).1 := if_pos rfl
      exact (if_pos (show ¬ updD D 7 (valT B (rg1 B n t).1) 7 = 0 by rw [this]; omega)).symm
    · rw [if_neg h7]
      simp +decide (disch := omega) only [↓EQA, CEA, LIA, NIA, Nat.lt_irrefl, Option.toList_some, Option.toList_none, List.cons_append, List.nil_append, true_and, and_true, Nat.reduceAdd, Nat.reduceLeDiff, not_true_eq_false, not_false_eq_true, if_true, if_false, ite_true, ite_false, Int32.reduceLT, ite_not, eq_self, or_true, true_or, ite_self, reduceIte]
      refine t_blame (f := 3) hC (by decide) (by decide) fun w1 ha1 hC1 => ?_
      simp +decide (disch := omega) only [↓EQA, CEA, LIA, NIA, Nat.lt_irrefl, Option.toList_some, Option.toList_none, List.cons_append, List.nil_append, true_and, and_true, Nat.reduceAdd, Nat.reduceLeDiff, not_true_eq_false, not_false_eq_true, if_true, if_false, ite_true, ite_false, Int32.reduceLT, ite_not, eq_self, or_true, true_or, ite_self, reduceIte]
      have e : lnF B n (T, D, F, N, c) τ = ((τ, some (3, τ.1)), (T, D, F, N, c)) := by rw [eF]; exact if_neg h7
      refine hQ w1 (ha1.wk fun j i z => by omega) ?_ (fun z => by rw [e] at z; cases z)
      rw [e]
      exact hC1
  | false =>
    cases q1 : isWb B τ 1 with
    | true =>
      have el := lnI_1 q1
      have eF := lnF_1 (n := n) (S := (T, D, F, N, c)) q1
      rw [el]
      refine t_faultAb hR ?_
      by_cases h7 : D 7 = 0
      · rw [if_pos h7]
        simp +decide (disch := omega) only [↓EQA, CEA, LIA, NIA, Nat.lt_irrefl, Option.toList_some, Option.toList_none, List.cons_append, List.nil_append, true_and, and_true, Nat.reduceAdd, Nat.reduceLeDiff, not_true_eq_false, not_false_eq_true, if_true, if_false, ite_true, ite_false, Int32.reduceLT, ite_not, eq_self, or_true, true_or, ite_self, reduceIte]
        refine t_blame (f := 6) hC (by decide) (by decide) fun w1 ha1 hC1 => ?_
        simp +decide (disch := omega) only [↓EQA, CEA, LIA, NIA, Nat.lt_irrefl, Option.toList_some, Option.toList_none, List.cons_append, List.nil_append, true_and, and_true, Nat.reduceAdd, Nat.reduceLeDiff, not_true_eq_false, not_false_eq_true, if_true, if_false, ite_true, ite_false, Int32.reduceLT, ite_not, eq_self, or_true, true_or, ite_self, reduceIte]
        have e : lnF B n (T, D, F, N, c) τ = ((τ, some (6, τ.1)), (T, D, F, N, c)) := by rw [eF]; exact if_pos h7
        refine hQ w1 (ha1.wk fun j i z => by omega) ?_ (fun z => by rw [e] at z; cases z)
        rw [e]
        exact hC1
      · rw [if_neg h7]
        simp +decide (disch := omega) only [↓EQA, CEA, LIA, NIA, Nat.lt_irrefl, Option.toList_some, Option.toList_none, List.cons_append, List.nil_append, true_and, and_true, Nat.reduceAdd, Nat.reduceLeDiff, not_true_eq_false, not_false_eq_true, if_true, if_false, ite_true, ite_false, Int32.reduceLT, ite_not, eq_self, or_true, true_or, ite_self, reduceIte]
        refine t_stepS hC fun w1 ha1 hC1 => ?_
        have hC1' : CSt w1 B n (nxT B n τ) none := hC1
        have hR1 : CRl w1 n T D N c := hR.ag ha1 (fun j i a b z => by omega)
        have e : lnF B n (T, D, F, N, c) τ = lAb B n (T, D, F, N, c) (nxT B n τ) := by
          rw [eF]
          unfold gte
          rw [if_neg h7, if_pos rfl]
        rw [e] at hQ
        clear e eF
        generalize nxT B n τ = t at hQ hC1'
        simp +decide (disch := omega) only [↓EQA, CEA, LIA, NIA, Nat.lt_irrefl, Option.toList_some, Option.toList_none, List.cons_append, List.nil_append, true_and, and_true, Nat.reduceAdd, Nat.reduceLeDiff, not_true_eq_false, not_false_eq_true, if_true, if_false, ite_true, ite_false, Int32.reduceLT, ite_not, eq_self, or_true, true_or, ite_self, reduceIte]
        refine t_readAboard hC1' hR1.2.2.1 hNn hR1.1 hZ hR1.2.1 hD.1 hD.2.1 fun w2 ha2 hC2 hs hr2 => ?_
        simp +decide (disch := omega) only [↓EQA, CEA, LIA, NIA, Nat.lt_irrefl, Option.toList_some, Option.toList_none, List.cons_append, List.nil_append, true_and, and_true, Nat.reduceAdd, Nat.reduceLeDiff, not_true_eq_false, not_false_eq_true, if_true, if_false, ite_true, ite_false, Int32.reduceLT, ite_not, eq_self, or_true, true_or, ite_self, reduceIte, B_X6_readLine_J1]
        refine hQ w2 ((ha1.wk fun j i z => by omega).tr ha2) hC2 (fun z => ⟨hR1.1.same (fun j i a b => hs j i (by omega)), hr2 z, hR1.2.2.1.same (fun j i a b => hs j i (by omega)), ?_⟩)
        have l7 := nu7 (B := B) (τ := t) hNn
        rw [hs 22 4 (by decide), hR1.2.2.2]
        show bI (¬ D 7 = 0) = bI (¬ updD D (nuV B N c 7 t) _ 7 = 0)
        unfold updD
        rw [if_neg (by omega)]
    | false =>
      cases q2 : isWb B τ 2 with
      | true =>
        have el := lnI_2 q2
        have eF := lnF_2 (n := n) (S := (T, D, F, N, c)) q2
        rw [el]
        refine t_faultK (l := 5) (k := nB T) (by decide) hR z5 (by omega) ?_
        by_cases h7 : D 7 = 0
        · rw [if_pos h7]
          simp +decide (disch := omega) only [↓EQA, CEA, LIA, NIA, Nat.lt_irrefl, Option.toList_some, Option.toList_none, List.cons_append, List.nil_append, true_and, and_true, Nat.reduceAdd, Nat.reduceLeDiff, not_true_eq_false, not_false_eq_true, if_true, if_false, ite_true, ite_false, Int32.reduceLT, ite_not, eq_self, or_true, true_or, ite_self, reduceIte]
          refine t_blame (f := 6) hC (by decide) (by decide) fun w1 ha1 hC1 => ?_
          simp +decide (disch := omega) only [↓EQA, CEA, LIA, NIA, Nat.lt_irrefl, Option.toList_some, Option.toList_none, List.cons_append, List.nil_append, true_and, and_true, Nat.reduceAdd, Nat.reduceLeDiff, not_true_eq_false, not_false_eq_true, if_true, if_false, ite_true, ite_false, Int32.reduceLT, ite_not, eq_self, or_true, true_or, ite_self, reduceIte]
          have e : lnF B n (T, D, F, N, c) τ = ((τ, some (6, τ.1)), (T, D, F, N, c)) := by rw [eF]; exact if_pos h7
          refine hQ w1 (ha1.wk fun j i z => by omega) ?_ (fun z => by rw [e] at z; cases z)
          rw [e]
          exact hC1
        · rw [if_neg h7]
          by_cases hr : nB T < 4
          · rw [if_pos (show nB T < roN 5 from hr)]
            simp +decide (disch := omega) only [↓EQA, CEA, LIA, NIA, Nat.lt_irrefl, Option.toList_some, Option.toList_none, List.cons_append, List.nil_append, true_and, and_true, Nat.reduceAdd, Nat.reduceLeDiff, not_true_eq_false, not_false_eq_true, if_true, if_false, ite_true, ite_false, Int32.reduceLT, ite_not, eq_self, or_true, true_or, ite_self, reduceIte]
            refine t_stepS hC fun w1 ha1 hC1 => ?_
            have hC1' : CSt w1 B n (nxT B n τ) none := hC1
            have hR1 : CRl w1 n T D N c := hR.ag ha1 (fun j i a b z => by omega)
            have e : lnF B n (T, D, F, N, c) τ = lBd B n (T, D, F, N, c) (nxT B n τ) := by
              rw [eF]
              unfold gte
              rw [if_neg h7, if_pos (by simpa using hr)]
            rw [e] at hQ
            clear e eF
            generalize nxT B n τ = t at hQ hC1'
            simp +decide (disch := omega) only [↓EQA, CEA, LIA, NIA, Nat.lt_irrefl, Option.toList_some, Option.toList_none, List.cons_append, List.nil_append, true_and, and_true, Nat.reduceAdd, Nat.reduceLeDiff, not_true_eq_false, not_false_eq_true, if_true, if_false, ite_true, ite_false, Int32.reduceLT, ite_not, eq_self, or_true, true_or, ite_self, reduceIte]
            refine t_readBend hC1' hR1.2.2.1 (by omega) hR1.1 z5 hr fun w2 ha2 hC2 hs hr2 => ?_
            simp +decide (disch := omega) only [↓EQA, CEA, LIA, NIA, Nat.lt_irrefl, Option.toList_some, Option.toList_none, List.cons_append, List.nil_append, true_and, and_true, Nat.reduceAdd, Nat.reduceLeDiff, not_true_eq_false, not_false_eq_true, if_true, if_false, ite_true, ite_false, Int32.reduceLT, ite_not, eq_self, or_true, true_or, ite_self, reduceIte, B_X6_readLine_J1]
            exact hQ w2 ((ha1.wk fun j i z => by omega).tr ha2) hC2 (fun z => ⟨(hr2 z).2, hR1.2.1.same (fun i => hs 42 i (by omega)) (fun i => hs 43 i (by omega)), (hr2 z).1, by rw [hs 22 4 (by omega)]; exact hR1.2.2.2⟩)
          · rw [if_neg (show ¬ nB T < roN 5 from hr)]
            simp +decide (disch := omega) only [↓EQA, CEA, LIA, NIA, Nat.lt_irrefl, Option.toList_some, Option.toList_none, List.cons_append, List.nil_append, true_and, and_true, Nat.reduceAdd, Nat.reduceLeDiff, not_true_eq_false, not_false_eq_true, if_true, if_false, ite_true, ite_false, Int32.reduceLT, ite_not, eq_self, or_true, true_or, ite_self, reduceIte]
            refine t_blame (f := 5) hC (by decide) (by decide) fun w1 ha1 hC1 => ?_
            simp +decide (disch := omega) only [↓EQA, CEA, LIA, NIA, Nat.lt_irrefl, Option.toList_some, Option.toList_none, List.cons_append, List.nil_append, true_and, and_true, Nat.reduceAdd, Nat.reduceLeDiff, not_true_eq_false, not_false_eq_true, if_true, if_false, ite_true, ite_false, Int32.reduceLT, ite_not, eq_self, or_true, true_or, ite_self, reduceIte]
            have e : lnF B n (T, D, F, N, c) τ = ((τ, some (5, τ.1)), (T, D, F, N, c)) := by
              rw [eF]
              unfold gte
              rw [if_neg h7, if_neg (by simpa using hr)]
            refine hQ w1 (ha1.wk fun j i z => by omega) ?_ (fun z => by rw [e] at z; cases z)
            rw [e]
            exact hC1
      | false =>
        cases q3 : isWb B τ 3 with
        | true =>
          have el := lnI_3 q3
          have eF := lnF_3 (n := n) (S := (T, D, F, N, c)) q3
          rw [el]
          refine t_faultK (l := 6) (k := nH T) (by decide) hR z6 (by omega) ?_
          by_cases h7 : D 7 = 0
          · rw [if_pos h7]
            simp +decide (disch := omega) only [↓EQA, CEA, LIA, NIA, Nat.lt_irrefl, Option.toList_some, Option.toList_none, List.cons_append, List.nil_append, true_and, and_true, Nat.reduceAdd, Nat.reduceLeDiff, not_true_eq_false, not_false_eq_true, if_true, if_false, ite_true, ite_false, Int32.reduceLT, ite_not, eq_self, or_true, true_or, ite_self, reduceIte]
            refine t_blame (f := 6) hC (by decide) (by decide) fun w1 ha1 hC1 => ?_
            simp +decide (disch := omega) only [↓EQA, CEA, LIA, NIA, Nat.lt_irrefl, Option.toList_some, Option.toList_none, List.cons_append, List.nil_append, true_and, and_true, Nat.reduceAdd, Nat.reduceLeDiff, not_true_eq_false, not_false_eq_true, if_true, if_false, ite_true, ite_false, Int32.reduceLT, ite_not, eq_self, or_true, true_or, ite_self, reduceIte]
            have e : lnF B n (T, D, F, N, c) τ = ((τ, some (6, τ.1)), (T, D, F, N, c)) := by rw [eF]; exact if_pos h7
            refine hQ w1 (ha1.wk fun j i z => by omega) ?_ (fun z => by rw [e] at z; cases z)
            rw [e]
            exact hC1
          · rw [if_neg h7]
            by_cases hr : nH T < 4
            · rw [if_pos (show nH T < roN 6 from hr)]
              simp +decide (disch := omega) only [↓EQA, CEA, LIA, NIA, Nat.lt_irrefl, Option.toList_some, Option.toList_none, List.cons_append, List.nil_append, true_and, and_true, Nat.reduceAdd, Nat.reduceLeDiff, not_true_eq_false, not_false_eq_true, if_true, if_false, ite_true, ite_false, Int32.reduceLT, ite_not, eq_self, or_true, true_or, ite_self, reduceIte]
              refine t_stepS hC fun w1 ha1 hC1 => ?_
              have hC1' : CSt w1 B n (nxT B n τ) none := hC1
              have hR1 : CRl w1 n T D N c := hR.ag ha1 (fun j i a b z => by omega)
              have e : lnF B n (T, D, F, N, c) τ = lHs B n (T, D, F, N, c) (nxT B n τ) := by
                rw [eF]
                unfold gte
                rw [if_neg h7, if_pos (by simpa using hr)]
              rw [e] at hQ
              clear e eF
              generalize nxT B n τ = t at hQ hC1'
              simp +decide (disch := omega) only [↓EQA, CEA, LIA, NIA, Nat.lt_irrefl, Option.toList_some, Option.toList_none, List.cons_append, List.nil_append, true_and, and_true, Nat.reduceAdd, Nat.reduceLeDiff, not_true_eq_false, not_false_eq_true, if_true, if_false, ite_true, ite_false, Int32.reduceLT, ite_not, eq_self, or_true, true_or, ite_self, reduceIte]
              refine t_readHouse hC1' hR1.2.2.1 (by omega) hR1.1 hR1.2.1 hD.1 z6 hr fun w2 ha2 hC2 hs hr2 => ?_
              simp +decide (disch := omega) only [↓EQA, CEA, LIA, NIA, Nat.lt_irrefl, Option.toList_some, Option.toList_none, List.cons_append, List.nil_append, true_and, and_true, Nat.reduceAdd, Nat.reduceLeDiff, not_true_eq_false, not_false_eq_true, if_true, if_false, ite_true, ite_false, Int32.reduceLT, ite_not, eq_self, or_true, true_or, ite_self, reduceIte, B_X6_readLine_J1]
              refine hQ w2 ((ha1.wk fun j i z => by omega).tr ha2) hC2 (fun z => ⟨(hr2 z).2.1, (hr2 z).2.2.1, (hr2 z).1, ?_⟩)
              rw [hs 4]
              exact hR1.2.2.2
            · rw [if_neg (show ¬ nH T < roN 6 from hr)]
              simp +decide (disch := omega) only [↓EQA, CEA, LIA, NIA, Nat.lt_irrefl, Option.toList_some, Option.toList_none, List.cons_append, List.nil_append, true_and, and_true, Nat.reduceAdd, Nat.reduceLeDiff, not_true_eq_false, not_false_eq_true, if_true, if_false, ite_true, ite_false, Int32.reduceLT, ite_not, eq_self, or_true, true_or, ite_self, reduceIte]
              refine t_blame (f := 5) hC (by decide) (by decide) fun w1 ha1 hC1 => ?_
              simp +decide (disch := omega) only [↓EQA, CEA, LIA, NIA, Nat.lt_irrefl, Option.toList_some, Option.toList_none, List.cons_append, List.nil_append, true_and, and_true, Nat.reduceAdd, Nat.reduceLeDiff, not_true_eq_false, not_false_eq_true, if_true, if_false, ite_true, ite_false, Int32.reduceLT, ite_not, eq_self, or_true, true_or, ite_self, reduceIte]
              have e : lnF B n (T, D, F, N, c) τ = ((τ, some (5, τ.1)), (T, D, F, N, c)) := by
                rw [eF]
                unfold gte
                rw [if_neg h7, if_neg (by simpa using hr)]
              refine hQ w1 (ha1.wk fun j i z => by omega) ?_ (fun z => by rw [e] at z; cases z)
              rw [e]
              exact hC1
        | false =>
          cases q4 : isWb B τ 4 with
          | true =>
            have el := lnI_4 q4
            have eF := lnF_4 (n := n) (S := (T, D, F, N, c)) q4
            rw [el]
            refine t_faultK (l := 7) (k := nL T) (by decide) hR z7 (by omega) ?_
            by_cases h7 : D 7 = 0
            · rw [if_pos h7]
              simp +decide (disch := omega) only [↓EQA, CEA, LIA, NIA, Nat.lt_irrefl, Option.toList_some, Option.toList_none, List.cons_append, List.nil_append, true_and, and_true, Nat.reduceAdd, Nat.reduceLeDiff, not_true_eq_false, not_false_eq_true, if_true, if_false, ite_true, ite_false, Int32.reduceLT, ite_not, eq_self, or_true, true_or, ite_self, reduceIte]
              refine t_blame (f := 6) hC (by decide) (by decide) fun w1 ha1 hC1 => ?_
              simp +decide (disch := omega) only [↓EQA, CEA, LIA, NIA, Nat.lt_irrefl, Option.toList_some, Option.toList_none, List.cons_append, List.nil_append, true_and, and_true, Nat.reduceAdd, Nat.reduceLeDiff, not_true_eq_false, not_false_eq_true, if_true, if_false, ite_true, ite_false, Int32.reduceLT, ite_not, eq_self, or_true, true_or, ite_self, reduceIte]
              have e : lnF B n (T, D, F, N, c) τ = ((τ, some (6, τ.1)), (T, D, F, N, c)) := by rw [eF]; exact if_pos h7
              refine hQ w1 (ha1.wk fun j i z => by omega) ?_ (fun z => by rw [e] at z; cases z)
              rw [e]
              exact hC1
            · rw [if_neg h7]
              by_cases hr : nL T < 5
              · rw [if_pos (show nL T < roN 7 from hr)]
                simp +decide (disch := omega) only [↓EQA, CEA, LIA, NIA, Nat.lt_irrefl, Option.toList_some, Option.toList_none, List.cons_append, List.nil_append, true_and, and_true, Nat.reduceAdd, Nat.reduceLeDiff, not_true_eq_false, not_false_eq_true, if_true, if_false, ite_true, ite_false, Int32.reduceLT, ite_not, eq_self, or_true, true_or, ite_self, reduceIte]
                refine t_stepS hC fun w1 ha1 hC1 => ?_
                have hC1' : CSt w1 B n (nxT B n τ) none := hC1
                have hR1 : CRl w1 n T D N c := hR.ag ha1 (fun j i a b z => by omega)
                have e : lnF B n (T, D, F, N, c) τ = lLd B n (T, D, F, N, c) (nxT B n τ) := by
                  rw [eF]
                  unfold gte
                  rw [if_neg h7, if_pos (by simpa using hr)]
                rw [e] at hQ
                clear e eF
                generalize nxT B n τ = t at hQ hC1'
                simp +decide (disch := omega) only [↓EQA, CEA, LIA, NIA, Nat.lt_irrefl, Option.toList_some, Option.toList_none, List.cons_append, List.nil_append, true_and, and_true, Nat.reduceAdd, Nat.reduceLeDiff, not_true_eq_false, not_false_eq_true, if_true, if_false, ite_true, ite_false, Int32.reduceLT, ite_not, eq_self, or_true, true_or, ite_self, reduceIte]
                refine t_readLodger hC1' hR1.2.2.1 (by omega) hR1.1 z7 hr fun w2 ha2 hC2 hs hr2 => ?_
                simp +decide (disch := omega) only [↓EQA, CEA, LIA, NIA, Nat.lt_irrefl, Option.toList_some, Option.toList_none, List.cons_append, List.nil_append, true_and, and_true, Nat.reduceAdd, Nat.reduceLeDiff, not_true_eq_false, not_false_eq_true, if_true, if_false, ite_true, ite_false, Int32.reduceLT, ite_not, eq_self, or_true, true_or, ite_self, reduceIte, B_X6_readLine_J1]
                exact hQ w2 ((ha1.wk fun j i z => by omega).tr ha2) hC2 (fun z => ⟨(hr2 z).2, hR1.2.1.same (fun i => hs 42 i (by omega)) (fun i => hs 43 i (by omega)), (hr2 z).1, by rw [hs 22 4 (by omega)]; exact hR1.2.2.2⟩)
              · rw [if_neg (show ¬ nL T < roN 7 from hr)]
                simp +decide (disch := omega) only [↓EQA, CEA, LIA, NIA, Nat.lt_irrefl, Option.toList_some, Option.toList_none, List.cons_append, List.nil_append, true_and, and_true, Nat.reduceAdd, Nat.reduceLeDiff, not_true_eq_false, not_false_eq_true, if_true, if_false, ite_true, ite_false, Int32.reduceLT, ite_not, eq_self, or_true, true_or, ite_self, reduceIte]
                refine t_blame (f := 5) hC (by decide) (by decide) fun w1 ha1 hC1 => ?_
                simp +decide (disch := omega) only [↓EQA, CEA, LIA, NIA, Nat.lt_irrefl, Option.toList_some, Option.toList_none, List.cons_append, List.nil_append, true_and, and_true, Nat.reduceAdd, Nat.reduceLeDiff, not_true_eq_false, not_false_eq_true, if_true, if_false, ite_true, ite_false, Int32.reduceLT, ite_not, eq_self, or_true, true_or, ite_self, reduceIte]
                have e : lnF B n (T, D, F, N, c) τ = ((τ, some (5, τ.1)), (T, D, F, N, c)) := by
                  rw [eF]
                  unfold gte
                  rw [if_neg h7, if_neg (by simpa using hr)]
                refine hQ w1 (ha1.wk fun j i z => by omega) ?_ (fun z => by rw [e] at z; cases z)
                rw [e]
                exact hC1
          | false =>
            cases q5 : isWb B τ 5 with
            | true =>
              have el := lnI_5 q5
              have eF := lnF_5 (n := n) (S := (T, D, F, N, c)) q5
              rw [el]
              refine t_faultK (l := 8) (k := nF T) (by decide) hR z8 (by omega) ?_
              by_cases h7 : D 7 = 0
              · rw [if_pos h7]
                simp +decide (disch := omega) only [↓EQA, CEA, LIA, NIA, Nat.lt_irrefl, Option.toList_some, Option.toList_none, List.cons_append, List.nil_append, true_and, and_true, Nat.reduceAdd, Nat.reduceLeDiff, not_true_eq_false, not_false_eq_true, if_true, if_false, ite_true, ite_false, Int32.reduceLT, ite_not, eq_self, or_true, true_or, ite_self, reduceIte]
                refine t_blame (f := 6) hC (by decide) (by decide) fun w1 ha1 hC1 => ?_
                simp +decide (disch := omega) only [↓EQA, CEA, LIA, NIA, Nat.lt_irrefl, Option.toList_some, Option.toList_none, List.cons_append, List.nil_append, true_and, and_true, Nat.reduceAdd, Nat.reduceLeDiff, not_true_eq_false, not_false_eq_true, if_true, if_false, ite_true, ite_false, Int32.reduceLT, ite_not, eq_self, or_true, true_or, ite_self, reduceIte]
                have e : lnF B n (T, D, F, N, c) τ = ((τ, some (6, τ.1)), (T, D, F, N, c)) := by rw [eF]; exact if_pos h7
                refine hQ w1 (ha1.wk fun j i z => by omega) ?_ (fun z => by rw [e] at z; cases z)
                rw [e]
                exact hC1
              · rw [if_neg h7]
                by_cases hr : nF T < 6
                · rw [if_pos (show nF T < roN 8 from hr)]
                  simp +decide (disch := omega) only [↓EQA, CEA, LIA, NIA, Nat.lt_irrefl, Option.toList_some, Option.toList_none, List.cons_append, List.nil_append, true_and, and_true, Nat.reduceAdd, Nat.reduceLeDiff, not_true_eq_false, not_false_eq_true, if_true, if_false, ite_true, ite_false, Int32.reduceLT, ite_not, eq_self, or_true, true_or, ite_self, reduceIte]
                  refine t_stepS hC fun w1 ha1 hC1 => ?_
                  have hC1' : CSt w1 B n (nxT B n τ) none := hC1
                  have hR1 : CRl w1 n T D N c := hR.ag ha1 (fun j i a b z => by omega)
                  have e : lnF B n (T, D, F, N, c) τ = lFd B n (T, D, F, N, c) (nxT B n τ) := by
                    rw [eF]
                    unfold gte
                    rw [if_neg h7, if_pos (by simpa using hr)]
                  rw [e] at hQ
                  clear e eF
                  generalize nxT B n τ = t at hQ hC1'
                  simp +decide (disch := omega) only [↓EQA, CEA, LIA, NIA, Nat.lt_irrefl, Option.toList_some, Option.toList_none, List.cons_append, List.nil_append, true_and, and_true, Nat.reduceAdd, Nat.reduceLeDiff, not_true_eq_false, not_false_eq_true, if_true, if_false, ite_true, ite_false, Int32.reduceLT, ite_not, eq_self, or_true, true_or, ite_self, reduceIte]
                  refine t_readFriend hC1' hR1.2.2.1 hNn hR1.1 hZ z8 hr fun w2 ha2 hC2 hs hr2 => ?_
                  simp +decide (disch := omega) only [↓EQA, CEA, LIA, NIA, Nat.lt_irrefl, Option.toList_some, Option.toList_none, List.cons_append, List.nil_append, true_and, and_true, Nat.reduceAdd, Nat.reduceLeDiff, not_true_eq_false, not_false_eq_true, if_true, if_false, ite_true, ite_false, Int32.reduceLT, ite_not, eq_self, or_true, true_or, ite_self, reduceIte, B_X6_readLine_J1]
                  exact hQ w2 ((ha1.wk fun j i z => by omega).tr ha2) hC2 (fun z => ⟨hr2 z, hR1.2.1.same (fun i => hs 42 i (by omega)) (fun i => hs 43 i (by omega)), hR1.2.2.1.same (fun j i a b => hs j i (by omega)), by rw [hs 22 4 (by omega)]; exact hR1.2.2.2⟩)
                · rw [if_neg (show ¬ nF T < roN 8 from hr)]
                  simp +decide (disch := omega) only [↓EQA, CEA, LIA, NIA, Nat.lt_irrefl, Option.toList_some, Option.toList_none, List.cons_append, List.nil_append, true_and, and_true, Nat.reduceAdd, Nat.reduceLeDiff, not_true_eq_false, not_false_eq_true, if_true, if_false, ite_true, ite_false, Int32.reduceLT, ite_not, eq_self, or_true, true_or, ite_self, reduceIte]
                  refine t_blame (f := 5) hC (by decide) (by decide) fun w1 ha1 hC1 => ?_
                  simp +decide (disch := omega) only [↓EQA, CEA, LIA, NIA, Nat.lt_irrefl, Option.toList_some, Option.toList_none, List.cons_append, List.nil_append, true_and, and_true, Nat.reduceAdd, Nat.reduceLeDiff, not_true_eq_false, not_false_eq_true, if_true, if_false, ite_true, ite_false, Int32.reduceLT, ite_not, eq_self, or_true, true_or, ite_self, reduceIte]
                  have e : lnF B n (T, D, F, N, c) τ = ((τ, some (5, τ.1)), (T, D, F, N, c)) := by
                    rw [eF]
                    unfold gte
                    rw [if_neg h7, if_neg (by simpa using hr)]
                  refine hQ w1 (ha1.wk fun j i z => by omega) ?_ (fun z => by rw [e] at z; cases z)
                  rw [e]
                  exact hC1
            | false =>
              cases q6 : isWb B τ 6 with
              | true =>
                have el := lnI_6 q6
                have eF := lnF_6 (n := n) (S := (T, D, F, N, c)) q6
                rw [el]
                refine t_faultK (l := 9) (k := nP T) (by decide) hR z9 (by omega) ?_
                by_cases h7 : D 7 = 0
                · rw [if_pos h7]
                  simp +decide (disch := omega) only [↓EQA, CEA, LIA, NIA, Nat.lt_irrefl, Option.toList_some, Option.toList_none, List.cons_append, List.nil_append, true_and, and_true, Nat.reduceAdd, Nat.reduceLeDiff, not_true_eq_false, not_false_eq_true, if_true, if_false, ite_true, ite_false, Int32.reduceLT, ite_not, eq_self, or_true, true_or, ite_self, reduceIte]
                  refine t_blame (f := 6) hC (by decide) (by decide) fun w1 ha1 hC1 => ?_
                  simp +decide (disch := omega) only [↓EQA, CEA, LIA, NIA, Nat.lt_irrefl, Option.toList_some, Option.toList_none, List.cons_append, List.nil_append, true_and, and_true, Nat.reduceAdd, Nat.reduceLeDiff, not_true_eq_false, not_false_eq_true, if_true, if_false, ite_true, ite_false, Int32.reduceLT, ite_not, eq_self, or_true, true_or, ite_self, reduceIte]
                  have e : lnF B n (T, D, F, N, c) τ = ((τ, some (6, τ.1)), (T, D, F, N, c)) := by rw [eF]; exact if_pos h7
                  refine hQ w1 (ha1.wk fun j i z => by omega) ?_ (fun z => by rw [e] at z; cases z)
                  rw [e]
                  exact hC1
                · rw [if_neg h7]
                  by_cases hr : nP T < 4
                  · rw [if_pos (show nP T < roN 9 from hr)]
                    simp +decide (disch := omega) only [↓EQA, CEA, LIA, NIA, Nat.lt_irrefl, Option.toList_some, Option.toList_none, List.cons_append, List.nil_append, true_and, and_true, Nat.reduceAdd, Nat.reduceLeDiff, not_true_eq_false, not_false_eq_true, if_true, if_false, ite_true, ite_false, Int32.reduceLT, ite_not, eq_self, or_true, true_or, ite_self, reduceIte]
                    refine t_stepS hC fun w1 ha1 hC1 => ?_
                    have hC1' : CSt w1 B n (nxT B n τ) none := hC1
                    have hR1 : CRl w1 n T D N c := hR.ag ha1 (fun j i a b z => by omega)
                    have e : lnF B n (T, D, F, N, c) τ = lPz B n (T, D, F, N, c) (nxT B n τ) := by
                      rw [eF]
                      unfold gte
                      rw [if_neg h7, if_pos (by simpa using hr)]
                    rw [e] at hQ
                    clear e eF
                    generalize nxT B n τ = t at hQ hC1'
                    simp +decide (disch := omega) only [↓EQA, CEA, LIA, NIA, Nat.lt_irrefl, Option.toList_some, Option.toList_none, List.cons_append, List.nil_append, true_and, and_true, Nat.reduceAdd, Nat.reduceLeDiff, not_true_eq_false, not_false_eq_true, if_true, if_false, ite_true, ite_false, Int32.reduceLT, ite_not, eq_self, or_true, true_or, ite_self, reduceIte]
                    refine t_readPrize (d := d + 1) hC1' hR1.1 z9 hr fun w2 ha2 hC2 hs hr2 => ?_
                    simp +decide (disch := omega) only [↓EQA, CEA, LIA, NIA, Nat.lt_irrefl, Option.toList_some, Option.toList_none, List.cons_append, List.nil_append, true_and, and_true, Nat.reduceAdd, Nat.reduceLeDiff, not_true_eq_false, not_false_eq_true, if_true, if_false, ite_true, ite_false, Int32.reduceLT, ite_not, eq_self, or_true, true_or, ite_self, reduceIte, B_X6_readLine_J1]
                    exact hQ w2 ((ha1.wk fun j i z => by omega).tr ha2) hC2 (fun z => ⟨hr2 z, hR1.2.1.same (fun i => hs 42 i (by omega) (by omega)) (fun i => hs 43 i (by omega) (by omega)), hR1.2.2.1.same (fun j i a b => hs j i (by omega) (by omega)), by rw [hs 22 4 (by omega) (by omega)]; exact hR1.2.2.2⟩)
                  · rw [if_neg (show ¬ nP T < roN 9 from hr)]
                    simp +decide (disch := omega) only [↓EQA, CEA, LIA, NIA, Nat.lt_irrefl, Option.toList_some, Option.toList_none, List.cons_append, List.nil_append, true_and, and_true, Nat.reduceAdd, Nat.reduceLeDiff, not_true_eq_false, not_false_eq_true, if_true, if_false, ite_true, ite_false, Int32.reduceLT, ite_not, eq_self, or_true, true_or, ite_self, reduceIte]
                    refine t_blame (f := 5) hC (by decide) (by decide) fun w1 ha1 hC1 => ?_
                    simp +decide (disch := omega) only [↓EQA, CEA, LIA, NIA, Nat.lt_irrefl, Option.toList_some, Option.toList_none, List.cons_append, List.nil_append, true_and, and_true, Nat.reduceAdd, Nat.reduceLeDiff, not_true_eq_false, not_false_eq_true, if_true, if_false, ite_true, ite_false, Int32.reduceLT, ite_not, eq_self, or_true, true_or, ite_self, reduceIte]
                    have e : lnF B n (T, D, F, N, c) τ = ((τ, some (5, τ.1)), (T, D, F, N, c)) := by
                      rw [eF]
                      unfold gte
                      rw [if_neg h7, if_neg (by simpa using hr)]
                    refine hQ w1 (ha1.wk fun j i z => by omega) ?_ (fun z => by rw [e] at z; cases z)
                    rw [e]
                    exact hC1
              | false =>
                cases q7 : isWb B τ 7 with
                | true =>
                  have el := lnI_7 q7
                  have eF := lnF_7 (n := n) (S := (T, D, F, N, c)) q7
                  rw [el]
                  refine t_faultK (l := 10) (k := nS T) (by decide) hR z10 (by omega) ?_
                  by_cases h7 : D 7 = 0
                  · rw [if_pos h7]
                    simp +decide (disch := omega) only [↓EQA, CEA, LIA, NIA, Nat.lt_irrefl, Option.toList_some, Option.toList_none, List.cons_append, List.nil_append, true_and, and_true, Nat.reduceAdd, Nat.reduceLeDiff, not_true_eq_false, not_false_eq_true, if_true, if_false, ite_true, ite_false, Int32.reduceLT, ite_not, eq_self, or_true, true_or, ite_self, reduceIte]
                    refine t_blame (f := 6) hC (by decide) (by decide) fun w1 ha1 hC1 => ?_
                    simp +decide (disch := omega) only [↓EQA, CEA, LIA, NIA, Nat.lt_irrefl, Option.toList_some, Option.toList_none, List.cons_append, List.nil_append, true_and, and_true, Nat.reduceAdd, Nat.reduceLeDiff, not_true_eq_false, not_false_eq_true, if_true, if_false, ite_true, ite_false, Int32.reduceLT, ite_not, eq_self, or_true, true_or, ite_self, reduceIte]
                    have e : lnF B n (T, D, F, N, c) τ = ((τ, some (6, τ.1)), (T, D, F, N, c)) := by rw [eF]; exact if_pos h7
                    refine hQ w1 (ha1.wk fun j i z => by omega) ?_ (fun z => by rw [e] at z; cases z)
                    rw [e]
                    exact hC1
                  · rw [if_neg h7]
                    by_cases hr : nS T < 5
                    · rw [if_pos (show nS T < roN 10 from hr)]
                      simp +decide (disch := omega) only [↓EQA, CEA, LIA, NIA, Nat.lt_irrefl, Option.toList_some, Option.toList_none, List.cons_append, List.nil_append, true_and, and_true, Nat.reduceAdd, Nat.reduceLeDiff, not_true_eq_false, not_false_eq_true, if_true, if_false, ite_true, ite_false, Int32.reduceLT, ite_not, eq_self, or_true, true_or, ite_self, reduceIte]
                      refine t_stepS hC fun w1 ha1 hC1 => ?_
                      have hC1' : CSt w1 B n (nxT B n τ) none := hC1
                      have hR1 : CRl w1 n T D N c := hR.ag ha1 (fun j i a b z => by omega)
                      have e : lnF B n (T, D, F, N, c) τ = lSw B n (T, D, F, N, c) (nxT B n τ) := by
                        rw [eF]
                        unfold gte
                        rw [if_neg h7, if_pos (by simpa using hr)]
                      rw [e] at hQ
                      clear e eF
                      generalize nxT B n τ = t at hQ hC1'
                      simp +decide (disch := omega) only [↓EQA, CEA, LIA, NIA, Nat.lt_irrefl, Option.toList_some, Option.toList_none, List.cons_append, List.nil_append, true_and, and_true, Nat.reduceAdd, Nat.reduceLeDiff, not_true_eq_false, not_false_eq_true, if_true, if_false, ite_true, ite_false, Int32.reduceLT, ite_not, eq_self, or_true, true_or, ite_self, reduceIte]
                      refine t_readSaw hC1' hR1.2.2.1 hR1.1 z10 hr fun w2 ha2 hC2 hs hr2 => ?_
                      simp +decide (disch := omega) only [↓EQA, CEA, LIA, NIA, Nat.lt_irrefl, Option.toList_some, Option.toList_none, List.cons_append, List.nil_append, true_and, and_true, Nat.reduceAdd, Nat.reduceLeDiff, not_true_eq_false, not_false_eq_true, if_true, if_false, ite_true, ite_false, Int32.reduceLT, ite_not, eq_self, or_true, true_or, ite_self, reduceIte, B_X6_readLine_J1]
                      exact hQ w2 ((ha1.wk fun j i z => by omega).tr ha2) hC2 (fun z => ⟨hr2 z, hR1.2.1.same (fun i => hs 42 i (by omega)) (fun i => hs 43 i (by omega)), hR1.2.2.1.same (fun j i a b => hs j i (by omega)), by rw [hs 22 4 (by omega)]; exact hR1.2.2.2⟩)
                    · rw [if_neg (show ¬ nS T < roN 10 from hr)]
                      simp +decide (disch := omega) only [↓EQA, CEA, LIA, NIA, Nat.lt_irrefl, Option.toList_some, Option.toList_none, List.cons_append, List.nil_append, true_and, and_true, Nat.reduceAdd, Nat.reduceLeDiff, not_true_eq_false, not_false_eq_true, if_true, if_false, ite_true, ite_false, Int32.reduceLT, ite_not, eq_self, or_true, true_or, ite_self, reduceIte]
                      refine t_blame (f := 5) hC (by decide) (by decide) fun w1 ha1 hC1 => ?_
                      simp +decide (disch := omega) only [↓EQA, CEA, LIA, NIA, Nat.lt_irrefl, Option.toList_some, Option.toList_none, List.cons_append, List.nil_append, true_and, and_true, Nat.reduceAdd, Nat.reduceLeDiff, not_true_eq_false, not_false_eq_true, if_true, if_false, ite_true, ite_false, Int32.reduceLT, ite_not, eq_self, or_true, true_or, ite_self, reduceIte]
                      have e : lnF B n (T, D, F, N, c) τ = ((τ, some (5, τ.1)), (T, D, F, N, c)) := by
                        rw [eF]
                        unfold gte
                        rw [if_neg h7, if_neg (by simpa using hr)]
                      refine hQ w1 (ha1.wk fun j i z => by omega) ?_ (fun z => by rw [e] at z; cases z)
                      rw [e]
                      exact hC1
                | false =>
                  have eF := lnF_no (n := n) (S := (T, D, F, N, c)) q0 q1 q2 q3 q4 q5 q6 q7
                  rw [lnI_no q0 q1 q2 q3 q4 q5 q6 q7]
                  refine t_faultNo ?_
                  simp +decide (disch := omega) only [↓EQA, CEA, LIA, NIA, Nat.lt_irrefl, Option.toList_some, Option.toList_none, List.cons_append, List.nil_append, true_and, and_true, Nat.reduceAdd, Nat.reduceLeDiff, not_true_eq_false, not_false_eq_true, if_true, if_false, ite_true, ite_false, Int32.reduceLT, ite_not, eq_self, or_true, true_or, ite_self, reduceIte]
                  refine t_blame (f := 1) hC (by decide) (by decide) fun w1 ha1 hC1 => ?_
                  simp +decide (disch := omega) only [↓EQA, CEA, LIA, NIA, Nat.lt_irrefl, Option.toList_some, Option.toList_none, List.cons_append, List.nil_append, true_and, and_true, Nat.reduceAdd, Nat.reduceLeDiff, not_true_eq_false, not_false_eq_true, if_true, if_false, ite_true, ite_false, Int32.reduceLT, ite_not, eq_self, or_true, true_or, ite_self, reduceIte]
                  refine hQ w1 (ha1.wk fun j i z => by omega) ?_ (fun z => by rw [eF] at z; cases z)
                  rw [eF]
                  exact hC1
end ReadLine
