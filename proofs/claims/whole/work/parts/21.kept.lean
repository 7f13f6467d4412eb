section Kept2
variable {d : Nat} {w : Mem} {Q : Option Value → Mem → Prop} {R : Rc} {n : Nat}
theorem t_keepAct2 (hn : w.1 56 3 = nI 16) (hC : RC w 16 17 R) (hR : ROK R) (hQ : ∀ w', Ag (fun j i => j = 57 ∨ (j = 56 ∧ i = 3)) w w' → w'.1 56 3 = nI 16 → (∀ i, i < 15 → w'.2 57 i = w.2 57 (i + 1)) → w'.2 57 15 = lN (pkN R) → Q none w') : Cl (d + 2) m_X1_keepAct [.ref 56] w Q := by
  refine Cl_of k_X1_keepAct.1 (Nat.le_of_ble_eq_true rfl) (show Wp m_X1_keepAct _ 0 _ 0 [.ref 56] [] _ from S_X1_keepAct_0 _ _ _ ?_)
  simp +decide (disch := omega) only [↓EQA, CEA, LIA, NIA, Nat.lt_irrefl, Option.toList_some, Option.toList_none, List.cons_append, List.nil_append, true_and, and_true, Nat.reduceAdd, Nat.reduceLeDiff, not_true_eq_false, not_false_eq_true, if_true, if_false, ite_true, ite_false, Int32.reduceLT, ite_not, eq_self, or_true, true_or, ite_self, reduceIte, B_X1_keepAct_0, hn]
  refine ⟨cpOk_of (t := 2) (sp := 1) (dp := 0) (n := 15) (n0 := 16) (n1 := 16) rfl rfl (by decide) (by decide) (by decide) (by decide) (by decide), ?_⟩
  have hC1 : RC (wI (cpL w 57 1 57 0 15) 56 3 15) 16 17 R := hC
  have e1 : (wI (cpL w 57 1 57 0 15) 56 3 15).1 56 3 = nI 15 := by simp [wI]; rfl
  simp +decide (disch := omega) only [↓EQA, CEA, LIA, NIA, Nat.lt_irrefl, Option.toList_some, Option.toList_none, List.cons_append, List.nil_append, true_and, and_true, Nat.reduceAdd, Nat.reduceLeDiff, not_true_eq_false, not_false_eq_true, if_true, if_false, ite_true, ite_false, Int32.reduceLT, ite_not, eq_self, or_true, true_or, ite_self, reduceIte, B_X1_keepAct_J1, e1]
  refine t_packed RK_now hC1 hR ?_
  have e2 : (wL (wI (cpL w 57 1 57 0 15) 56 3 15) 57 15 (lN (pkN R))).1 56 3 = nI 15 := e1
  have v15 : vp_in (nI 15) 16 = True := vi (by decide) (by decide)
  have t15 : (nI 15).toNatClampNeg = 15 := tn (by decide)
  simp +decide (disch := omega) only [↓EQA, CEA, LIA, NIA, Nat.lt_irrefl, Option.toList_some, Option.toList_none, List.cons_append, List.nil_append, true_and, and_true, Nat.reduceAdd, Nat.reduceLeDiff, not_true_eq_false, not_false_eq_true, if_true, if_false, ite_true, ite_false, Int32.reduceLT, ite_not, eq_self, or_true, true_or, ite_self, reduceIte, e1, e2, v15, t15, nI_1]
  refine hQ _ ?_ (by simp [wI]) (fun i hi => ?_) (by simp [wL, wI])
  · refine Ag.wI (Ag.wL (Ag.wI ?_ (Or.inr ⟨rfl, rfl⟩)) (Or.inl rfl)) (Or.inr ⟨rfl, rfl⟩)
    intro j i q
    refine ⟨rfl, ?_⟩
    simp only [cpL]
    rw [if_neg (fun z => q (Or.inl z.1))]
  · have hi2 : ¬ i = 15 := by omega
    simp [wL, wI, cpL, hi2, hi, Nat.add_comm]
theorem t_takeBackAct {ra : Nat} (hn : w.1 56 3 = nI (n + 1)) (h16 : n < 16) (hp : w.2 57 n = lN (pkN R)) (hR : ROK R) (hra : w.1 16 3 = nI ra) (hQ : ∀ w', Ag (fun j i => j = 16 ∨ j = 17 ∨ (j = 56 ∧ i = 3)) w w' → w'.1 56 3 = nI n → RC w' 16 17 (R.1, R.2.1, ra, R.2.2.2) → Q none w') : Cl (d + 2) m_X1_takeBackAct [.ref 56] w Q := by
  have e0 : (nI (n + 1) ≤ 0) = False := eq_false (nI_nle (by omega) (by omega))
  have e1 : (0 < nI (n + 1)) = True := eq_true (nI_lt (a := 0) (by omega) (by omega))
  have e2 : (wI w 56 3 (nI n)).1 56 3 = nI n := by simp [wI]
  have e3 : (wI w 56 3 (nI n)).2 57 n = lN (pkN R) := hp
  refine Cl_of k_X1_takeBackAct.1 (Nat.le_of_ble_eq_true rfl) (show Wp m_X1_takeBackAct _ 0 _ 0 [.ref 56] [] _ from S_X1_takeBackAct_0 _ _ _ ?_)
  simp +decide (disch := omega) only [↓EQA, CEA, LIA, NIA, Nat.lt_irrefl, Option.toList_some, Option.toList_none, List.cons_append, List.nil_append, true_and, and_true, Nat.reduceAdd, Nat.reduceLeDiff, not_true_eq_false, not_false_eq_true, if_true, if_false, ite_true, ite_false, Int32.reduceLT, ite_not, eq_self, or_true, true_or, ite_self, reduceIte, B_X1_takeBackAct_0, hn, e0, e1, nI_pred, e2, h16, e3]
  refine t_unpack RK_now (by decide) hR (show (wI w 56 3 (nI n)).1 16 3 = nI ra from hra) fun w' ha hC => ?_
  simp +decide (disch := omega) only [↓EQA, CEA, LIA, NIA, Nat.lt_irrefl, Option.toList_some, Option.toList_none, List.cons_append, List.nil_append, true_and, and_true, Nat.reduceAdd, Nat.reduceLeDiff, not_true_eq_false, not_false_eq_true, if_true, if_false, ite_true, ite_false, Int32.reduceLT, ite_not, eq_self, or_true, true_or, ite_self, reduceIte, B_X1_takeBackAct_J1]
  refine hQ w' (Ag.tr (Ag.rf.wI (Or.inr (Or.inr ⟨rfl, rfl⟩))) (ha.wk fun j i z => z.elim Or.inl fun z => Or.inr (Or.inl z))) ?_ hC
  rw [(ha 56 3 (by decide)).1]; exact e2
theorem t_goBackTo {ra i : Nat} (hn : w.1 56 4 = nI n) (hi : i < n) (h3 : n ≤ 3) (hp : w.2 58 i = lN (pkN R)) (hR : ROK R) (hra : w.1 16 3 = nI ra) (hQ : ∀ w', Ag (fun j i => j = 16 ∨ j = 17 ∨ (j = 56 ∧ i = 3)) w w' → w'.1 56 3 = 0 → RC w' 16 17 (R.1, R.2.1, ra, R.2.2.2) → Q none w') : Cl (d + 2) m_X1_goBackTo [.ref 56, .int (nI i)] w Q := by
  have e0 : (nI i < 0) = False := neg_f (by omega)
  have hi3 : i < 3 := by omega
  refine Cl_of k_X1_goBackTo.1 (Nat.le_of_ble_eq_true rfl) (show Wp m_X1_goBackTo _ 0 _ 0 [.ref 56, .int (nI i)] [] _ from S_X1_goBackTo_0 _ _ _ ?_)
  simp +decide (disch := omega) only [↓EQA, CEA, LIA, NIA, Nat.lt_irrefl, Option.toList_some, Option.toList_none, List.cons_append, List.nil_append, true_and, and_true, Nat.reduceAdd, Nat.reduceLeDiff, not_true_eq_false, not_false_eq_true, if_true, if_false, ite_true, ite_false, Int32.reduceLT, ite_not, eq_self, or_true, true_or, ite_self, reduceIte, B_X1_goBackTo_0, hn, e0, hi, hi3, hp]
  refine t_unpack RK_now (by decide) hR hra fun w' ha hC => ?_
  simp +decide (disch := omega) only [↓EQA, CEA, LIA, NIA, Nat.lt_irrefl, Option.toList_some, Option.toList_none, List.cons_append, List.nil_append, true_and, and_true, Nat.reduceAdd, Nat.reduceLeDiff, not_true_eq_false, not_false_eq_true, if_true, if_false, ite_true, ite_false, Int32.reduceLT, ite_not, eq_self, or_true, true_or, ite_self, reduceIte, B_X1_goBackTo_J1]
  refine hQ _ ((ha.wk fun j i z => z.elim Or.inl fun z => Or.inr (Or.inl z)).wI (Or.inr (Or.inr ⟨rfl, rfl⟩))) (by simp [wI]) ?_
  exact hC
end Kept2
