/-! now and trial: the cell, the row of crews; both know the told at 2 -/
abbrev RK (k c : Nat) : Prop := isO 4 k ∧ fr k 0 = 2 ∧ fr k 1 = c ∧ aln 0 c = 4 ∧ isA c ∧ lnA c = 4
abbrev RV (w : Mem) (k c : Nat) (V : Vw) : Prop := (∀ h, h < 4 → ∀ l, l < 5 → bb (w.1 c h) (nI l) = V.1 h l) ∧ w.1 k 2 = V.2.1 ∧ (∀ h, h < 4 → w.1 k 5 >>> (nI h &&& 31) &&& 1 = V.2.2.1 h) ∧ (∀ h, h < 4 → bb (w.1 k 4) (nI h) = V.2.2.2.1 h) ∧ (∀ j, j < 4 → bb (w.1 k 3) (nI j) = V.2.2.2.2 j)
theorem RK_now : RK 16 17 := ⟨⟨_, rfl⟩, rfl, rfl, rfl, ⟨_, _, rfl⟩, rfl⟩
theorem RK_trial : RK 18 19 := ⟨⟨_, rfl⟩, rfl, rfl, rfl, ⟨_, _, rfl⟩, rfl⟩
section Race
variable {d : Nat} {w : Mem} {Q : Option Value → Mem → Prop} {T : Tv} {V : Vw} {k c h : Nat}
theorem t_isLit (hk : RK k c) (hV : RV w k c V) (hh : h < 4) (hQ : Q (some (.int (bI (V.2.2.2.1 h = true)))) w) : Cl (d + 1) m_X4_isLit [.ref k, .int (nI h)] w Q := by
  obtain ⟨h1, h2, h3, h4, h5, h6⟩ := hk
  refine Cl_of k_X4_isLit.1 (Nat.le_of_ble_eq_true rfl) (show Wp m_X4_isLit _ 0 _ 0 [.ref k, .int (nI h)] [] _ from S_X4_isLit_0 _ _ _ ?_)
  simp +decide (disch := omega) only [↓EQA, CEA, LIA, NIA, Nat.lt_irrefl, Option.toList_some, Option.toList_none, List.cons_append, List.nil_append, true_and, and_true, Nat.reduceAdd, Nat.reduceLeDiff, not_true_eq_false, not_false_eq_true, if_true, if_false, ite_true, ite_false, Int32.reduceLT, ite_not, eq_self, or_true, true_or, ite_self, reduceIte, B_X4_isLit_0, mrg, h1, hV.2.2.2.1 h hh]
  simp +decide (disch := omega) only [↓EQA, CEA, LIA, NIA, Nat.lt_irrefl, Option.toList_some, Option.toList_none, List.cons_append, List.nil_append, true_and, and_true, Nat.reduceAdd, Nat.reduceLeDiff, not_true_eq_false, not_false_eq_true, if_true, if_false, ite_true, ite_false, Int32.reduceLT, ite_not, eq_self, or_true, true_or, ite_self, reduceIte, B_X4_isLit_J1]
  exact hQ
theorem t_laneOf (hk : RK k c) (hV : RV w k c V) (hh : h < 4) (hQ : Q (some (.int (V.2.2.1 h))) w) : Cl (d + 1) m_X4_laneOf [.ref k, .int (nI h)] w Q := by
  obtain ⟨h1, h2, h3, h4, h5, h6⟩ := hk
  refine Cl_of k_X4_laneOf.1 (Nat.le_of_ble_eq_true rfl) (show Wp m_X4_laneOf _ 0 _ 0 [.ref k, .int (nI h)] [] _ from S_X4_laneOf_0 _ _ _ ?_)
  simp +decide (disch := omega) only [↓EQA, CEA, LIA, NIA, Nat.lt_irrefl, Option.toList_some, Option.toList_none, List.cons_append, List.nil_append, true_and, and_true, Nat.reduceAdd, Nat.reduceLeDiff, not_true_eq_false, not_false_eq_true, if_true, if_false, ite_true, ite_false, Int32.reduceLT, ite_not, eq_self, or_true, true_or, ite_self, reduceIte, B_X4_laneOf_0, h1, hV.2.2.1 h hh]
  exact hQ
theorem t_storeysLost (hT : Told w T) (hh : h < 4) (hQ : Q (some (.int (LO T h))) w) : Cl (d + 1) m_X9_storeysLost [.ref 2, .int (nI h)] w Q := by
  refine Cl_of k_X9_storeysLost.1 (Nat.le_of_ble_eq_true rfl) (show Wp m_X9_storeysLost _ 0 _ 0 [.ref 2, .int (nI h)] [] _ from S_X9_storeysLost_0 _ _ _ ?_)
  simp +decide (disch := omega) only [↓EQA, CEA, LIA, NIA, Nat.lt_irrefl, Option.toList_some, Option.toList_none, List.cons_append, List.nil_append, true_and, and_true, Nat.reduceAdd, Nat.reduceLeDiff, not_true_eq_false, not_false_eq_true, if_true, if_false, ite_true, ite_false, Int32.reduceLT, ite_not, eq_self, or_true, true_or, ite_self, reduceIte, B_X9_storeysLost_0, B_X9_storeysLost_J1, mrg, hT]
  simp +decide (disch := omega) only [↓EQA, CEA, LIA, NIA, Nat.lt_irrefl, Option.toList_some, Option.toList_none, List.cons_append, List.nil_append, true_and, and_true, Nat.reduceAdd, Nat.reduceLeDiff, not_true_eq_false, not_false_eq_true, if_true, if_false, ite_true, ite_false, Int32.reduceLT, ite_not, eq_self, or_true, true_or, ite_self, reduceIte, B_X9_storeysLost_J2]
  exact hQ
theorem t_weightOf (hk : RK k c) (hT : Told w T) (hZ : SZ T) (hV : RV w k c V) (hh : h < 4) (hQ : Q (some (.int (WT T V h))) w) : Cl (d + 1) m_X4_weightOf [.ref k, .int (nI h)] w Q := by
  obtain ⟨h1, h2, h3, h4, h5, h6⟩ := hk
  have hz := hZ.2
  refine Cl_of k_X4_weightOf.1 (Nat.le_of_ble_eq_true rfl) (show Wp m_X4_weightOf _ 0 _ 0 [.ref k, .int (nI h), .null, .null] [] _ from S_X4_weightOf_0 _ _ _ ?_)
  simp +decide (disch := omega) only [↓EQA, CEA, LIA, NIA, Nat.lt_irrefl, Option.toList_some, Option.toList_none, List.cons_append, List.nil_append, true_and, and_true, Nat.reduceAdd, Nat.reduceLeDiff, not_true_eq_false, not_false_eq_true, if_true, if_false, ite_true, ite_false, Int32.reduceLT, ite_not, eq_self, or_true, true_or, ite_self, reduceIte, B_X4_weightOf_0, mrg, h1, h2, h3, h4, hT]
  simp +decide (disch := omega) only [↓EQA, CEA, LIA, NIA, Nat.lt_irrefl, Option.toList_some, Option.toList_none, List.cons_append, List.nil_append, true_and, and_true, Nat.reduceAdd, Nat.reduceLeDiff, not_true_eq_false, not_false_eq_true, if_true, if_false, ite_true, ite_false, Int32.reduceLT, ite_not, eq_self, or_true, true_or, ite_self, reduceIte, B_X4_weightOf_J1]
  refine fld_loop (f := fun l a => if V.1 h l then a + T 6 l else a) (n := nL T) (fun j a => Wp m_X4_weightOf _ 0 Q 39 [.ref k, .int (nI h), .int a, .int (nI j)] [] w) (fun j hj hd => ?_) ?_
  · refine S_X4_weightOf_L1 _ _ _ ?_
    simp +decide (disch := omega) only [↓EQA, CEA, LIA, NIA, Nat.lt_irrefl, Option.toList_some, Option.toList_none, List.cons_append, List.nil_append, true_and, and_true, Nat.reduceAdd, Nat.reduceLeDiff, not_true_eq_false, not_false_eq_true, if_true, if_false, ite_true, ite_false, Int32.reduceLT, ite_not, eq_self, or_true, true_or, ite_self, reduceIte, B_X4_weightOf_L1, B_X4_weightOf_J2, h1, h2, h3, h4, hT, hZ.1, hj, hV.1 h hh j (by omega)]
    (try dsimp only at hd); split <;> rename_i hb <;> simp only [hb, decide_true, decide_false, if_true, if_false, Bool.false_eq_true, decide_not, Bool.not_true, Bool.not_false] at hd <;> exact hd
  · refine S_X4_weightOf_L1 _ _ _ ?_
    simp +decide (disch := omega) only [↓EQA, CEA, LIA, NIA, Nat.lt_irrefl, Option.toList_some, Option.toList_none, List.cons_append, List.nil_append, true_and, and_true, Nat.reduceAdd, Nat.reduceLeDiff, not_true_eq_false, not_false_eq_true, if_true, if_false, ite_true, ite_false, Int32.reduceLT, ite_not, eq_self, or_true, true_or, ite_self, reduceIte, B_X4_weightOf_L1, h1, h2, h3, h4, hT, hZ.1]
    exact hQ
theorem t_powerOf (hk : RK k c) (hT : Told w T) (hZ : SZ T) (hV : RV w k c V) (hh : h < 4) (hQ : Q (some (.int (PW T V h))) w) : Cl (d + 1) m_X4_powerOf [.ref k, .int (nI h)] w Q := by
  obtain ⟨h1, h2, h3, h4, h5, h6⟩ := hk
  have hz := hZ.2
  refine Cl_of k_X4_powerOf.1 (Nat.le_of_ble_eq_true rfl) (show Wp m_X4_powerOf _ 0 _ 0 [.ref k, .int (nI h), .null, .null, .null] [] _ from S_X4_powerOf_0 _ _ _ ?_)
  simp +decide (disch := omega) only [↓EQA, CEA, LIA, NIA, Nat.lt_irrefl, Option.toList_some, Option.toList_none, List.cons_append, List.nil_append, true_and, and_true, Nat.reduceAdd, Nat.reduceLeDiff, not_true_eq_false, not_false_eq_true, if_true, if_false, ite_true, ite_false, Int32.reduceLT, ite_not, eq_self, or_true, true_or, ite_self, reduceIte, B_X4_powerOf_0]
  refine fld_loop (f := fun l a => if V.1 h l then a + T 7 l else a) (n := nL T) (fun j a => Wp m_X4_powerOf _ 0 Q 7 [.ref k, .int (nI h), .int a, .int (nI (cnt (V.1 h) j)), .int (nI j)] [] w) (fun j hj hd => ?_) ?_
  · refine S_X4_powerOf_L1 _ _ _ ?_
    simp +decide (disch := omega) only [↓EQA, CEA, LIA, NIA, Nat.lt_irrefl, Option.toList_some, Option.toList_none, List.cons_append, List.nil_append, true_and, and_true, Nat.reduceAdd, Nat.reduceLeDiff, not_true_eq_false, not_false_eq_true, if_true, if_false, ite_true, ite_false, Int32.reduceLT, ite_not, eq_self, or_true, true_or, ite_self, reduceIte, B_X4_powerOf_L1, B_X4_powerOf_J1, h1, h2, h3, h4, hT, hZ.1, hj, hV.1 h hh j (by omega)]
    unfold cnt at hd
    (try dsimp only at hd); split <;> rename_i hb <;> simp only [hb, decide_true, decide_false, if_true, if_false, Bool.false_eq_true, decide_not, Bool.not_true, Bool.not_false] at hd <;> exact hd
  · refine S_X4_powerOf_L1 _ _ _ ?_
    have hc := cnt_le (V.1 h) (nL T)
    have e2 : (nI (cnt (V.1 h) (nL T)) < 2) = (cnt (V.1 h) (nL T) < 2) := lt_n (b := 2) (by omega) (by omega)
    simp +decide (disch := omega) only [↓EQA, CEA, LIA, NIA, Nat.lt_irrefl, Option.toList_some, Option.toList_none, List.cons_append, List.nil_append, true_and, and_true, Nat.reduceAdd, Nat.reduceLeDiff, not_true_eq_false, not_false_eq_true, if_true, if_false, ite_true, ite_false, Int32.reduceLT, ite_not, eq_self, or_true, true_or, ite_self, reduceIte, B_X4_powerOf_L1, B_X4_powerOf_J2, mrg, h1, h2, h3, h4, hT, hZ.1, hV.2.1, e2]
    simp +decide (disch := omega) only [↓EQA, CEA, LIA, NIA, Nat.lt_irrefl, Option.toList_some, Option.toList_none, List.cons_append, List.nil_append, true_and, and_true, Nat.reduceAdd, Nat.reduceLeDiff, not_true_eq_false, not_false_eq_true, if_true, if_false, ite_true, ite_false, Int32.reduceLT, ite_not, eq_self, or_true, true_or, ite_self, reduceIte, B_X4_powerOf_J3]
    exact hQ
theorem t_timeBy {j : Nat} {we po : Int32} (hk : RK k c) (hT : Told w T) (hV : RV w k c V) (hh : h < 4) (hj : j < 4) (hQ : Q (some (.int (TB T V h j we po))) w) : Cl (d + 2) m_X4_timeBy [.ref k, .int (nI h), .int (nI j), .int we, .int po] w Q := by
  have hk' := hk
  obtain ⟨h1, h2, h3, h4, h5, h6⟩ := hk
  have key : ∀ o : Int32, (if o = 0 then (0 : Int32) else 2) = OU T V h j → B_X4_timeBy_J2 (d + 1) 0 Q [.ref k, .int (nI h), .int (nI j), .int we, .int po, .null, .null, .null, .null] [.int o] w := by
    intro o ho
    simp +decide (disch := omega) only [↓EQA, CEA, LIA, NIA, Nat.lt_irrefl, Option.toList_some, Option.toList_none, List.cons_append, List.nil_append, true_and, and_true, Nat.reduceAdd, Nat.reduceLeDiff, not_true_eq_false, not_false_eq_true, if_true, if_false, ite_true, ite_false, Int32.reduceLT, ite_not, eq_self, or_true, true_or, ite_self, reduceIte, B_X4_timeBy_J2, mrg, h1, h2, h3, h4, hT, ho]
    simp +decide (disch := omega) only [↓EQA, CEA, LIA, NIA, Nat.lt_irrefl, Option.toList_some, Option.toList_none, List.cons_append, List.nil_append, true_and, and_true, Nat.reduceAdd, Nat.reduceLeDiff, not_true_eq_false, not_false_eq_true, if_true, if_false, ite_true, ite_false, Int32.reduceLT, ite_not, eq_self, or_true, true_or, ite_self, reduceIte, B_X4_timeBy_J3, mrg, h1, h2, h3, h4, hT, hV.2.2.2.2 j hj]
    simp +decide (disch := omega) only [↓EQA, CEA, LIA, NIA, Nat.lt_irrefl, Option.toList_some, Option.toList_none, List.cons_append, List.nil_append, true_and, and_true, Nat.reduceAdd, Nat.reduceLeDiff, not_true_eq_false, not_false_eq_true, if_true, if_false, ite_true, ite_false, Int32.reduceLT, ite_not, eq_self, or_true, true_or, ite_self, reduceIte, B_X4_timeBy_J4, h1, h2, h3, h4]
    generalize hP : po + (if V.2.2.2.2 j = true then T 0 4 else 0) = p
    unfold TB at hQ
    rw [show PR T V j po = p from hP] at hQ
    by_cases hp : p < 1
    · rw [if_pos hp] at hQ ⊢; exact hQ
    · rw [if_neg hp] at hQ ⊢
      refine ⟨fun e => hp (by rw [e]; decide), ?_⟩
      refine t_isLit hk' hV hh ?_
      simp +decide (disch := omega) only [↓EQA, CEA, LIA, NIA, Nat.lt_irrefl, Option.toList_some, Option.toList_none, List.cons_append, List.nil_append, true_and, and_true, Nat.reduceAdd, Nat.reduceLeDiff, not_true_eq_false, not_false_eq_true, if_true, if_false, ite_true, ite_false, Int32.reduceLT, ite_not, eq_self, or_true, true_or, ite_self, reduceIte, mrg, Bool.not_eq_true]
      simp +decide (disch := omega) only [↓EQA, CEA, LIA, NIA, Nat.lt_irrefl, Option.toList_some, Option.toList_none, List.cons_append, List.nil_append, true_and, and_true, Nat.reduceAdd, Nat.reduceLeDiff, not_true_eq_false, not_false_eq_true, if_true, if_false, ite_true, ite_false, Int32.reduceLT, ite_not, eq_self, or_true, true_or, ite_self, reduceIte, B_X4_timeBy_J5]
      cases hl : V.2.2.2.1 h <;> rw [hl] at hQ <;> simpa using hQ
  refine Cl_of k_X4_timeBy.1 (Nat.le_of_ble_eq_true rfl) (show Wp m_X4_timeBy _ 0 _ 0 [.ref k, .int (nI h), .int (nI j), .int we, .int po, .null, .null, .null, .null] [] _ from S_X4_timeBy_0 _ _ _ ?_)
  simp +decide (disch := omega) only [↓EQA, CEA, LIA, NIA, Nat.lt_irrefl, Option.toList_some, Option.toList_none, List.cons_append, List.nil_append, true_and, and_true, Nat.reduceAdd, Nat.reduceLeDiff, not_true_eq_false, not_false_eq_true, if_true, if_false, ite_true, ite_false, Int32.reduceLT, ite_not, eq_self, or_true, true_or, ite_self, reduceIte, B_X4_timeBy_0, B_X4_timeBy_J1, h1, h2, h3, h4, hT]
  split
  · next e => exact key 0 (by unfold OU; rw [if_pos e]; rfl)
  · next e =>
    refine t_laneOf hk' hV hh ?_
    simp +decide (disch := omega) only [↓EQA, CEA, LIA, NIA, Nat.lt_irrefl, Option.toList_some, Option.toList_none, List.cons_append, List.nil_append, true_and, and_true, Nat.reduceAdd, Nat.reduceLeDiff, not_true_eq_false, not_false_eq_true, if_true, if_false, ite_true, ite_false, Int32.reduceLT, ite_not, eq_self, or_true, true_or, ite_self, reduceIte, mrg, h1, h2, hT]
    refine key _ ?_
    unfold OU
    rw [if_neg e]
    by_cases q : V.2.2.1 h = T 2 j <;> simp [q, bI]
end Race
