section Race2
variable {d : Nat} {w : Mem} {Q : Option Value → Mem → Prop} {T : Tv} {V : Vw} {k c h : Nat}
theorem t_timeOn {j : Nat} (hk : RK k c) (hT : Told w T) (hZ : SZ T) (hV : RV w k c V) (hh : h < 4) (hj : j < 4) (hQ : Q (some (.int (TM T V h j))) w) : Cl (d + 3) m_X4_timeOn [.ref k, .int (nI h), .int (nI j)] w Q := by
  refine Cl_of k_X4_timeOn.1 (Nat.le_of_ble_eq_true rfl) (show Wp m_X4_timeOn _ 0 _ 0 [.ref k, .int (nI h), .int (nI j)] [] _ from S_X4_timeOn_0 _ _ _ ?_)
  simp +decide (disch := omega) only [↓EQA, CEA, LIA, NIA, Nat.lt_irrefl, Option.toList_some, Option.toList_none, List.cons_append, List.nil_append, true_and, and_true, Nat.reduceAdd, Nat.reduceLeDiff, not_true_eq_false, not_false_eq_true, if_true, if_false, ite_true, ite_false, Int32.reduceLT, ite_not, eq_self, or_true, true_or, ite_self, reduceIte, B_X4_timeOn_0, hk]
  refine t_weightOf hk hT hZ hV hh ?_
  simp +decide (disch := omega) only [↓EQA, CEA, LIA, NIA, Nat.lt_irrefl, Option.toList_some, Option.toList_none, List.cons_append, List.nil_append, true_and, and_true, Nat.reduceAdd, Nat.reduceLeDiff, not_true_eq_false, not_false_eq_true, if_true, if_false, ite_true, ite_false, Int32.reduceLT, ite_not, eq_self, or_true, true_or, ite_self, reduceIte, hk]
  refine t_powerOf hk hT hZ hV hh ?_
  simp +decide (disch := omega) only [↓EQA, CEA, LIA, NIA, Nat.lt_irrefl, Option.toList_some, Option.toList_none, List.cons_append, List.nil_append, true_and, and_true, Nat.reduceAdd, Nat.reduceLeDiff, not_true_eq_false, not_false_eq_true, if_true, if_false, ite_true, ite_false, Int32.reduceLT, ite_not, eq_self, or_true, true_or, ite_self, reduceIte, hk]
  refine t_timeBy hk hT hV hh hj ?_
  simp +decide (disch := omega) only [↓EQA, CEA, LIA, NIA, Nat.lt_irrefl, Option.toList_some, Option.toList_none, List.cons_append, List.nil_append, true_and, and_true, Nat.reduceAdd, Nat.reduceLeDiff, not_true_eq_false, not_false_eq_true, if_true, if_false, ite_true, ite_false, Int32.reduceLT, ite_not, eq_self, or_true, true_or, ite_self, reduceIte]
  exact hQ
theorem t_timeBehind {n : Nat} {e : Int32} (hk : RK k c) (hT : Told w T) (hZ : SZ T) (hV : RV w k c V) (hh : h < 4) (hn : n ≤ nB T) (h1 : ∀ i, i < n → ¬ e < nI i) (h2 : n < nB T → e < nI n) (hQ : Q (some (.int (SF T V h n))) w) : Cl (d + 3) m_X4_timeBehind [.ref k, .int (nI h), .int e] w Q := by
  have hz := hZ.2
  obtain ⟨k1, k2, k3, k4, k5, k6⟩ := id hk
  refine Cl_of k_X4_timeBehind.1 (Nat.le_of_ble_eq_true rfl) (show Wp m_X4_timeBehind _ 0 _ 0 [.ref k, .int (nI h), .int e, .null, .null, .null, .null] [] _ from S_X4_timeBehind_0 _ _ _ ?_)
  simp +decide (disch := omega) only [↓EQA, CEA, LIA, NIA, Nat.lt_irrefl, Option.toList_some, Option.toList_none, List.cons_append, List.nil_append, true_and, and_true, Nat.reduceAdd, Nat.reduceLeDiff, not_true_eq_false, not_false_eq_true, if_true, if_false, ite_true, ite_false, Int32.reduceLT, ite_not, eq_self, or_true, true_or, ite_self, reduceIte, B_X4_timeBehind_0, k1, k2]
  refine t_storeysLost hT hh ?_
  simp +decide (disch := omega) only [↓EQA, CEA, LIA, NIA, Nat.lt_irrefl, Option.toList_some, Option.toList_none, List.cons_append, List.nil_append, true_and, and_true, Nat.reduceAdd, Nat.reduceLeDiff, not_true_eq_false, not_false_eq_true, if_true, if_false, ite_true, ite_false, Int32.reduceLT, ite_not, eq_self, or_true, true_or, ite_self, reduceIte, k1, k2, hT]
  refine t_weightOf hk hT hZ hV hh ?_
  simp +decide (disch := omega) only [↓EQA, CEA, LIA, NIA, Nat.lt_irrefl, Option.toList_some, Option.toList_none, List.cons_append, List.nil_append, true_and, and_true, Nat.reduceAdd, Nat.reduceLeDiff, not_true_eq_false, not_false_eq_true, if_true, if_false, ite_true, ite_false, Int32.reduceLT, ite_not, eq_self, or_true, true_or, ite_self, reduceIte, k1, k2]
  refine t_powerOf hk hT hZ hV hh ?_
  simp +decide (disch := omega) only [↓EQA, CEA, LIA, NIA, Nat.lt_irrefl, Option.toList_some, Option.toList_none, List.cons_append, List.nil_append, true_and, and_true, Nat.reduceAdd, Nat.reduceLeDiff, not_true_eq_false, not_false_eq_true, if_true, if_false, ite_true, ite_false, Int32.reduceLT, ite_not, eq_self, or_true, true_or, ite_self, reduceIte, k1, k2]
  refine fld_loop (f := fun j a => a + TM T V h j) (n := n) (fun j a => Wp m_X4_timeBehind _ 0 Q 36 [.ref k, .int (nI h), .int e, .int a, .int (WT T V h), .int (PW T V h), .int (nI j)] [] w) (fun j hj hd => ?_) ?_
  · refine S_X4_timeBehind_L1 _ _ _ ?_
    simp +decide (disch := omega) only [↓EQA, CEA, LIA, NIA, Nat.lt_irrefl, Option.toList_some, Option.toList_none, List.cons_append, List.nil_append, true_and, and_true, Nat.reduceAdd, Nat.reduceLeDiff, not_true_eq_false, not_false_eq_true, if_true, if_false, ite_true, ite_false, Int32.reduceLT, ite_not, eq_self, or_true, true_or, ite_self, reduceIte, B_X4_timeBehind_L1, k1, k2, hT, hZ.1, show j < nB T by omega, eq_false (h1 j hj)]
    refine t_timeBy hk hT hV hh (by omega) ?_
    simp +decide (disch := omega) only [↓EQA, CEA, LIA, NIA, Nat.lt_irrefl, Option.toList_some, Option.toList_none, List.cons_append, List.nil_append, true_and, and_true, Nat.reduceAdd, Nat.reduceLeDiff, not_true_eq_false, not_false_eq_true, if_true, if_false, ite_true, ite_false, Int32.reduceLT, ite_not, eq_self, or_true, true_or, ite_self, reduceIte]
    exact hd
  · refine S_X4_timeBehind_L1 _ _ _ ?_
    by_cases q : n < nB T
    · simp +decide (disch := omega) only [↓EQA, CEA, LIA, NIA, Nat.lt_irrefl, Option.toList_some, Option.toList_none, List.cons_append, List.nil_append, true_and, and_true, Nat.reduceAdd, Nat.reduceLeDiff, not_true_eq_false, not_false_eq_true, if_true, if_false, ite_true, ite_false, Int32.reduceLT, ite_not, eq_self, or_true, true_or, ite_self, reduceIte, B_X4_timeBehind_L1, B_X4_timeBehind_J1, k1, k2, hT, hZ.1, eq_true (h2 q)]
      exact hQ
    · have e9 : n = nB T := by omega
      subst e9
      simp +decide (disch := omega) only [↓EQA, CEA, LIA, NIA, Nat.lt_irrefl, Option.toList_some, Option.toList_none, List.cons_append, List.nil_append, true_and, and_true, Nat.reduceAdd, Nat.reduceLeDiff, not_true_eq_false, not_false_eq_true, if_true, if_false, ite_true, ite_false, Int32.reduceLT, ite_not, eq_self, or_true, true_or, ite_self, reduceIte, B_X4_timeBehind_L1, B_X4_timeBehind_J1, k1, k2, hT, hZ.1, ite_self]
      exact hQ
theorem nI_lt_last {n : Nat} (h : n < 2 ^ 31) {i : Nat} (hi : i < n) : ¬ nI n - 1 < nI i := by
  obtain ⟨m, rfl⟩ : ∃ m, n = m + 1 := ⟨n - 1, by omega⟩
  rw [nI_pred]
  exact nI_nlt (by omega) (by omega)
theorem t_wholeTime (hk : RK k c) (hT : Told w T) (hZ : SZ T) (hV : RV w k c V) (hh : h < 4) (hQ : Q (some (.int (TO T V h))) w) : Cl (d + 4) m_X4_wholeTime [.ref k, .int (nI h)] w Q := by
  have hz := hZ.2
  refine Cl_of k_X4_wholeTime.1 (Nat.le_of_ble_eq_true rfl) (show Wp m_X4_wholeTime _ 0 _ 0 [.ref k, .int (nI h)] [] _ from S_X4_wholeTime_0 _ _ _ ?_)
  simp +decide (disch := omega) only [↓EQA, CEA, LIA, NIA, Nat.lt_irrefl, Option.toList_some, Option.toList_none, List.cons_append, List.nil_append, true_and, and_true, Nat.reduceAdd, Nat.reduceLeDiff, not_true_eq_false, not_false_eq_true, if_true, if_false, ite_true, ite_false, Int32.reduceLT, ite_not, eq_self, or_true, true_or, ite_self, reduceIte, B_X4_wholeTime_0, hk, hT, hZ.1]
  refine t_timeBehind (n := nB T) hk hT hZ hV hh (Nat.le_refl _) (fun i hi => nI_lt_last (by omega) hi) (fun q => absurd q (Nat.lt_irrefl _)) ?_
  simp +decide (disch := omega) only [↓EQA, CEA, LIA, NIA, Nat.lt_irrefl, Option.toList_some, Option.toList_none, List.cons_append, List.nil_append, true_and, and_true, Nat.reduceAdd, Nat.reduceLeDiff, not_true_eq_false, not_false_eq_true, if_true, if_false, ite_true, ite_false, Int32.reduceLT, ite_not, eq_self, or_true, true_or, ite_self, reduceIte]
  exact hQ
theorem t_behind {j : Nat} (hk : RK k c) (hT : Told w T) (hZ : SZ T) (hV : RV w k c V) (hh : h < 4) (hj : j < nB T) (hQ : Q (some (.int (SF T V h (j + 1)))) w) : Cl (d + 3) m_X4_timeBehind [.ref k, .int (nI h), .int (nI j)] w Q := by
  have hz := hZ.2
  exact t_timeBehind (n := j + 1) hk hT hZ hV hh (by omega) (fun i hi => nI_nlt (by omega) (by omega)) (fun q => nI_lt (by omega) (by omega)) hQ
/-- is the house h ahead of the house g behind the bend j -/
def AH (T : Tv) (V : Vw) (h g j : Nat) : Bool := decide (SF T V h (j + 1) < SF T V g (j + 1))
theorem t_isAhead {g j : Nat} (hk : RK k c) (hT : Told w T) (hZ : SZ T) (hV : RV w k c V) (hh : h < 4) (hg : g < 4) (hj : j < nB T) (hQ : Q (some (.int (bI (AH T V h g j = true)))) w) : Cl (d + 4) m_X4_isAhead [.ref k, .int (nI h), .int (nI g), .int (nI j)] w Q := by
  refine Cl_of k_X4_isAhead.1 (Nat.le_of_ble_eq_true rfl) (show Wp m_X4_isAhead _ 0 _ 0 [.ref k, .int (nI h), .int (nI g), .int (nI j)] [] _ from S_X4_isAhead_0 _ _ _ ?_)
  simp +decide (disch := omega) only [↓EQA, CEA, LIA, NIA, Nat.lt_irrefl, Option.toList_some, Option.toList_none, List.cons_append, List.nil_append, true_and, and_true, Nat.reduceAdd, Nat.reduceLeDiff, not_true_eq_false, not_false_eq_true, if_true, if_false, ite_true, ite_false, Int32.reduceLT, ite_not, eq_self, or_true, true_or, ite_self, reduceIte, B_X4_isAhead_0, hk]
  refine t_behind hk hT hZ hV hh hj ?_
  simp +decide (disch := omega) only [↓EQA, CEA, LIA, NIA, Nat.lt_irrefl, Option.toList_some, Option.toList_none, List.cons_append, List.nil_append, true_and, and_true, Nat.reduceAdd, Nat.reduceLeDiff, not_true_eq_false, not_false_eq_true, if_true, if_false, ite_true, ite_false, Int32.reduceLT, ite_not, eq_self, or_true, true_or, ite_self, reduceIte, hk]
  refine t_behind hk hT hZ hV hg hj ?_
  simp +decide (disch := omega) only [↓EQA, CEA, LIA, NIA, Nat.lt_irrefl, Option.toList_some, Option.toList_none, List.cons_append, List.nil_append, true_and, and_true, Nat.reduceAdd, Nat.reduceLeDiff, not_true_eq_false, not_false_eq_true, if_true, if_false, ite_true, ite_false, Int32.reduceLT, ite_not, eq_self, or_true, true_or, ite_self, reduceIte, mrg]
  simp +decide (disch := omega) only [↓EQA, CEA, LIA, NIA, Nat.lt_irrefl, Option.toList_some, Option.toList_none, List.cons_append, List.nil_append, true_and, and_true, Nat.reduceAdd, Nat.reduceLeDiff, not_true_eq_false, not_false_eq_true, if_true, if_false, ite_true, ite_false, Int32.reduceLT, ite_not, eq_self, or_true, true_or, ite_self, reduceIte, B_X4_isAhead_J1]
  have e : (SF T V h (j + 1) < SF T V g (j + 1)) = (AH T V h g j = true) := by simp [AH]
  rw [show bI (SF T V h (j + 1) < SF T V g (j + 1)) = bI (AH T V h g j = true) by unfold bI; simp only [e]]
  exact hQ
end Race2
