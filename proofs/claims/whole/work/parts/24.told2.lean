/-! ===== the reader's told, cleared ===== -/
section Told2
variable {d : Nat} {w : Mem} {Q : Option Value → Mem → Prop}
theorem t_toldClear (hQ : ∀ w', Ag (fun j i => j = 29 ∧ i < 11) w w' → (∀ i, i < 11 → w'.1 29 i = 0) → Q none w') : Cl (d + 1) m_X9_clear [.ref 28] w Q := by
  refine Cl_of k_X9_clear.1 (Nat.le_of_ble_eq_true rfl) (show Wp m_X9_clear _ 0 _ 0 [.ref 28, .null] [] _ from S_X9_clear_0 _ _ _ ?_)
  simp +decide (disch := omega) only [↓EQA, CEA, LIA, NIA, Nat.lt_irrefl, Option.toList_some, Option.toList_none, List.cons_append, List.nil_append, true_and, and_true, Nat.reduceAdd, Nat.reduceLeDiff, not_true_eq_false, not_false_eq_true, if_true, if_false, ite_true, ite_false, Int32.reduceLT, ite_not, eq_self, or_true, true_or, ite_self, reduceIte, B_X9_clear_0]
  have key : ∀ m j, j + m = 11 → ∀ w1, Ag (fun j i => j = 29 ∧ i < 11) w w1 → (∀ i, i < j → w1.1 29 i = 0) → Wp m_X9_clear d 0 Q 2 [.ref 28, .int (nI j)] [] w1 := by
    intro m
    induction m with
    | zero =>
      intro j hj w1 ha h7
      have : j = 11 := by omega
      subst this
      refine S_X9_clear_L1 _ _ _ ?_
      simp +decide (disch := omega) only [↓EQA, CEA, LIA, NIA, Nat.lt_irrefl, Option.toList_some, Option.toList_none, List.cons_append, List.nil_append, true_and, and_true, Nat.reduceAdd, Nat.reduceLeDiff, not_true_eq_false, not_false_eq_true, if_true, if_false, ite_true, ite_false, Int32.reduceLT, ite_not, eq_self, or_true, true_or, ite_self, reduceIte, B_X9_clear_L1]
      exact hQ w1 ha h7
    | succ m ih =>
      intro j hj w1 ha h7
      have hj4 : j < 11 := by omega
      refine S_X9_clear_L1 _ _ _ ?_
      simp +decide (disch := omega) only [↓EQA, CEA, LIA, NIA, Nat.lt_irrefl, Option.toList_some, Option.toList_none, List.cons_append, List.nil_append, true_and, and_true, Nat.reduceAdd, Nat.reduceLeDiff, not_true_eq_false, not_false_eq_true, if_true, if_false, ite_true, ite_false, Int32.reduceLT, ite_not, eq_self, or_true, true_or, ite_self, reduceIte, B_X9_clear_L1, hj4]
      refine ih (j + 1) (by omega) _ (ha.wI ⟨rfl, hj4⟩) fun h hh => ?_
      rw [wI_get]
      by_cases e : h = j
      · subst e; rw [if_pos ⟨rfl, rfl⟩]
      · rw [if_neg (fun z => e z.2)]; exact h7 h (by omega)
  exact key 11 0 rfl w Ag.rf fun h hh => absurd hh (Nat.not_lt_zero _)
end Told2
