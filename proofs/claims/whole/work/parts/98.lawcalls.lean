/-! ===== the law, call by call ===== -/
section LawCalls
variable {L : Nat} {xs : Nat → Int32} {d b k : Nat} {w : Mem} {Q : Option Value → Mem → Prop} {v5 v6 : Value}
theorem lg_same (x : Int64) : lg_cmp x x = 0 := by unfold lg_cmp; simp
theorem c_feed (hI : INV w) (hk : k + 6 ≤ L) (hL : L ≤ 3072) (hn : ∀ w2, INV w2 → Wp (m_L_law L xs) (d + 20) b Q 23 [.ref 999, .ref 0, .ref 59, .ref 73, .int (nI (k + 6)), v5, v6] [] w2) : B_L_law_J1 L xs (d + 20) b Q [.ref 999, .ref 0, .ref 59, .ref 73, .int (nI k), v5, v6] [] w := by
  obtain ⟨T, D, F, hI⟩ := hI
  have h1 : k + 1 < L := by omega
  have h2 : k + 2 < L := by omega
  have h3 : k + 3 < L := by omega
  have h4 : k + 4 < L := by omega
  have h5 : k + 5 < L := by omega
  have e5 : nI k + 5 = nI (k + 5) := nI_add k 5
  have e6 : nI k + 6 = nI (k + 6) := nI_add k 6
  simp +decide (disch := omega) only [↓EQA, CEA, LIA, NIA, Nat.lt_irrefl, Option.toList_some, Option.toList_none, List.cons_append, List.nil_append, true_and, and_true, Nat.reduceAdd, Nat.reduceLeDiff, not_true_eq_false, not_false_eq_true, if_true, if_false, ite_true, ite_false, Int32.reduceLT, ite_not, eq_self, or_true, true_or, ite_self, reduceIte, B_L_law_J1, h1, h2, h3, h4, h5, e5]
  refine p_feed hI _ fun x w1 hm => ?_
  simp +decide (disch := omega) only [↓EQA, CEA, LIA, NIA, Nat.lt_irrefl, Option.toList_some, Option.toList_none, List.cons_append, List.nil_append, true_and, and_true, Nat.reduceAdd, Nat.reduceLeDiff, not_true_eq_false, not_false_eq_true, if_true, if_false, ite_true, ite_false, Int32.reduceLT, ite_not, eq_self, or_true, true_or, ite_self, reduceIte, h1, h2, h3, h4, h5, e5]
  refine hm _ fun w2 hI2 => ?_
  simp +decide (disch := omega) only [↓EQA, CEA, LIA, NIA, Nat.lt_irrefl, Option.toList_some, Option.toList_none, List.cons_append, List.nil_append, true_and, and_true, Nat.reduceAdd, Nat.reduceLeDiff, not_true_eq_false, not_false_eq_true, if_true, if_false, ite_true, ite_false, Int32.reduceLT, ite_not, eq_self, or_true, true_or, ite_self, reduceIte, B_L_law_J75, e6]
  exact hn w2 hI2
theorem c_regatta (hI : INV w) (hk : k + 6 ≤ L) (hL : L ≤ 3072) (hn : ∀ w2, INV w2 → Wp (m_L_law L xs) (d + 20) b Q 23 [.ref 999, .ref 0, .ref 59, .ref 73, .int (nI (k + 6)), v5, v6] [] w2) : B_L_law_J2 L xs (d + 20) b Q [.ref 999, .ref 0, .ref 59, .ref 73, .int (nI k), v5, v6] [] w := by
  obtain ⟨T, D, F, hI⟩ := hI
  have h1 : k + 1 < L := by omega
  have h2 : k + 2 < L := by omega
  have h3 : k + 3 < L := by omega
  have h4 : k + 4 < L := by omega
  have h5 : k + 5 < L := by omega
  have e5 : nI k + 5 = nI (k + 5) := nI_add k 5
  have e6 : nI k + 6 = nI (k + 6) := nI_add k 6
  simp +decide (disch := omega) only [↓EQA, CEA, LIA, NIA, Nat.lt_irrefl, Option.toList_some, Option.toList_none, List.cons_append, List.nil_append, true_and, and_true, Nat.reduceAdd, Nat.reduceLeDiff, not_true_eq_false, not_false_eq_true, if_true, if_false, ite_true, ite_false, Int32.reduceLT, ite_not, eq_self, or_true, true_or, ite_self, reduceIte, B_L_law_J2, h1, h2, h3, h4, h5, e5]
  refine p_regatta hI _ fun x w1 hm => ?_
  simp +decide (disch := omega) only [↓EQA, CEA, LIA, NIA, Nat.lt_irrefl, Option.toList_some, Option.toList_none, List.cons_append, List.nil_append, true_and, and_true, Nat.reduceAdd, Nat.reduceLeDiff, not_true_eq_false, not_false_eq_true, if_true, if_false, ite_true, ite_false, Int32.reduceLT, ite_not, eq_self, or_true, true_or, ite_self, reduceIte, h1, h2, h3, h4, h5, e5]
  refine hm _ fun w2 hI2 => ?_
  simp +decide (disch := omega) only [↓EQA, CEA, LIA, NIA, Nat.lt_irrefl, Option.toList_some, Option.toList_none, List.cons_append, List.nil_append, true_and, and_true, Nat.reduceAdd, Nat.reduceLeDiff, not_true_eq_false, not_false_eq_true, if_true, if_false, ite_true, ite_false, Int32.reduceLT, ite_not, eq_self, or_true, true_or, ite_self, reduceIte, B_L_law_J75, e6]
  exact hn w2 hI2
theorem c_fault (hI : INV w) (hk : k + 6 ≤ L) (hL : L ≤ 3072) (hn : ∀ w2, INV w2 → Wp (m_L_law L xs) (d + 20) b Q 23 [.ref 999, .ref 0, .ref 59, .ref 73, .int (nI (k + 6)), v5, v6] [] w2) : B_L_law_J3 L xs (d + 20) b Q [.ref 999, .ref 0, .ref 59, .ref 73, .int (nI k), v5, v6] [] w := by
  obtain ⟨T, D, F, hI⟩ := hI
  have h1 : k + 1 < L := by omega
  have h2 : k + 2 < L := by omega
  have h3 : k + 3 < L := by omega
  have h4 : k + 4 < L := by omega
  have h5 : k + 5 < L := by omega
  have e5 : nI k + 5 = nI (k + 5) := nI_add k 5
  have e6 : nI k + 6 = nI (k + 6) := nI_add k 6
  simp +decide (disch := omega) only [↓EQA, CEA, LIA, NIA, Nat.lt_irrefl, Option.toList_some, Option.toList_none, List.cons_append, List.nil_append, true_and, and_true, Nat.reduceAdd, Nat.reduceLeDiff, not_true_eq_false, not_false_eq_true, if_true, if_false, ite_true, ite_false, Int32.reduceLT, ite_not, eq_self, or_true, true_or, ite_self, reduceIte, B_L_law_J3, h1, h2, h3, h4, h5, e5]
  refine p_fault hI _ fun x w1 hm => ?_
  simp +decide (disch := omega) only [↓EQA, CEA, LIA, NIA, Nat.lt_irrefl, Option.toList_some, Option.toList_none, List.cons_append, List.nil_append, true_and, and_true, Nat.reduceAdd, Nat.reduceLeDiff, not_true_eq_false, not_false_eq_true, if_true, if_false, ite_true, ite_false, Int32.reduceLT, ite_not, eq_self, or_true, true_or, ite_self, reduceIte, h1, h2, h3, h4, h5, e5]
  refine hm _ fun w2 hI2 => ?_
  simp +decide (disch := omega) only [↓EQA, CEA, LIA, NIA, Nat.lt_irrefl, Option.toList_some, Option.toList_none, List.cons_append, List.nil_append, true_and, and_true, Nat.reduceAdd, Nat.reduceLeDiff, not_true_eq_false, not_false_eq_true, if_true, if_false, ite_true, ite_false, Int32.reduceLT, ite_not, eq_self, or_true, true_or, ite_self, reduceIte, B_L_law_J75, e6]
  exact hn w2 hI2
theorem c_where (hI : INV w) (hk : k + 6 ≤ L) (hL : L ≤ 3072) (hn : ∀ w2, INV w2 → Wp (m_L_law L xs) (d + 20) b Q 23 [.ref 999, .ref 0, .ref 59, .ref 73, .int (nI (k + 6)), v5, v6] [] w2) : B_L_law_J4 L xs (d + 20) b Q [.ref 999, .ref 0, .ref 59, .ref 73, .int (nI k), v5, v6] [] w := by
  obtain ⟨T, D, F, hI⟩ := hI
  have h1 : k + 1 < L := by omega
  have h2 : k + 2 < L := by omega
  have h3 : k + 3 < L := by omega
  have h4 : k + 4 < L := by omega
  have h5 : k + 5 < L := by omega
  have e5 : nI k + 5 = nI (k + 5) := nI_add k 5
  have e6 : nI k + 6 = nI (k + 6) := nI_add k 6
  simp +decide (disch := omega) only [↓EQA, CEA, LIA, NIA, Nat.lt_irrefl, Option.toList_some, Option.toList_none, List.cons_append, List.nil_append, true_and, and_true, Nat.reduceAdd, Nat.reduceLeDiff, not_true_eq_false, not_false_eq_true, if_true, if_false, ite_true, ite_false, Int32.reduceLT, ite_not, eq_self, or_true, true_or, ite_self, reduceIte, B_L_law_J4, h1, h2, h3, h4, h5, e5]
  refine p_where hI _ fun x w1 hm => ?_
  simp +decide (disch := omega) only [↓EQA, CEA, LIA, NIA, Nat.lt_irrefl, Option.toList_some, Option.toList_none, List.cons_append, List.nil_append, true_and, and_true, Nat.reduceAdd, Nat.reduceLeDiff, not_true_eq_false, not_false_eq_true, if_true, if_false, ite_true, ite_false, Int32.reduceLT, ite_not, eq_self, or_true, true_or, ite_self, reduceIte, h1, h2, h3, h4, h5, e5]
  refine hm _ fun w2 hI2 => ?_
  simp +decide (disch := omega) only [↓EQA, CEA, LIA, NIA, Nat.lt_irrefl, Option.toList_some, Option.toList_none, List.cons_append, List.nil_append, true_and, and_true, Nat.reduceAdd, Nat.reduceLeDiff, not_true_eq_false, not_false_eq_true, if_true, if_false, ite_true, ite_false, Int32.reduceLT, ite_not, eq_self, or_true, true_or, ite_self, reduceIte, B_L_law_J75, e6]
  exact hn w2 hI2
theorem c_house (hI : INV w) (hk : k + 6 ≤ L) (hL : L ≤ 3072) (hn : ∀ w2, INV w2 → Wp (m_L_law L xs) (d + 20) b Q 23 [.ref 999, .ref 0, .ref 59, .ref 73, .int (nI (k + 6)), v5, v6] [] w2) : B_L_law_J5 L xs (d + 20) b Q [.ref 999, .ref 0, .ref 59, .ref 73, .int (nI k), v5, v6] [] w := by
  obtain ⟨T, D, F, hI⟩ := hI
  have h1 : k + 1 < L := by omega
  have h2 : k + 2 < L := by omega
  have h3 : k + 3 < L := by omega
  have h4 : k + 4 < L := by omega
  have h5 : k + 5 < L := by omega
  have e5 : nI k + 5 = nI (k + 5) := nI_add k 5
  have e6 : nI k + 6 = nI (k + 6) := nI_add k 6
  simp +decide (disch := omega) only [↓EQA, CEA, LIA, NIA, Nat.lt_irrefl, Option.toList_some, Option.toList_none, List.cons_append, List.nil_append, true_and, and_true, Nat.reduceAdd, Nat.reduceLeDiff, not_true_eq_false, not_false_eq_true, if_true, if_false, ite_true, ite_false, Int32.reduceLT, ite_not, eq_self, or_true, true_or, ite_self, reduceIte, B_L_law_J5, h1, h2, h3, h4, h5, e5]
  refine p_house hI _ fun x w1 hm => ?_
  simp +decide (disch := omega) only [↓EQA, CEA, LIA, NIA, Nat.lt_irrefl, Option.toList_some, Option.toList_none, List.cons_append, List.nil_append, true_and, and_true, Nat.reduceAdd, Nat.reduceLeDiff, not_true_eq_false, not_false_eq_true, if_true, if_false, ite_true, ite_false, Int32.reduceLT, ite_not, eq_self, or_true, true_or, ite_self, reduceIte, h1, h2, h3, h4, h5, e5]
  refine hm _ fun w2 hI2 => ?_
  simp +decide (disch := omega) only [↓EQA, CEA, LIA, NIA, Nat.lt_irrefl, Option.toList_some, Option.toList_none, List.cons_append, List.nil_append, true_and, and_true, Nat.reduceAdd, Nat.reduceLeDiff, not_true_eq_false, not_false_eq_true, if_true, if_false, ite_true, ite_false, Int32.reduceLT, ite_not, eq_self, or_true, true_or, ite_self, reduceIte, B_L_law_J75, e6]
  exact hn w2 hI2
theorem c_lodger (hI : INV w) (hk : k + 6 ≤ L) (hL : L ≤ 3072) (hn : ∀ w2, INV w2 → Wp (m_L_law L xs) (d + 20) b Q 23 [.ref 999, .ref 0, .ref 59, .ref 73, .int (nI (k + 6)), v5, v6] [] w2) : B_L_law_J6 L xs (d + 20) b Q [.ref 999, .ref 0, .ref 59, .ref 73, .int (nI k), v5, v6] [] w := by
  obtain ⟨T, D, F, hI⟩ := hI
  have h1 : k + 1 < L := by omega
  have h2 : k + 2 < L := by omega
  have h3 : k + 3 < L := by omega
  have h4 : k + 4 < L := by omega
  have h5 : k + 5 < L := by omega
  have e5 : nI k + 5 = nI (k + 5) := nI_add k 5
  have e6 : nI k + 6 = nI (k + 6) := nI_add k 6
  simp +decide (disch := omega) only [↓EQA, CEA, LIA, NIA, Nat.lt_irrefl, Option.toList_some, Option.toList_none, List.cons_append, List.nil_append, true_and, and_true, Nat.reduceAdd, Nat.reduceLeDiff, not_true_eq_false, not_false_eq_true, if_true, if_false, ite_true, ite_false, Int32.reduceLT, ite_not, eq_self, or_true, true_or, ite_self, reduceIte, B_L_law_J6, h1, h2, h3, h4, h5, e5]
  refine p_lodger hI _ fun x w1 hm => ?_
  simp +decide (disch := omega) only [↓EQA, CEA, LIA, NIA, Nat.lt_irrefl, Option.toList_some, Option.toList_none, List.cons_append, List.nil_append, true_and, and_true, Nat.reduceAdd, Nat.reduceLeDiff, not_true_eq_false, not_false_eq_true, if_true, if_false, ite_true, ite_false, Int32.reduceLT, ite_not, eq_self, or_true, true_or, ite_self, reduceIte, h1, h2, h3, h4, h5, e5]
  refine hm _ fun w2 hI2 => ?_
  simp +decide (disch := omega) only [↓EQA, CEA, LIA, NIA, Nat.lt_irrefl, Option.toList_some, Option.toList_none, List.cons_append, List.nil_append, true_and, and_true, Nat.reduceAdd, Nat.reduceLeDiff, not_true_eq_false, not_false_eq_true, if_true, if_false, ite_true, ite_false, Int32.reduceLT, ite_not, eq_self, or_true, true_or, ite_self, reduceIte, B_L_law_J75, e6]
  exact hn w2 hI2
theorem c_bend (hI : INV w) (hk : k + 6 ≤ L) (hL : L ≤ 3072) (hn : ∀ w2, INV w2 → Wp (m_L_law L xs) (d + 20) b Q 23 [.ref 999, .ref 0, .ref 59, .ref 73, .int (nI (k + 6)), v5, v6] [] w2) : B_L_law_J7 L xs (d + 20) b Q [.ref 999, .ref 0, .ref 59, .ref 73, .int (nI k), v5, v6] [] w := by
  obtain ⟨T, D, F, hI⟩ := hI
  have h1 : k + 1 < L := by omega
  have h2 : k + 2 < L := by omega
  have h3 : k + 3 < L := by omega
  have h4 : k + 4 < L := by omega
  have h5 : k + 5 < L := by omega
  have e5 : nI k + 5 = nI (k + 5) := nI_add k 5
  have e6 : nI k + 6 = nI (k + 6) := nI_add k 6
  simp +decide (disch := omega) only [↓EQA, CEA, LIA, NIA, Nat.lt_irrefl, Option.toList_some, Option.toList_none, List.cons_append, List.nil_append, true_and, and_true, Nat.reduceAdd, Nat.reduceLeDiff, not_true_eq_false, not_false_eq_true, if_true, if_false, ite_true, ite_false, Int32.reduceLT, ite_not, eq_self, or_true, true_or, ite_self, reduceIte, B_L_law_J7, h1, h2, h3, h4, h5, e5]
  refine p_bend hI _ fun x w1 hm => ?_
  simp +decide (disch := omega) only [↓EQA, CEA, LIA, NIA, Nat.lt_irrefl, Option.toList_some, Option.toList_none, List.cons_append, List.nil_append, true_and, and_true, Nat.reduceAdd, Nat.reduceLeDiff, not_true_eq_false, not_false_eq_true, if_true, if_false, ite_true, ite_false, Int32.reduceLT, ite_not, eq_self, or_true, true_or, ite_self, reduceIte, h1, h2, h3, h4, h5, e5]
  refine hm _ fun w2 hI2 => ?_
  simp +decide (disch := omega) only [↓EQA, CEA, LIA, NIA, Nat.lt_irrefl, Option.toList_some, Option.toList_none, List.cons_append, List.nil_append, true_and, and_true, Nat.reduceAdd, Nat.reduceLeDiff, not_true_eq_false, not_false_eq_true, if_true, if_false, ite_true, ite_false, Int32.reduceLT, ite_not, eq_self, or_true, true_or, ite_self, reduceIte, B_L_law_J75, e6]
  exact hn w2 hI2
theorem c_time (hI : INV w) (hk : k + 6 ≤ L) (hL : L ≤ 3072) (hn : ∀ w2, INV w2 → Wp (m_L_law L xs) (d + 20) b Q 23 [.ref 999, .ref 0, .ref 59, .ref 73, .int (nI (k + 6)), v5, v6] [] w2) : B_L_law_J8 L xs (d + 20) b Q [.ref 999, .ref 0, .ref 59, .ref 73, .int (nI k), v5, v6] [] w := by
  obtain ⟨T, D, F, hI⟩ := hI
  have h1 : k + 1 < L := by omega
  have h2 : k + 2 < L := by omega
  have h3 : k + 3 < L := by omega
  have h4 : k + 4 < L := by omega
  have h5 : k + 5 < L := by omega
  have e5 : nI k + 5 = nI (k + 5) := nI_add k 5
  have e6 : nI k + 6 = nI (k + 6) := nI_add k 6
  simp +decide (disch := omega) only [↓EQA, CEA, LIA, NIA, Nat.lt_irrefl, Option.toList_some, Option.toList_none, List.cons_append, List.nil_append, true_and, and_true, Nat.reduceAdd, Nat.reduceLeDiff, not_true_eq_false, not_false_eq_true, if_true, if_false, ite_true, ite_false, Int32.reduceLT, ite_not, eq_self, or_true, true_or, ite_self, reduceIte, B_L_law_J8, h1, h2, h3, h4, h5, e5]
  refine p_time hI _ fun x w1 hm => ?_
  simp +decide (disch := omega) only [↓EQA, CEA, LIA, NIA, Nat.lt_irrefl, Option.toList_some, Option.toList_none, List.cons_append, List.nil_append, true_and, and_true, Nat.reduceAdd, Nat.reduceLeDiff, not_true_eq_false, not_false_eq_true, if_true, if_false, ite_true, ite_false, Int32.reduceLT, ite_not, eq_self, or_true, true_or, ite_self, reduceIte, h1, h2, h3, h4, h5, e5]
  refine hm _ fun w2 hI2 => ?_
  simp +decide (disch := omega) only [↓EQA, CEA, LIA, NIA, Nat.lt_irrefl, Option.toList_some, Option.toList_none, List.cons_append, List.nil_append, true_and, and_true, Nat.reduceAdd, Nat.reduceLeDiff, not_true_eq_false, not_false_eq_true, if_true, if_false, ite_true, ite_false, Int32.reduceLT, ite_not, eq_self, or_true, true_or, ite_self, reduceIte, B_L_law_J75, e6]
  exact hn w2 hI2
theorem c_soFar (hI : INV w) (hk : k + 6 ≤ L) (hL : L ≤ 3072) (hn : ∀ w2, INV w2 → Wp (m_L_law L xs) (d + 20) b Q 23 [.ref 999, .ref 0, .ref 59, .ref 73, .int (nI (k + 6)), v5, v6] [] w2) : B_L_law_J9 L xs (d + 20) b Q [.ref 999, .ref 0, .ref 59, .ref 73, .int (nI k), v5, v6] [] w := by
  obtain ⟨T, D, F, hI⟩ := hI
  have h1 : k + 1 < L := by omega
  have h2 : k + 2 < L := by omega
  have h3 : k + 3 < L := by omega
  have h4 : k + 4 < L := by omega
  have h5 : k + 5 < L := by omega
  have e5 : nI k + 5 = nI (k + 5) := nI_add k 5
  have e6 : nI k + 6 = nI (k + 6) := nI_add k 6
  simp +decide (disch := omega) only [↓EQA, CEA, LIA, NIA, Nat.lt_irrefl, Option.toList_some, Option.toList_none, List.cons_append, List.nil_append, true_and, and_true, Nat.reduceAdd, Nat.reduceLeDiff, not_true_eq_false, not_false_eq_true, if_true, if_false, ite_true, ite_false, Int32.reduceLT, ite_not, eq_self, or_true, true_or, ite_self, reduceIte, B_L_law_J9, h1, h2, h3, h4, h5, e5]
  refine p_soFar hI _ fun x w1 hm => ?_
  simp +decide (disch := omega) only [↓EQA, CEA, LIA, NIA, Nat.lt_irrefl, Option.toList_some, Option.toList_none, List.cons_append, List.nil_append, true_and, and_true, Nat.reduceAdd, Nat.reduceLeDiff, not_true_eq_false, not_false_eq_true, if_true, if_false, ite_true, ite_false, Int32.reduceLT, ite_not, eq_self, or_true, true_or, ite_self, reduceIte, h1, h2, h3, h4, h5, e5]
  refine hm _ fun w2 hI2 => ?_
  simp +decide (disch := omega) only [↓EQA, CEA, LIA, NIA, Nat.lt_irrefl, Option.toList_some, Option.toList_none, List.cons_append, List.nil_append, true_and, and_true, Nat.reduceAdd, Nat.reduceLeDiff, not_true_eq_false, not_false_eq_true, if_true, if_false, ite_true, ite_false, Int32.reduceLT, ite_not, eq_self, or_true, true_or, ite_self, reduceIte, B_L_law_J75, e6]
  exact hn w2 hI2
theorem c_total (hI : INV w) (hk : k + 6 ≤ L) (hL : L ≤ 3072) (hn : ∀ w2, INV w2 → Wp (m_L_law L xs) (d + 20) b Q 23 [.ref 999, .ref 0, .ref 59, .ref 73, .int (nI (k + 6)), v5, v6] [] w2) : B_L_law_J10 L xs (d + 20) b Q [.ref 999, .ref 0, .ref 59, .ref 73, .int (nI k), v5, v6] [] w := by
  obtain ⟨T, D, F, hI⟩ := hI
  have h1 : k + 1 < L := by omega
  have h2 : k + 2 < L := by omega
  have h3 : k + 3 < L := by omega
  have h4 : k + 4 < L := by omega
  have h5 : k + 5 < L := by omega
  have e5 : nI k + 5 = nI (k + 5) := nI_add k 5
  have e6 : nI k + 6 = nI (k + 6) := nI_add k 6
  simp +decide (disch := omega) only [↓EQA, CEA, LIA, NIA, Nat.lt_irrefl, Option.toList_some, Option.toList_none, List.cons_append, List.nil_append, true_and, and_true, Nat.reduceAdd, Nat.reduceLeDiff, not_true_eq_false, not_false_eq_true, if_true, if_false, ite_true, ite_false, Int32.reduceLT, ite_not, eq_self, or_true, true_or, ite_self, reduceIte, B_L_law_J10, h1, h2, h3, h4, h5, e5]
  refine p_total hI _ fun x w1 hm => ?_
  simp +decide (disch := omega) only [↓EQA, CEA, LIA, NIA, Nat.lt_irrefl, Option.toList_some, Option.toList_none, List.cons_append, List.nil_append, true_and, and_true, Nat.reduceAdd, Nat.reduceLeDiff, not_true_eq_false, not_false_eq_true, if_true, if_false, ite_true, ite_false, Int32.reduceLT, ite_not, eq_self, or_true, true_or, ite_self, reduceIte, h1, h2, h3, h4, h5, e5]
  refine hm _ fun w2 hI2 => ?_
  simp +decide (disch := omega) only [↓EQA, CEA, LIA, NIA, Nat.lt_irrefl, Option.toList_some, Option.toList_none, List.cons_append, List.nil_append, true_and, and_true, Nat.reduceAdd, Nat.reduceLeDiff, not_true_eq_false, not_false_eq_true, if_true, if_false, ite_true, ite_false, Int32.reduceLT, ite_not, eq_self, or_true, true_or, ite_self, reduceIte, B_L_law_J75, e6]
  exact hn w2 hI2
theorem c_loses (hI : INV w) (hk : k + 6 ≤ L) (hL : L ≤ 3072) (hn : ∀ w2, INV w2 → Wp (m_L_law L xs) (d + 20) b Q 23 [.ref 999, .ref 0, .ref 59, .ref 73, .int (nI (k + 6)), v5, v6] [] w2) : B_L_law_J11 L xs (d + 20) b Q [.ref 999, .ref 0, .ref 59, .ref 73, .int (nI k), v5, v6] [] w := by
  obtain ⟨T, D, F, hI⟩ := hI
  have h1 : k + 1 < L := by omega
  have h2 : k + 2 < L := by omega
  have h3 : k + 3 < L := by omega
  have h4 : k + 4 < L := by omega
  have h5 : k + 5 < L := by omega
  have e5 : nI k + 5 = nI (k + 5) := nI_add k 5
  have e6 : nI k + 6 = nI (k + 6) := nI_add k 6
  simp +decide (disch := omega) only [↓EQA, CEA, LIA, NIA, Nat.lt_irrefl, Option.toList_some, Option.toList_none, List.cons_append, List.nil_append, true_and, and_true, Nat.reduceAdd, Nat.reduceLeDiff, not_true_eq_false, not_false_eq_true, if_true, if_false, ite_true, ite_false, Int32.reduceLT, ite_not, eq_self, or_true, true_or, ite_self, reduceIte, B_L_law_J11, h1, h2, h3, h4, h5, e5]
  refine p_loses hI _ fun x w1 hm => ?_
  simp +decide (disch := omega) only [↓EQA, CEA, LIA, NIA, Nat.lt_irrefl, Option.toList_some, Option.toList_none, List.cons_append, List.nil_append, true_and, and_true, Nat.reduceAdd, Nat.reduceLeDiff, not_true_eq_false, not_false_eq_true, if_true, if_false, ite_true, ite_false, Int32.reduceLT, ite_not, eq_self, or_true, true_or, ite_self, reduceIte, h1, h2, h3, h4, h5, e5]
  refine hm _ fun w2 hI2 => ?_
  simp +decide (disch := omega) only [↓EQA, CEA, LIA, NIA, Nat.lt_irrefl, Option.toList_some, Option.toList_none, List.cons_append, List.nil_append, true_and, and_true, Nat.reduceAdd, Nat.reduceLeDiff, not_true_eq_false, not_false_eq_true, if_true, if_false, ite_true, ite_false, Int32.reduceLT, ite_not, eq_self, or_true, true_or, ite_self, reduceIte, B_L_law_J75, e6]
  exact hn w2 hI2
theorem c_rank (hI : INV w) (hk : k + 6 ≤ L) (hL : L ≤ 3072) (hn : ∀ w2, INV w2 → Wp (m_L_law L xs) (d + 20) b Q 23 [.ref 999, .ref 0, .ref 59, .ref 73, .int (nI (k + 6)), v5, v6] [] w2) : B_L_law_J12 L xs (d + 20) b Q [.ref 999, .ref 0, .ref 59, .ref 73, .int (nI k), v5, v6] [] w := by
  obtain ⟨T, D, F, hI⟩ := hI
  have h1 : k + 1 < L := by omega
  have h2 : k + 2 < L := by omega
  have h3 : k + 3 < L := by omega
  have h4 : k + 4 < L := by omega
  have h5 : k + 5 < L := by omega
  have e5 : nI k + 5 = nI (k + 5) := nI_add k 5
  have e6 : nI k + 6 = nI (k + 6) := nI_add k 6
  simp +decide (disch := omega) only [↓EQA, CEA, LIA, NIA, Nat.lt_irrefl, Option.toList_some, Option.toList_none, List.cons_append, List.nil_append, true_and, and_true, Nat.reduceAdd, Nat.reduceLeDiff, not_true_eq_false, not_false_eq_true, if_true, if_false, ite_true, ite_false, Int32.reduceLT, ite_not, eq_self, or_true, true_or, ite_self, reduceIte, B_L_law_J12, h1, h2, h3, h4, h5, e5]
  refine p_rank hI _ fun x w1 hm => ?_
  simp +decide (disch := omega) only [↓EQA, CEA, LIA, NIA, Nat.lt_irrefl, Option.toList_some, Option.toList_none, List.cons_append, List.nil_append, true_and, and_true, Nat.reduceAdd, Nat.reduceLeDiff, not_true_eq_false, not_false_eq_true, if_true, if_false, ite_true, ite_false, Int32.reduceLT, ite_not, eq_self, or_true, true_or, ite_self, reduceIte, h1, h2, h3, h4, h5, e5]
  refine hm _ fun w2 hI2 => ?_
  simp +decide (disch := omega) only [↓EQA, CEA, LIA, NIA, Nat.lt_irrefl, Option.toList_some, Option.toList_none, List.cons_append, List.nil_append, true_and, and_true, Nat.reduceAdd, Nat.reduceLeDiff, not_true_eq_false, not_false_eq_true, if_true, if_false, ite_true, ite_false, Int32.reduceLT, ite_not, eq_self, or_true, true_or, ite_self, reduceIte, B_L_law_J75, e6]
  exact hn w2 hI2
theorem c_ranked (hI : INV w) (hk : k + 6 ≤ L) (hL : L ≤ 3072) (hn : ∀ w2, INV w2 → Wp (m_L_law L xs) (d + 20) b Q 23 [.ref 999, .ref 0, .ref 59, .ref 73, .int (nI (k + 6)), v5, v6] [] w2) : B_L_law_J13 L xs (d + 20) b Q [.ref 999, .ref 0, .ref 59, .ref 73, .int (nI k), v5, v6] [] w := by
  obtain ⟨T, D, F, hI⟩ := hI
  have h1 : k + 1 < L := by omega
  have h2 : k + 2 < L := by omega
  have h3 : k + 3 < L := by omega
  have h4 : k + 4 < L := by omega
  have h5 : k + 5 < L := by omega
  have e5 : nI k + 5 = nI (k + 5) := nI_add k 5
  have e6 : nI k + 6 = nI (k + 6) := nI_add k 6
  simp +decide (disch := omega) only [↓EQA, CEA, LIA, NIA, Nat.lt_irrefl, Option.toList_some, Option.toList_none, List.cons_append, List.nil_append, true_and, and_true, Nat.reduceAdd, Nat.reduceLeDiff, not_true_eq_false, not_false_eq_true, if_true, if_false, ite_true, ite_false, Int32.reduceLT, ite_not, eq_self, or_true, true_or, ite_self, reduceIte, B_L_law_J13, h1, h2, h3, h4, h5, e5]
  refine p_ranked hI _ fun x w1 hm => ?_
  simp +decide (disch := omega) only [↓EQA, CEA, LIA, NIA, Nat.lt_irrefl, Option.toList_some, Option.toList_none, List.cons_append, List.nil_append, true_and, and_true, Nat.reduceAdd, Nat.reduceLeDiff, not_true_eq_false, not_false_eq_true, if_true, if_false, ite_true, ite_false, Int32.reduceLT, ite_not, eq_self, or_true, true_or, ite_self, reduceIte, h1, h2, h3, h4, h5, e5]
  refine hm _ fun w2 hI2 => ?_
  simp +decide (disch := omega) only [↓EQA, CEA, LIA, NIA, Nat.lt_irrefl, Option.toList_some, Option.toList_none, List.cons_append, List.nil_append, true_and, and_true, Nat.reduceAdd, Nat.reduceLeDiff, not_true_eq_false, not_false_eq_true, if_true, if_false, ite_true, ite_false, Int32.reduceLT, ite_not, eq_self, or_true, true_or, ite_self, reduceIte, B_L_law_J75, e6]
  exact hn w2 hI2
theorem c_out (hI : INV w) (hk : k + 6 ≤ L) (hL : L ≤ 3072) (hn : ∀ w2, INV w2 → Wp (m_L_law L xs) (d + 20) b Q 23 [.ref 999, .ref 0, .ref 59, .ref 73, .int (nI (k + 6)), v5, v6] [] w2) : B_L_law_J14 L xs (d + 20) b Q [.ref 999, .ref 0, .ref 59, .ref 73, .int (nI k), v5, v6] [] w := by
  obtain ⟨T, D, F, hI⟩ := hI
  have h1 : k + 1 < L := by omega
  have h2 : k + 2 < L := by omega
  have h3 : k + 3 < L := by omega
  have h4 : k + 4 < L := by omega
  have h5 : k + 5 < L := by omega
  have e5 : nI k + 5 = nI (k + 5) := nI_add k 5
  have e6 : nI k + 6 = nI (k + 6) := nI_add k 6
  simp +decide (disch := omega) only [↓EQA, CEA, LIA, NIA, Nat.lt_irrefl, Option.toList_some, Option.toList_none, List.cons_append, List.nil_append, true_and, and_true, Nat.reduceAdd, Nat.reduceLeDiff, not_true_eq_false, not_false_eq_true, if_true, if_false, ite_true, ite_false, Int32.reduceLT, ite_not, eq_self, or_true, true_or, ite_self, reduceIte, B_L_law_J14, h1, h2, h3, h4, h5, e5]
  refine p_out hI _ fun x w1 hm => ?_
  simp +decide (disch := omega) only [↓EQA, CEA, LIA, NIA, Nat.lt_irrefl, Option.toList_some, Option.toList_none, List.cons_append, List.nil_append, true_and, and_true, Nat.reduceAdd, Nat.reduceLeDiff, not_true_eq_false, not_false_eq_true, if_true, if_false, ite_true, ite_false, Int32.reduceLT, ite_not, eq_self, or_true, true_or, ite_self, reduceIte, h1, h2, h3, h4, h5, e5]
  refine hm _ fun w2 hI2 => ?_
  simp +decide (disch := omega) only [↓EQA, CEA, LIA, NIA, Nat.lt_irrefl, Option.toList_some, Option.toList_none, List.cons_append, List.nil_append, true_and, and_true, Nat.reduceAdd, Nat.reduceLeDiff, not_true_eq_false, not_false_eq_true, if_true, if_false, ite_true, ite_false, Int32.reduceLT, ite_not, eq_self, or_true, true_or, ite_self, reduceIte, B_L_law_J75, e6]
  exact hn w2 hI2
theorem c_prize (hI : INV w) (hk : k + 6 ≤ L) (hL : L ≤ 3072) (hn : ∀ w2, INV w2 → Wp (m_L_law L xs) (d + 20) b Q 23 [.ref 999, .ref 0, .ref 59, .ref 73, .int (nI (k + 6)), v5, v6] [] w2) : B_L_law_J15 L xs (d + 20) b Q [.ref 999, .ref 0, .ref 59, .ref 73, .int (nI k), v5, v6] [] w := by
  obtain ⟨T, D, F, hI⟩ := hI
  have h1 : k + 1 < L := by omega
  have h2 : k + 2 < L := by omega
  have h3 : k + 3 < L := by omega
  have h4 : k + 4 < L := by omega
  have h5 : k + 5 < L := by omega
  have e5 : nI k + 5 = nI (k + 5) := nI_add k 5
  have e6 : nI k + 6 = nI (k + 6) := nI_add k 6
  simp +decide (disch := omega) only [↓EQA, CEA, LIA, NIA, Nat.lt_irrefl, Option.toList_some, Option.toList_none, List.cons_append, List.nil_append, true_and, and_true, Nat.reduceAdd, Nat.reduceLeDiff, not_true_eq_false, not_false_eq_true, if_true, if_false, ite_true, ite_false, Int32.reduceLT, ite_not, eq_self, or_true, true_or, ite_self, reduceIte, B_L_law_J15, h1, h2, h3, h4, h5, e5]
  refine p_prize hI _ fun x w1 hm => ?_
  simp +decide (disch := omega) only [↓EQA, CEA, LIA, NIA, Nat.lt_irrefl, Option.toList_some, Option.toList_none, List.cons_append, List.nil_append, true_and, and_true, Nat.reduceAdd, Nat.reduceLeDiff, not_true_eq_false, not_false_eq_true, if_true, if_false, ite_true, ite_false, Int32.reduceLT, ite_not, eq_self, or_true, true_or, ite_self, reduceIte, h1, h2, h3, h4, h5, e5]
  refine hm _ fun w2 hI2 => ?_
  simp +decide (disch := omega) only [↓EQA, CEA, LIA, NIA, Nat.lt_irrefl, Option.toList_some, Option.toList_none, List.cons_append, List.nil_append, true_and, and_true, Nat.reduceAdd, Nat.reduceLeDiff, not_true_eq_false, not_false_eq_true, if_true, if_false, ite_true, ite_false, Int32.reduceLT, ite_not, eq_self, or_true, true_or, ite_self, reduceIte, B_L_law_J75, e6]
  exact hn w2 hI2
theorem c_ahead (hI : INV w) (hk : k + 6 ≤ L) (hL : L ≤ 3072) (hn : ∀ w2, INV w2 → Wp (m_L_law L xs) (d + 20) b Q 23 [.ref 999, .ref 0, .ref 59, .ref 73, .int (nI (k + 6)), v5, v6] [] w2) : B_L_law_J16 L xs (d + 20) b Q [.ref 999, .ref 0, .ref 59, .ref 73, .int (nI k), v5, v6] [] w := by
  obtain ⟨T, D, F, hI⟩ := hI
  have h1 : k + 1 < L := by omega
  have h2 : k + 2 < L := by omega
  have h3 : k + 3 < L := by omega
  have h4 : k + 4 < L := by omega
  have h5 : k + 5 < L := by omega
  have e5 : nI k + 5 = nI (k + 5) := nI_add k 5
  have e6 : nI k + 6 = nI (k + 6) := nI_add k 6
  simp +decide (disch := omega) only [↓EQA, CEA, LIA, NIA, Nat.lt_irrefl, Option.toList_some, Option.toList_none, List.cons_append, List.nil_append, true_and, and_true, Nat.reduceAdd, Nat.reduceLeDiff, not_true_eq_false, not_false_eq_true, if_true, if_false, ite_true, ite_false, Int32.reduceLT, ite_not, eq_self, or_true, true_or, ite_self, reduceIte, B_L_law_J16, h1, h2, h3, h4, h5, e5]
  refine p_ahead hI _ fun x w1 hm => ?_
  simp +decide (disch := omega) only [↓EQA, CEA, LIA, NIA, Nat.lt_irrefl, Option.toList_some, Option.toList_none, List.cons_append, List.nil_append, true_and, and_true, Nat.reduceAdd, Nat.reduceLeDiff, not_true_eq_false, not_false_eq_true, if_true, if_false, ite_true, ite_false, Int32.reduceLT, ite_not, eq_self, or_true, true_or, ite_self, reduceIte, h1, h2, h3, h4, h5, e5]
  refine hm _ fun w2 hI2 => ?_
  simp +decide (disch := omega) only [↓EQA, CEA, LIA, NIA, Nat.lt_irrefl, Option.toList_some, Option.toList_none, List.cons_append, List.nil_append, true_and, and_true, Nat.reduceAdd, Nat.reduceLeDiff, not_true_eq_false, not_false_eq_true, if_true, if_false, ite_true, ite_false, Int32.reduceLT, ite_not, eq_self, or_true, true_or, ite_self, reduceIte, B_L_law_J75, e6]
  exact hn w2 hI2
theorem c_leader (hI : INV w) (hk : k + 6 ≤ L) (hL : L ≤ 3072) (hn : ∀ w2, INV w2 → Wp (m_L_law L xs) (d + 20) b Q 23 [.ref 999, .ref 0, .ref 59, .ref 73, .int (nI (k + 6)), v5, v6] [] w2) : B_L_law_J17 L xs (d + 20) b Q [.ref 999, .ref 0, .ref 59, .ref 73, .int (nI k), v5, v6] [] w := by
  obtain ⟨T, D, F, hI⟩ := hI
  have h1 : k + 1 < L := by omega
  have h2 : k + 2 < L := by omega
  have h3 : k + 3 < L := by omega
  have h4 : k + 4 < L := by omega
  have h5 : k + 5 < L := by omega
  have e5 : nI k + 5 = nI (k + 5) := nI_add k 5
  have e6 : nI k + 6 = nI (k + 6) := nI_add k 6
  simp +decide (disch := omega) only [↓EQA, CEA, LIA, NIA, Nat.lt_irrefl, Option.toList_some, Option.toList_none, List.cons_append, List.nil_append, true_and, and_true, Nat.reduceAdd, Nat.reduceLeDiff, not_true_eq_false, not_false_eq_true, if_true, if_false, ite_true, ite_false, Int32.reduceLT, ite_not, eq_self, or_true, true_or, ite_self, reduceIte, B_L_law_J17, h1, h2, h3, h4, h5, e5]
  refine p_leader hI _ fun x w1 hm => ?_
  simp +decide (disch := omega) only [↓EQA, CEA, LIA, NIA, Nat.lt_irrefl, Option.toList_some, Option.toList_none, List.cons_append, List.nil_append, true_and, and_true, Nat.reduceAdd, Nat.reduceLeDiff, not_true_eq_false, not_false_eq_true, if_true, if_false, ite_true, ite_false, Int32.reduceLT, ite_not, eq_self, or_true, true_or, ite_self, reduceIte, h1, h2, h3, h4, h5, e5]
  refine hm _ fun w2 hI2 => ?_
  simp +decide (disch := omega) only [↓EQA, CEA, LIA, NIA, Nat.lt_irrefl, Option.toList_some, Option.toList_none, List.cons_append, List.nil_append, true_and, and_true, Nat.reduceAdd, Nat.reduceLeDiff, not_true_eq_false, not_false_eq_true, if_true, if_false, ite_true, ite_false, Int32.reduceLT, ite_not, eq_self, or_true, true_or, ite_self, reduceIte, B_L_law_J75, e6]
  exact hn w2 hI2
theorem c_full (hI : INV w) (hk : k + 6 ≤ L) (hL : L ≤ 3072) (hn : ∀ w2, INV w2 → Wp (m_L_law L xs) (d + 20) b Q 23 [.ref 999, .ref 0, .ref 59, .ref 73, .int (nI (k + 6)), v5, v6] [] w2) : B_L_law_J18 L xs (d + 20) b Q [.ref 999, .ref 0, .ref 59, .ref 73, .int (nI k), v5, v6] [] w := by
  obtain ⟨T, D, F, hI⟩ := hI
  have h1 : k + 1 < L := by omega
  have h2 : k + 2 < L := by omega
  have h3 : k + 3 < L := by omega
  have h4 : k + 4 < L := by omega
  have h5 : k + 5 < L := by omega
  have e5 : nI k + 5 = nI (k + 5) := nI_add k 5
  have e6 : nI k + 6 = nI (k + 6) := nI_add k 6
  simp +decide (disch := omega) only [↓EQA, CEA, LIA, NIA, Nat.lt_irrefl, Option.toList_some, Option.toList_none, List.cons_append, List.nil_append, true_and, and_true, Nat.reduceAdd, Nat.reduceLeDiff, not_true_eq_false, not_false_eq_true, if_true, if_false, ite_true, ite_false, Int32.reduceLT, ite_not, eq_self, or_true, true_or, ite_self, reduceIte, B_L_law_J18, h1, h2, h3, h4, h5, e5]
  refine p_full hI _ fun x w1 hm => ?_
  simp +decide (disch := omega) only [↓EQA, CEA, LIA, NIA, Nat.lt_irrefl, Option.toList_some, Option.toList_none, List.cons_append, List.nil_append, true_and, and_true, Nat.reduceAdd, Nat.reduceLeDiff, not_true_eq_false, not_false_eq_true, if_true, if_false, ite_true, ite_false, Int32.reduceLT, ite_not, eq_self, or_true, true_or, ite_self, reduceIte, h1, h2, h3, h4, h5, e5]
  refine hm _ fun w2 hI2 => ?_
  simp +decide (disch := omega) only [↓EQA, CEA, LIA, NIA, Nat.lt_irrefl, Option.toList_some, Option.toList_none, List.cons_append, List.nil_append, true_and, and_true, Nat.reduceAdd, Nat.reduceLeDiff, not_true_eq_false, not_false_eq_true, if_true, if_false, ite_true, ite_false, Int32.reduceLT, ite_not, eq_self, or_true, true_or, ite_self, reduceIte, B_L_law_J75, e6]
  exact hn w2 hI2
theorem c_passes (hI : INV w) (hk : k + 6 ≤ L) (hL : L ≤ 3072) (hn : ∀ w2, INV w2 → Wp (m_L_law L xs) (d + 20) b Q 23 [.ref 999, .ref 0, .ref 59, .ref 73, .int (nI (k + 6)), v5, v6] [] w2) : B_L_law_J19 L xs (d + 20) b Q [.ref 999, .ref 0, .ref 59, .ref 73, .int (nI k), v5, v6] [] w := by
  obtain ⟨T, D, F, hI⟩ := hI
  have h1 : k + 1 < L := by omega
  have h2 : k + 2 < L := by omega
  have h3 : k + 3 < L := by omega
  have h4 : k + 4 < L := by omega
  have h5 : k + 5 < L := by omega
  have e5 : nI k + 5 = nI (k + 5) := nI_add k 5
  have e6 : nI k + 6 = nI (k + 6) := nI_add k 6
  simp +decide (disch := omega) only [↓EQA, CEA, LIA, NIA, Nat.lt_irrefl, Option.toList_some, Option.toList_none, List.cons_append, List.nil_append, true_and, and_true, Nat.reduceAdd, Nat.reduceLeDiff, not_true_eq_false, not_false_eq_true, if_true, if_false, ite_true, ite_false, Int32.reduceLT, ite_not, eq_self, or_true, true_or, ite_self, reduceIte, B_L_law_J19, h1, h2, h3, h4, h5, e5]
  refine p_passes hI _ fun x w1 hm => ?_
  simp +decide (disch := omega) only [↓EQA, CEA, LIA, NIA, Nat.lt_irrefl, Option.toList_some, Option.toList_none, List.cons_append, List.nil_append, true_and, and_true, Nat.reduceAdd, Nat.reduceLeDiff, not_true_eq_false, not_false_eq_true, if_true, if_false, ite_true, ite_false, Int32.reduceLT, ite_not, eq_self, or_true, true_or, ite_self, reduceIte, h1, h2, h3, h4, h5, e5]
  refine hm _ fun w2 hI2 => ?_
  simp +decide (disch := omega) only [↓EQA, CEA, LIA, NIA, Nat.lt_irrefl, Option.toList_some, Option.toList_none, List.cons_append, List.nil_append, true_and, and_true, Nat.reduceAdd, Nat.reduceLeDiff, not_true_eq_false, not_false_eq_true, if_true, if_false, ite_true, ite_false, Int32.reduceLT, ite_not, eq_self, or_true, true_or, ite_self, reduceIte, B_L_law_J75, e6]
  exact hn w2 hI2
theorem c_fastest (hI : INV w) (hk : k + 6 ≤ L) (hL : L ≤ 3072) (hn : ∀ w2, INV w2 → Wp (m_L_law L xs) (d + 20) b Q 23 [.ref 999, .ref 0, .ref 59, .ref 73, .int (nI (k + 6)), v5, v6] [] w2) : B_L_law_J20 L xs (d + 20) b Q [.ref 999, .ref 0, .ref 59, .ref 73, .int (nI k), v5, v6] [] w := by
  obtain ⟨T, D, F, hI⟩ := hI
  have h1 : k + 1 < L := by omega
  have h2 : k + 2 < L := by omega
  have h3 : k + 3 < L := by omega
  have h4 : k + 4 < L := by omega
  have h5 : k + 5 < L := by omega
  have e5 : nI k + 5 = nI (k + 5) := nI_add k 5
  have e6 : nI k + 6 = nI (k + 6) := nI_add k 6
  simp +decide (disch := omega) only [↓EQA, CEA, LIA, NIA, Nat.lt_irrefl, Option.toList_some, Option.toList_none, List.cons_append, List.nil_append, true_and, and_true, Nat.reduceAdd, Nat.reduceLeDiff, not_true_eq_false, not_false_eq_true, if_true, if_false, ite_true, ite_false, Int32.reduceLT, ite_not, eq_self, or_true, true_or, ite_self, reduceIte, B_L_law_J20, h1, h2, h3, h4, h5, e5]
  refine p_fastest hI _ fun x w1 hm => ?_
  simp +decide (disch := omega) only [↓EQA, CEA, LIA, NIA, Nat.lt_irrefl, Option.toList_some, Option.toList_none, List.cons_append, List.nil_append, true_and, and_true, Nat.reduceAdd, Nat.reduceLeDiff, not_true_eq_false, not_false_eq_true, if_true, if_false, ite_true, ite_false, Int32.reduceLT, ite_not, eq_self, or_true, true_or, ite_self, reduceIte, h1, h2, h3, h4, h5, e5]
  refine hm _ fun w2 hI2 => ?_
  simp +decide (disch := omega) only [↓EQA, CEA, LIA, NIA, Nat.lt_irrefl, Option.toList_some, Option.toList_none, List.cons_append, List.nil_append, true_and, and_true, Nat.reduceAdd, Nat.reduceLeDiff, not_true_eq_false, not_false_eq_true, if_true, if_false, ite_true, ite_false, Int32.reduceLT, ite_not, eq_self, or_true, true_or, ite_self, reduceIte, B_L_law_J75, e6]
  exact hn w2 hI2
theorem c_storey (hI : INV w) (hk : k + 6 ≤ L) (hL : L ≤ 3072) (hn : ∀ w2, INV w2 → Wp (m_L_law L xs) (d + 20) b Q 23 [.ref 999, .ref 0, .ref 59, .ref 73, .int (nI (k + 6)), v5, v6] [] w2) : B_L_law_J21 L xs (d + 20) b Q [.ref 999, .ref 0, .ref 59, .ref 73, .int (nI k), v5, v6] [] w := by
  obtain ⟨T, D, F, hI⟩ := hI
  have h1 : k + 1 < L := by omega
  have h2 : k + 2 < L := by omega
  have h3 : k + 3 < L := by omega
  have h4 : k + 4 < L := by omega
  have h5 : k + 5 < L := by omega
  have e5 : nI k + 5 = nI (k + 5) := nI_add k 5
  have e6 : nI k + 6 = nI (k + 6) := nI_add k 6
  simp +decide (disch := omega) only [↓EQA, CEA, LIA, NIA, Nat.lt_irrefl, Option.toList_some, Option.toList_none, List.cons_append, List.nil_append, true_and, and_true, Nat.reduceAdd, Nat.reduceLeDiff, not_true_eq_false, not_false_eq_true, if_true, if_false, ite_true, ite_false, Int32.reduceLT, ite_not, eq_self, or_true, true_or, ite_self, reduceIte, B_L_law_J21, h1, h2, h3, h4, h5, e5]
  refine p_storey hI _ fun x w1 hm => ?_
  simp +decide (disch := omega) only [↓EQA, CEA, LIA, NIA, Nat.lt_irrefl, Option.toList_some, Option.toList_none, List.cons_append, List.nil_append, true_and, and_true, Nat.reduceAdd, Nat.reduceLeDiff, not_true_eq_false, not_false_eq_true, if_true, if_false, ite_true, ite_false, Int32.reduceLT, ite_not, eq_self, or_true, true_or, ite_self, reduceIte, h1, h2, h3, h4, h5, e5]
  refine hm _ fun w2 hI2 => ?_
  simp +decide (disch := omega) only [↓EQA, CEA, LIA, NIA, Nat.lt_irrefl, Option.toList_some, Option.toList_none, List.cons_append, List.nil_append, true_and, and_true, Nat.reduceAdd, Nat.reduceLeDiff, not_true_eq_false, not_false_eq_true, if_true, if_false, ite_true, ite_false, Int32.reduceLT, ite_not, eq_self, or_true, true_or, ite_self, reduceIte, B_L_law_J75, e6]
  exact hn w2 hI2
theorem c_together (hI : INV w) (hk : k + 6 ≤ L) (hL : L ≤ 3072) (hn : ∀ w2, INV w2 → Wp (m_L_law L xs) (d + 20) b Q 23 [.ref 999, .ref 0, .ref 59, .ref 73, .int (nI (k + 6)), v5, v6] [] w2) : B_L_law_J22 L xs (d + 20) b Q [.ref 999, .ref 0, .ref 59, .ref 73, .int (nI k), v5, v6] [] w := by
  obtain ⟨T, D, F, hI⟩ := hI
  have h1 : k + 1 < L := by omega
  have h2 : k + 2 < L := by omega
  have h3 : k + 3 < L := by omega
  have h4 : k + 4 < L := by omega
  have h5 : k + 5 < L := by omega
  have e5 : nI k + 5 = nI (k + 5) := nI_add k 5
  have e6 : nI k + 6 = nI (k + 6) := nI_add k 6
  simp +decide (disch := omega) only [↓EQA, CEA, LIA, NIA, Nat.lt_irrefl, Option.toList_some, Option.toList_none, List.cons_append, List.nil_append, true_and, and_true, Nat.reduceAdd, Nat.reduceLeDiff, not_true_eq_false, not_false_eq_true, if_true, if_false, ite_true, ite_false, Int32.reduceLT, ite_not, eq_self, or_true, true_or, ite_self, reduceIte, B_L_law_J22, h1, h2, h3, h4, h5, e5]
  refine p_together hI _ fun x w1 hm => ?_
  simp +decide (disch := omega) only [↓EQA, CEA, LIA, NIA, Nat.lt_irrefl, Option.toList_some, Option.toList_none, List.cons_append, List.nil_append, true_and, and_true, Nat.reduceAdd, Nat.reduceLeDiff, not_true_eq_false, not_false_eq_true, if_true, if_false, ite_true, ite_false, Int32.reduceLT, ite_not, eq_self, or_true, true_or, ite_self, reduceIte, h1, h2, h3, h4, h5, e5]
  refine hm _ fun w2 hI2 => ?_
  simp +decide (disch := omega) only [↓EQA, CEA, LIA, NIA, Nat.lt_irrefl, Option.toList_some, Option.toList_none, List.cons_append, List.nil_append, true_and, and_true, Nat.reduceAdd, Nat.reduceLeDiff, not_true_eq_false, not_false_eq_true, if_true, if_false, ite_true, ite_false, Int32.reduceLT, ite_not, eq_self, or_true, true_or, ite_self, reduceIte, B_L_law_J75, e6]
  exact hn w2 hI2
theorem c_bestRank (hI : INV w) (hk : k + 6 ≤ L) (hL : L ≤ 3072) (hn : ∀ w2, INV w2 → Wp (m_L_law L xs) (d + 20) b Q 23 [.ref 999, .ref 0, .ref 59, .ref 73, .int (nI (k + 6)), v5, v6] [] w2) : B_L_law_J23 L xs (d + 20) b Q [.ref 999, .ref 0, .ref 59, .ref 73, .int (nI k), v5, v6] [] w := by
  obtain ⟨T, D, F, hI⟩ := hI
  have h1 : k + 1 < L := by omega
  have h2 : k + 2 < L := by omega
  have h3 : k + 3 < L := by omega
  have h4 : k + 4 < L := by omega
  have h5 : k + 5 < L := by omega
  have e5 : nI k + 5 = nI (k + 5) := nI_add k 5
  have e6 : nI k + 6 = nI (k + 6) := nI_add k 6
  simp +decide (disch := omega) only [↓EQA, CEA, LIA, NIA, Nat.lt_irrefl, Option.toList_some, Option.toList_none, List.cons_append, List.nil_append, true_and, and_true, Nat.reduceAdd, Nat.reduceLeDiff, not_true_eq_false, not_false_eq_true, if_true, if_false, ite_true, ite_false, Int32.reduceLT, ite_not, eq_self, or_true, true_or, ite_self, reduceIte, B_L_law_J23, h1, h2, h3, h4, h5, e5]
  refine p_bestRank hI _ fun x w1 hm => ?_
  simp +decide (disch := omega) only [↓EQA, CEA, LIA, NIA, Nat.lt_irrefl, Option.toList_some, Option.toList_none, List.cons_append, List.nil_append, true_and, and_true, Nat.reduceAdd, Nat.reduceLeDiff, not_true_eq_false, not_false_eq_true, if_true, if_false, ite_true, ite_false, Int32.reduceLT, ite_not, eq_self, or_true, true_or, ite_self, reduceIte, h1, h2, h3, h4, h5, e5]
  refine hm _ fun w2 hI2 => ?_
  simp +decide (disch := omega) only [↓EQA, CEA, LIA, NIA, Nat.lt_irrefl, Option.toList_some, Option.toList_none, List.cons_append, List.nil_append, true_and, and_true, Nat.reduceAdd, Nat.reduceLeDiff, not_true_eq_false, not_false_eq_true, if_true, if_false, ite_true, ite_false, Int32.reduceLT, ite_not, eq_self, or_true, true_or, ite_self, reduceIte, B_L_law_J75, e6]
  exact hn w2 hI2
theorem c_loadOf (hI : INV w) (hk : k + 6 ≤ L) (hL : L ≤ 3072) (hn : ∀ w2, INV w2 → Wp (m_L_law L xs) (d + 20) b Q 23 [.ref 999, .ref 0, .ref 59, .ref 73, .int (nI (k + 6)), v5, v6] [] w2) : B_L_law_J24 L xs (d + 20) b Q [.ref 999, .ref 0, .ref 59, .ref 73, .int (nI k), v5, v6] [] w := by
  obtain ⟨T, D, F, hI⟩ := hI
  have h1 : k + 1 < L := by omega
  have h2 : k + 2 < L := by omega
  have h3 : k + 3 < L := by omega
  have h4 : k + 4 < L := by omega
  have h5 : k + 5 < L := by omega
  have e5 : nI k + 5 = nI (k + 5) := nI_add k 5
  have e6 : nI k + 6 = nI (k + 6) := nI_add k 6
  simp +decide (disch := omega) only [↓EQA, CEA, LIA, NIA, Nat.lt_irrefl, Option.toList_some, Option.toList_none, List.cons_append, List.nil_append, true_and, and_true, Nat.reduceAdd, Nat.reduceLeDiff, not_true_eq_false, not_false_eq_true, if_true, if_false, ite_true, ite_false, Int32.reduceLT, ite_not, eq_self, or_true, true_or, ite_self, reduceIte, B_L_law_J24, h1, h2, h3, h4, h5, e5]
  refine p_loadOf hI _ fun x w1 hm => ?_
  simp +decide (disch := omega) only [↓EQA, CEA, LIA, NIA, Nat.lt_irrefl, Option.toList_some, Option.toList_none, List.cons_append, List.nil_append, true_and, and_true, Nat.reduceAdd, Nat.reduceLeDiff, not_true_eq_false, not_false_eq_true, if_true, if_false, ite_true, ite_false, Int32.reduceLT, ite_not, eq_self, or_true, true_or, ite_self, reduceIte, h1, h2, h3, h4, h5, e5]
  refine hm _ fun w2 hI2 => ?_
  simp +decide (disch := omega) only [↓EQA, CEA, LIA, NIA, Nat.lt_irrefl, Option.toList_some, Option.toList_none, List.cons_append, List.nil_append, true_and, and_true, Nat.reduceAdd, Nat.reduceLeDiff, not_true_eq_false, not_false_eq_true, if_true, if_false, ite_true, ite_false, Int32.reduceLT, ite_not, eq_self, or_true, true_or, ite_self, reduceIte, B_L_law_J75, e6]
  exact hn w2 hI2
theorem c_loadMoves (hI : INV w) (hk : k + 6 ≤ L) (hL : L ≤ 3072) (hn : ∀ w2, INV w2 → Wp (m_L_law L xs) (d + 20) b Q 23 [.ref 999, .ref 0, .ref 59, .ref 73, .int (nI (k + 6)), v5, v6] [] w2) : B_L_law_J25 L xs (d + 20) b Q [.ref 999, .ref 0, .ref 59, .ref 73, .int (nI k), v5, v6] [] w := by
  obtain ⟨T, D, F, hI⟩ := hI
  have h1 : k + 1 < L := by omega
  have h2 : k + 2 < L := by omega
  have h3 : k + 3 < L := by omega
  have h4 : k + 4 < L := by omega
  have h5 : k + 5 < L := by omega
  have e5 : nI k + 5 = nI (k + 5) := nI_add k 5
  have e6 : nI k + 6 = nI (k + 6) := nI_add k 6
  simp +decide (disch := omega) only [↓EQA, CEA, LIA, NIA, Nat.lt_irrefl, Option.toList_some, Option.toList_none, List.cons_append, List.nil_append, true_and, and_true, Nat.reduceAdd, Nat.reduceLeDiff, not_true_eq_false, not_false_eq_true, if_true, if_false, ite_true, ite_false, Int32.reduceLT, ite_not, eq_self, or_true, true_or, ite_self, reduceIte, B_L_law_J25, h1, h2, h3, h4, h5, e5]
  refine p_loadMoves hI _ fun x w1 hm => ?_
  simp +decide (disch := omega) only [↓EQA, CEA, LIA, NIA, Nat.lt_irrefl, Option.toList_some, Option.toList_none, List.cons_append, List.nil_append, true_and, and_true, Nat.reduceAdd, Nat.reduceLeDiff, not_true_eq_false, not_false_eq_true, if_true, if_false, ite_true, ite_false, Int32.reduceLT, ite_not, eq_self, or_true, true_or, ite_self, reduceIte, h1, h2, h3, h4, h5, e5]
  refine hm _ fun w2 hI2 => ?_
  simp +decide (disch := omega) only [↓EQA, CEA, LIA, NIA, Nat.lt_irrefl, Option.toList_some, Option.toList_none, List.cons_append, List.nil_append, true_and, and_true, Nat.reduceAdd, Nat.reduceLeDiff, not_true_eq_false, not_false_eq_true, if_true, if_false, ite_true, ite_false, Int32.reduceLT, ite_not, eq_self, or_true, true_or, ite_self, reduceIte, B_L_law_J75, e6]
  exact hn w2 hI2
theorem c_leastTotal (hI : INV w) (hk : k + 6 ≤ L) (hL : L ≤ 3072) (hn : ∀ w2, INV w2 → Wp (m_L_law L xs) (d + 20) b Q 23 [.ref 999, .ref 0, .ref 59, .ref 73, .int (nI (k + 6)), v5, v6] [] w2) : B_L_law_J26 L xs (d + 20) b Q [.ref 999, .ref 0, .ref 59, .ref 73, .int (nI k), v5, v6] [] w := by
  obtain ⟨T, D, F, hI⟩ := hI
  have h1 : k + 1 < L := by omega
  have h2 : k + 2 < L := by omega
  have h3 : k + 3 < L := by omega
  have h4 : k + 4 < L := by omega
  have h5 : k + 5 < L := by omega
  have e5 : nI k + 5 = nI (k + 5) := nI_add k 5
  have e6 : nI k + 6 = nI (k + 6) := nI_add k 6
  simp +decide (disch := omega) only [↓EQA, CEA, LIA, NIA, Nat.lt_irrefl, Option.toList_some, Option.toList_none, List.cons_append, List.nil_append, true_and, and_true, Nat.reduceAdd, Nat.reduceLeDiff, not_true_eq_false, not_false_eq_true, if_true, if_false, ite_true, ite_false, Int32.reduceLT, ite_not, eq_self, or_true, true_or, ite_self, reduceIte, B_L_law_J26, h1, h2, h3, h4, h5, e5]
  refine p_leastTotal hI _ fun x w1 hm => ?_
  simp +decide (disch := omega) only [↓EQA, CEA, LIA, NIA, Nat.lt_irrefl, Option.toList_some, Option.toList_none, List.cons_append, List.nil_append, true_and, and_true, Nat.reduceAdd, Nat.reduceLeDiff, not_true_eq_false, not_false_eq_true, if_true, if_false, ite_true, ite_false, Int32.reduceLT, ite_not, eq_self, or_true, true_or, ite_self, reduceIte, h1, h2, h3, h4, h5, e5]
  refine hm _ fun w2 hI2 => ?_
  simp +decide (disch := omega) only [↓EQA, CEA, LIA, NIA, Nat.lt_irrefl, Option.toList_some, Option.toList_none, List.cons_append, List.nil_append, true_and, and_true, Nat.reduceAdd, Nat.reduceLeDiff, not_true_eq_false, not_false_eq_true, if_true, if_false, ite_true, ite_false, Int32.reduceLT, ite_not, eq_self, or_true, true_or, ite_self, reduceIte, B_L_law_J75, e6]
  exact hn w2 hI2
theorem c_friendly (hI : INV w) (hk : k + 6 ≤ L) (hL : L ≤ 3072) (hn : ∀ w2, INV w2 → Wp (m_L_law L xs) (d + 20) b Q 23 [.ref 999, .ref 0, .ref 59, .ref 73, .int (nI (k + 6)), v5, v6] [] w2) : B_L_law_J27 L xs (d + 20) b Q [.ref 999, .ref 0, .ref 59, .ref 73, .int (nI k), v5, v6] [] w := by
  obtain ⟨T, D, F, hI⟩ := hI
  have h1 : k + 1 < L := by omega
  have h2 : k + 2 < L := by omega
  have h3 : k + 3 < L := by omega
  have h4 : k + 4 < L := by omega
  have h5 : k + 5 < L := by omega
  have e5 : nI k + 5 = nI (k + 5) := nI_add k 5
  have e6 : nI k + 6 = nI (k + 6) := nI_add k 6
  simp +decide (disch := omega) only [↓EQA, CEA, LIA, NIA, Nat.lt_irrefl, Option.toList_some, Option.toList_none, List.cons_append, List.nil_append, true_and, and_true, Nat.reduceAdd, Nat.reduceLeDiff, not_true_eq_false, not_false_eq_true, if_true, if_false, ite_true, ite_false, Int32.reduceLT, ite_not, eq_self, or_true, true_or, ite_self, reduceIte, B_L_law_J27, h1, h2, h3, h4, h5, e5]
  refine p_friendly hI _ fun x w1 hm => ?_
  simp +decide (disch := omega) only [↓EQA, CEA, LIA, NIA, Nat.lt_irrefl, Option.toList_some, Option.toList_none, List.cons_append, List.nil_append, true_and, and_true, Nat.reduceAdd, Nat.reduceLeDiff, not_true_eq_false, not_false_eq_true, if_true, if_false, ite_true, ite_false, Int32.reduceLT, ite_not, eq_self, or_true, true_or, ite_self, reduceIte, h1, h2, h3, h4, h5, e5]
  refine hm _ fun w2 hI2 => ?_
  simp +decide (disch := omega) only [↓EQA, CEA, LIA, NIA, Nat.lt_irrefl, Option.toList_some, Option.toList_none, List.cons_append, List.nil_append, true_and, and_true, Nat.reduceAdd, Nat.reduceLeDiff, not_true_eq_false, not_false_eq_true, if_true, if_false, ite_true, ite_false, Int32.reduceLT, ite_not, eq_self, or_true, true_or, ite_self, reduceIte, B_L_law_J75, e6]
  exact hn w2 hI2
theorem c_friendlyOf (hI : INV w) (hk : k + 6 ≤ L) (hL : L ≤ 3072) (hn : ∀ w2, INV w2 → Wp (m_L_law L xs) (d + 20) b Q 23 [.ref 999, .ref 0, .ref 59, .ref 73, .int (nI (k + 6)), v5, v6] [] w2) : B_L_law_J28 L xs (d + 20) b Q [.ref 999, .ref 0, .ref 59, .ref 73, .int (nI k), v5, v6] [] w := by
  obtain ⟨T, D, F, hI⟩ := hI
  have h1 : k + 1 < L := by omega
  have h2 : k + 2 < L := by omega
  have h3 : k + 3 < L := by omega
  have h4 : k + 4 < L := by omega
  have h5 : k + 5 < L := by omega
  have e5 : nI k + 5 = nI (k + 5) := nI_add k 5
  have e6 : nI k + 6 = nI (k + 6) := nI_add k 6
  simp +decide (disch := omega) only [↓EQA, CEA, LIA, NIA, Nat.lt_irrefl, Option.toList_some, Option.toList_none, List.cons_append, List.nil_append, true_and, and_true, Nat.reduceAdd, Nat.reduceLeDiff, not_true_eq_false, not_false_eq_true, if_true, if_false, ite_true, ite_false, Int32.reduceLT, ite_not, eq_self, or_true, true_or, ite_self, reduceIte, B_L_law_J28, h1, h2, h3, h4, h5, e5]
  refine p_friendlyOf hI _ fun x w1 hm => ?_
  simp +decide (disch := omega) only [↓EQA, CEA, LIA, NIA, Nat.lt_irrefl, Option.toList_some, Option.toList_none, List.cons_append, List.nil_append, true_and, and_true, Nat.reduceAdd, Nat.reduceLeDiff, not_true_eq_false, not_false_eq_true, if_true, if_false, ite_true, ite_false, Int32.reduceLT, ite_not, eq_self, or_true, true_or, ite_self, reduceIte, h1, h2, h3, h4, h5, e5]
  refine hm _ fun w2 hI2 => ?_
  simp +decide (disch := omega) only [↓EQA, CEA, LIA, NIA, Nat.lt_irrefl, Option.toList_some, Option.toList_none, List.cons_append, List.nil_append, true_and, and_true, Nat.reduceAdd, Nat.reduceLeDiff, not_true_eq_false, not_false_eq_true, if_true, if_false, ite_true, ite_false, Int32.reduceLT, ite_not, eq_self, or_true, true_or, ite_self, reduceIte, B_L_law_J75, e6]
  exact hn w2 hI2
theorem c_leastFor (hI : INV w) (hk : k + 6 ≤ L) (hL : L ≤ 3072) (hn : ∀ w2, INV w2 → Wp (m_L_law L xs) (d + 20) b Q 23 [.ref 999, .ref 0, .ref 59, .ref 73, .int (nI (k + 6)), v5, v6] [] w2) : B_L_law_J29 L xs (d + 20) b Q [.ref 999, .ref 0, .ref 59, .ref 73, .int (nI k), v5, v6] [] w := by
  obtain ⟨T, D, F, hI⟩ := hI
  have h1 : k + 1 < L := by omega
  have h2 : k + 2 < L := by omega
  have h3 : k + 3 < L := by omega
  have h4 : k + 4 < L := by omega
  have h5 : k + 5 < L := by omega
  have e5 : nI k + 5 = nI (k + 5) := nI_add k 5
  have e6 : nI k + 6 = nI (k + 6) := nI_add k 6
  simp +decide (disch := omega) only [↓EQA, CEA, LIA, NIA, Nat.lt_irrefl, Option.toList_some, Option.toList_none, List.cons_append, List.nil_append, true_and, and_true, Nat.reduceAdd, Nat.reduceLeDiff, not_true_eq_false, not_false_eq_true, if_true, if_false, ite_true, ite_false, Int32.reduceLT, ite_not, eq_self, or_true, true_or, ite_self, reduceIte, B_L_law_J29, h1, h2, h3, h4, h5, e5]
  refine p_leastFor hI _ fun x w1 hm => ?_
  simp +decide (disch := omega) only [↓EQA, CEA, LIA, NIA, Nat.lt_irrefl, Option.toList_some, Option.toList_none, List.cons_append, List.nil_append, true_and, and_true, Nat.reduceAdd, Nat.reduceLeDiff, not_true_eq_false, not_false_eq_true, if_true, if_false, ite_true, ite_false, Int32.reduceLT, ite_not, eq_self, or_true, true_or, ite_self, reduceIte, h1, h2, h3, h4, h5, e5]
  refine hm _ fun w2 hI2 => ?_
  simp +decide (disch := omega) only [↓EQA, CEA, LIA, NIA, Nat.lt_irrefl, Option.toList_some, Option.toList_none, List.cons_append, List.nil_append, true_and, and_true, Nat.reduceAdd, Nat.reduceLeDiff, not_true_eq_false, not_false_eq_true, if_true, if_false, ite_true, ite_false, Int32.reduceLT, ite_not, eq_self, or_true, true_or, ite_self, reduceIte, B_L_law_J75, e6]
  exact hn w2 hI2
theorem c_toMove (hI : INV w) (hk : k + 6 ≤ L) (hL : L ≤ 3072) (hn : ∀ w2, INV w2 → Wp (m_L_law L xs) (d + 20) b Q 23 [.ref 999, .ref 0, .ref 59, .ref 73, .int (nI (k + 6)), v5, v6] [] w2) : B_L_law_J30 L xs (d + 20) b Q [.ref 999, .ref 0, .ref 59, .ref 73, .int (nI k), v5, v6] [] w := by
  obtain ⟨T, D, F, hI⟩ := hI
  have h1 : k + 1 < L := by omega
  have h2 : k + 2 < L := by omega
  have h3 : k + 3 < L := by omega
  have h4 : k + 4 < L := by omega
  have h5 : k + 5 < L := by omega
  have e5 : nI k + 5 = nI (k + 5) := nI_add k 5
  have e6 : nI k + 6 = nI (k + 6) := nI_add k 6
  simp +decide (disch := omega) only [↓EQA, CEA, LIA, NIA, Nat.lt_irrefl, Option.toList_some, Option.toList_none, List.cons_append, List.nil_append, true_and, and_true, Nat.reduceAdd, Nat.reduceLeDiff, not_true_eq_false, not_false_eq_true, if_true, if_false, ite_true, ite_false, Int32.reduceLT, ite_not, eq_self, or_true, true_or, ite_self, reduceIte, B_L_law_J30, h1, h2, h3, h4, h5, e5]
  refine p_toMove hI _ fun x w1 hm => ?_
  simp +decide (disch := omega) only [↓EQA, CEA, LIA, NIA, Nat.lt_irrefl, Option.toList_some, Option.toList_none, List.cons_append, List.nil_append, true_and, and_true, Nat.reduceAdd, Nat.reduceLeDiff, not_true_eq_false, not_false_eq_true, if_true, if_false, ite_true, ite_false, Int32.reduceLT, ite_not, eq_self, or_true, true_or, ite_self, reduceIte, h1, h2, h3, h4, h5, e5]
  refine hm _ fun w2 hI2 => ?_
  simp +decide (disch := omega) only [↓EQA, CEA, LIA, NIA, Nat.lt_irrefl, Option.toList_some, Option.toList_none, List.cons_append, List.nil_append, true_and, and_true, Nat.reduceAdd, Nat.reduceLeDiff, not_true_eq_false, not_false_eq_true, if_true, if_false, ite_true, ite_false, Int32.reduceLT, ite_not, eq_self, or_true, true_or, ite_self, reduceIte, B_L_law_J75, e6]
  exact hn w2 hI2
theorem c_waterFor (hI : INV w) (hk : k + 6 ≤ L) (hL : L ≤ 3072) (hn : ∀ w2, INV w2 → Wp (m_L_law L xs) (d + 20) b Q 23 [.ref 999, .ref 0, .ref 59, .ref 73, .int (nI (k + 6)), v5, v6] [] w2) : B_L_law_J31 L xs (d + 20) b Q [.ref 999, .ref 0, .ref 59, .ref 73, .int (nI k), v5, v6] [] w := by
  obtain ⟨T, D, F, hI⟩ := hI
  have h1 : k + 1 < L := by omega
  have h2 : k + 2 < L := by omega
  have h3 : k + 3 < L := by omega
  have h4 : k + 4 < L := by omega
  have h5 : k + 5 < L := by omega
  have e5 : nI k + 5 = nI (k + 5) := nI_add k 5
  have e6 : nI k + 6 = nI (k + 6) := nI_add k 6
  simp +decide (disch := omega) only [↓EQA, CEA, LIA, NIA, Nat.lt_irrefl, Option.toList_some, Option.toList_none, List.cons_append, List.nil_append, true_and, and_true, Nat.reduceAdd, Nat.reduceLeDiff, not_true_eq_false, not_false_eq_true, if_true, if_false, ite_true, ite_false, Int32.reduceLT, ite_not, eq_self, or_true, true_or, ite_self, reduceIte, B_L_law_J31, h1, h2, h3, h4, h5, e5]
  refine p_waterFor hI _ fun x w1 hm => ?_
  simp +decide (disch := omega) only [↓EQA, CEA, LIA, NIA, Nat.lt_irrefl, Option.toList_some, Option.toList_none, List.cons_append, List.nil_append, true_and, and_true, Nat.reduceAdd, Nat.reduceLeDiff, not_true_eq_false, not_false_eq_true, if_true, if_false, ite_true, ite_false, Int32.reduceLT, ite_not, eq_self, or_true, true_or, ite_self, reduceIte, h1, h2, h3, h4, h5, e5]
  refine hm _ fun w2 hI2 => ?_
  simp +decide (disch := omega) only [↓EQA, CEA, LIA, NIA, Nat.lt_irrefl, Option.toList_some, Option.toList_none, List.cons_append, List.nil_append, true_and, and_true, Nat.reduceAdd, Nat.reduceLeDiff, not_true_eq_false, not_false_eq_true, if_true, if_false, ite_true, ite_false, Int32.reduceLT, ite_not, eq_self, or_true, true_or, ite_self, reduceIte, B_L_law_J75, e6]
  exact hn w2 hI2
theorem c_bestSwap (hI : INV w) (hk : k + 6 ≤ L) (hL : L ≤ 3072) (hn : ∀ w2, INV w2 → Wp (m_L_law L xs) (d + 20) b Q 23 [.ref 999, .ref 0, .ref 59, .ref 73, .int (nI (k + 6)), v5, v6] [] w2) : B_L_law_J32 L xs (d + 20) b Q [.ref 999, .ref 0, .ref 59, .ref 73, .int (nI k), v5, v6] [] w := by
  obtain ⟨T, D, F, hI⟩ := hI
  have h1 : k + 1 < L := by omega
  have h2 : k + 2 < L := by omega
  have h3 : k + 3 < L := by omega
  have h4 : k + 4 < L := by omega
  have h5 : k + 5 < L := by omega
  have e5 : nI k + 5 = nI (k + 5) := nI_add k 5
  have e6 : nI k + 6 = nI (k + 6) := nI_add k 6
  simp +decide (disch := omega) only [↓EQA, CEA, LIA, NIA, Nat.lt_irrefl, Option.toList_some, Option.toList_none, List.cons_append, List.nil_append, true_and, and_true, Nat.reduceAdd, Nat.reduceLeDiff, not_true_eq_false, not_false_eq_true, if_true, if_false, ite_true, ite_false, Int32.reduceLT, ite_not, eq_self, or_true, true_or, ite_self, reduceIte, B_L_law_J32, h1, h2, h3, h4, h5, e5]
  refine p_bestSwap hI _ fun x w1 hm => ?_
  simp +decide (disch := omega) only [↓EQA, CEA, LIA, NIA, Nat.lt_irrefl, Option.toList_some, Option.toList_none, List.cons_append, List.nil_append, true_and, and_true, Nat.reduceAdd, Nat.reduceLeDiff, not_true_eq_false, not_false_eq_true, if_true, if_false, ite_true, ite_false, Int32.reduceLT, ite_not, eq_self, or_true, true_or, ite_self, reduceIte, h1, h2, h3, h4, h5, e5]
  refine hm _ fun w2 hI2 => ?_
  simp +decide (disch := omega) only [↓EQA, CEA, LIA, NIA, Nat.lt_irrefl, Option.toList_some, Option.toList_none, List.cons_append, List.nil_append, true_and, and_true, Nat.reduceAdd, Nat.reduceLeDiff, not_true_eq_false, not_false_eq_true, if_true, if_false, ite_true, ite_false, Int32.reduceLT, ite_not, eq_self, or_true, true_or, ite_self, reduceIte, B_L_law_J75, e6]
  exact hn w2 hI2
theorem c_bestLane (hI : INV w) (hk : k + 6 ≤ L) (hL : L ≤ 3072) (hn : ∀ w2, INV w2 → Wp (m_L_law L xs) (d + 20) b Q 23 [.ref 999, .ref 0, .ref 59, .ref 73, .int (nI (k + 6)), v5, v6] [] w2) : B_L_law_J33 L xs (d + 20) b Q [.ref 999, .ref 0, .ref 59, .ref 73, .int (nI k), v5, v6] [] w := by
  obtain ⟨T, D, F, hI⟩ := hI
  have h1 : k + 1 < L := by omega
  have h2 : k + 2 < L := by omega
  have h3 : k + 3 < L := by omega
  have h4 : k + 4 < L := by omega
  have h5 : k + 5 < L := by omega
  have e5 : nI k + 5 = nI (k + 5) := nI_add k 5
  have e6 : nI k + 6 = nI (k + 6) := nI_add k 6
  simp +decide (disch := omega) only [↓EQA, CEA, LIA, NIA, Nat.lt_irrefl, Option.toList_some, Option.toList_none, List.cons_append, List.nil_append, true_and, and_true, Nat.reduceAdd, Nat.reduceLeDiff, not_true_eq_false, not_false_eq_true, if_true, if_false, ite_true, ite_false, Int32.reduceLT, ite_not, eq_self, or_true, true_or, ite_self, reduceIte, B_L_law_J33, h1, h2, h3, h4, h5, e5]
  refine p_bestLane hI _ fun x w1 hm => ?_
  simp +decide (disch := omega) only [↓EQA, CEA, LIA, NIA, Nat.lt_irrefl, Option.toList_some, Option.toList_none, List.cons_append, List.nil_append, true_and, and_true, Nat.reduceAdd, Nat.reduceLeDiff, not_true_eq_false, not_false_eq_true, if_true, if_false, ite_true, ite_false, Int32.reduceLT, ite_not, eq_self, or_true, true_or, ite_self, reduceIte, h1, h2, h3, h4, h5, e5]
  refine hm _ fun w2 hI2 => ?_
  simp +decide (disch := omega) only [↓EQA, CEA, LIA, NIA, Nat.lt_irrefl, Option.toList_some, Option.toList_none, List.cons_append, List.nil_append, true_and, and_true, Nat.reduceAdd, Nat.reduceLeDiff, not_true_eq_false, not_false_eq_true, if_true, if_false, ite_true, ite_false, Int32.reduceLT, ite_not, eq_self, or_true, true_or, ite_self, reduceIte, B_L_law_J75, e6]
  exact hn w2 hI2
theorem c_fires (hI : INV w) (hk : k + 6 ≤ L) (hL : L ≤ 3072) (hn : ∀ w2, INV w2 → Wp (m_L_law L xs) (d + 20) b Q 23 [.ref 999, .ref 0, .ref 59, .ref 73, .int (nI (k + 6)), v5, v6] [] w2) : B_L_law_J34 L xs (d + 20) b Q [.ref 999, .ref 0, .ref 59, .ref 73, .int (nI k), v5, v6] [] w := by
  obtain ⟨T, D, F, hI⟩ := hI
  have h1 : k + 1 < L := by omega
  have h2 : k + 2 < L := by omega
  have h3 : k + 3 < L := by omega
  have h4 : k + 4 < L := by omega
  have h5 : k + 5 < L := by omega
  have e5 : nI k + 5 = nI (k + 5) := nI_add k 5
  have e6 : nI k + 6 = nI (k + 6) := nI_add k 6
  simp +decide (disch := omega) only [↓EQA, CEA, LIA, NIA, Nat.lt_irrefl, Option.toList_some, Option.toList_none, List.cons_append, List.nil_append, true_and, and_true, Nat.reduceAdd, Nat.reduceLeDiff, not_true_eq_false, not_false_eq_true, if_true, if_false, ite_true, ite_false, Int32.reduceLT, ite_not, eq_self, or_true, true_or, ite_self, reduceIte, B_L_law_J34, h1, h2, h3, h4, h5, e5]
  refine p_fires hI _ fun x w1 hm => ?_
  simp +decide (disch := omega) only [↓EQA, CEA, LIA, NIA, Nat.lt_irrefl, Option.toList_some, Option.toList_none, List.cons_append, List.nil_append, true_and, and_true, Nat.reduceAdd, Nat.reduceLeDiff, not_true_eq_false, not_false_eq_true, if_true, if_false, ite_true, ite_false, Int32.reduceLT, ite_not, eq_self, or_true, true_or, ite_self, reduceIte, h1, h2, h3, h4, h5, e5]
  refine hm _ fun w2 hI2 => ?_
  simp +decide (disch := omega) only [↓EQA, CEA, LIA, NIA, Nat.lt_irrefl, Option.toList_some, Option.toList_none, List.cons_append, List.nil_append, true_and, and_true, Nat.reduceAdd, Nat.reduceLeDiff, not_true_eq_false, not_false_eq_true, if_true, if_false, ite_true, ite_false, Int32.reduceLT, ite_not, eq_self, or_true, true_or, ite_self, reduceIte, B_L_law_J75, e6]
  exact hn w2 hI2
theorem c_fireAt (hI : INV w) (hk : k + 6 ≤ L) (hL : L ≤ 3072) (hn : ∀ w2, INV w2 → Wp (m_L_law L xs) (d + 20) b Q 23 [.ref 999, .ref 0, .ref 59, .ref 73, .int (nI (k + 6)), v5, v6] [] w2) : B_L_law_J35 L xs (d + 20) b Q [.ref 999, .ref 0, .ref 59, .ref 73, .int (nI k), v5, v6] [] w := by
  obtain ⟨T, D, F, hI⟩ := hI
  have h1 : k + 1 < L := by omega
  have h2 : k + 2 < L := by omega
  have h3 : k + 3 < L := by omega
  have h4 : k + 4 < L := by omega
  have h5 : k + 5 < L := by omega
  have e5 : nI k + 5 = nI (k + 5) := nI_add k 5
  have e6 : nI k + 6 = nI (k + 6) := nI_add k 6
  simp +decide (disch := omega) only [↓EQA, CEA, LIA, NIA, Nat.lt_irrefl, Option.toList_some, Option.toList_none, List.cons_append, List.nil_append, true_and, and_true, Nat.reduceAdd, Nat.reduceLeDiff, not_true_eq_false, not_false_eq_true, if_true, if_false, ite_true, ite_false, Int32.reduceLT, ite_not, eq_self, or_true, true_or, ite_self, reduceIte, B_L_law_J35, h1, h2, h3, h4, h5, e5]
  refine p_fireAt hI _ fun x w1 hm => ?_
  simp +decide (disch := omega) only [↓EQA, CEA, LIA, NIA, Nat.lt_irrefl, Option.toList_some, Option.toList_none, List.cons_append, List.nil_append, true_and, and_true, Nat.reduceAdd, Nat.reduceLeDiff, not_true_eq_false, not_false_eq_true, if_true, if_false, ite_true, ite_false, Int32.reduceLT, ite_not, eq_self, or_true, true_or, ite_self, reduceIte, h1, h2, h3, h4, h5, e5]
  refine hm _ fun w2 hI2 => ?_
  simp +decide (disch := omega) only [↓EQA, CEA, LIA, NIA, Nat.lt_irrefl, Option.toList_some, Option.toList_none, List.cons_append, List.nil_append, true_and, and_true, Nat.reduceAdd, Nat.reduceLeDiff, not_true_eq_false, not_false_eq_true, if_true, if_false, ite_true, ite_false, Int32.reduceLT, ite_not, eq_self, or_true, true_or, ite_self, reduceIte, B_L_law_J75, e6]
  exact hn w2 hI2
theorem c_could (hI : INV w) (hk : k + 6 ≤ L) (hL : L ≤ 3072) (hn : ∀ w2, INV w2 → Wp (m_L_law L xs) (d + 20) b Q 23 [.ref 999, .ref 0, .ref 59, .ref 73, .int (nI (k + 6)), v5, v6] [] w2) : B_L_law_J36 L xs (d + 20) b Q [.ref 999, .ref 0, .ref 59, .ref 73, .int (nI k), v5, v6] [] w := by
  obtain ⟨T, D, F, hI⟩ := hI
  have h1 : k + 1 < L := by omega
  have h2 : k + 2 < L := by omega
  have h3 : k + 3 < L := by omega
  have h4 : k + 4 < L := by omega
  have h5 : k + 5 < L := by omega
  have e5 : nI k + 5 = nI (k + 5) := nI_add k 5
  have e6 : nI k + 6 = nI (k + 6) := nI_add k 6
  simp +decide (disch := omega) only [↓EQA, CEA, LIA, NIA, Nat.lt_irrefl, Option.toList_some, Option.toList_none, List.cons_append, List.nil_append, true_and, and_true, Nat.reduceAdd, Nat.reduceLeDiff, not_true_eq_false, not_false_eq_true, if_true, if_false, ite_true, ite_false, Int32.reduceLT, ite_not, eq_self, or_true, true_or, ite_self, reduceIte, B_L_law_J36, h1, h2, h3, h4, h5, e5]
  refine p_could hI _ fun x w1 hm => ?_
  simp +decide (disch := omega) only [↓EQA, CEA, LIA, NIA, Nat.lt_irrefl, Option.toList_some, Option.toList_none, List.cons_append, List.nil_append, true_and, and_true, Nat.reduceAdd, Nat.reduceLeDiff, not_true_eq_false, not_false_eq_true, if_true, if_false, ite_true, ite_false, Int32.reduceLT, ite_not, eq_self, or_true, true_or, ite_self, reduceIte, h1, h2, h3, h4, h5, e5]
  refine hm _ fun w2 hI2 => ?_
  simp +decide (disch := omega) only [↓EQA, CEA, LIA, NIA, Nat.lt_irrefl, Option.toList_some, Option.toList_none, List.cons_append, List.nil_append, true_and, and_true, Nat.reduceAdd, Nat.reduceLeDiff, not_true_eq_false, not_false_eq_true, if_true, if_false, ite_true, ite_false, Int32.reduceLT, ite_not, eq_self, or_true, true_or, ite_self, reduceIte, B_L_law_J75, e6]
  exact hn w2 hI2
theorem c_surely (hI : INV w) (hk : k + 6 ≤ L) (hL : L ≤ 3072) (hn : ∀ w2, INV w2 → Wp (m_L_law L xs) (d + 20) b Q 23 [.ref 999, .ref 0, .ref 59, .ref 73, .int (nI (k + 6)), v5, v6] [] w2) : B_L_law_J37 L xs (d + 20) b Q [.ref 999, .ref 0, .ref 59, .ref 73, .int (nI k), v5, v6] [] w := by
  obtain ⟨T, D, F, hI⟩ := hI
  have h1 : k + 1 < L := by omega
  have h2 : k + 2 < L := by omega
  have h3 : k + 3 < L := by omega
  have h4 : k + 4 < L := by omega
  have h5 : k + 5 < L := by omega
  have e5 : nI k + 5 = nI (k + 5) := nI_add k 5
  have e6 : nI k + 6 = nI (k + 6) := nI_add k 6
  simp +decide (disch := omega) only [↓EQA, CEA, LIA, NIA, Nat.lt_irrefl, Option.toList_some, Option.toList_none, List.cons_append, List.nil_append, true_and, and_true, Nat.reduceAdd, Nat.reduceLeDiff, not_true_eq_false, not_false_eq_true, if_true, if_false, ite_true, ite_false, Int32.reduceLT, ite_not, eq_self, or_true, true_or, ite_self, reduceIte, B_L_law_J37, h1, h2, h3, h4, h5, e5]
  refine p_surely hI _ fun x w1 hm => ?_
  simp +decide (disch := omega) only [↓EQA, CEA, LIA, NIA, Nat.lt_irrefl, Option.toList_some, Option.toList_none, List.cons_append, List.nil_append, true_and, and_true, Nat.reduceAdd, Nat.reduceLeDiff, not_true_eq_false, not_false_eq_true, if_true, if_false, ite_true, ite_false, Int32.reduceLT, ite_not, eq_self, or_true, true_or, ite_self, reduceIte, h1, h2, h3, h4, h5, e5]
  refine hm _ fun w2 hI2 => ?_
  simp +decide (disch := omega) only [↓EQA, CEA, LIA, NIA, Nat.lt_irrefl, Option.toList_some, Option.toList_none, List.cons_append, List.nil_append, true_and, and_true, Nat.reduceAdd, Nat.reduceLeDiff, not_true_eq_false, not_false_eq_true, if_true, if_false, ite_true, ite_false, Int32.reduceLT, ite_not, eq_self, or_true, true_or, ite_self, reduceIte, B_L_law_J75, e6]
  exact hn w2 hI2
theorem c_ask (hI : INV w) (hk : k + 6 ≤ L) (hL : L ≤ 3072) (hn : ∀ w2, INV w2 → Wp (m_L_law L xs) (d + 20) b Q 23 [.ref 999, .ref 0, .ref 59, .ref 73, .int (nI (k + 6)), v5, v6] [] w2) : B_L_law_J38 L xs (d + 20) b Q [.ref 999, .ref 0, .ref 59, .ref 73, .int (nI k), v5, v6] [] w := by
  obtain ⟨T, D, F, hI⟩ := hI
  have h1 : k + 1 < L := by omega
  have h2 : k + 2 < L := by omega
  have h3 : k + 3 < L := by omega
  have h4 : k + 4 < L := by omega
  have h5 : k + 5 < L := by omega
  have e5 : nI k + 5 = nI (k + 5) := nI_add k 5
  have e6 : nI k + 6 = nI (k + 6) := nI_add k 6
  simp +decide (disch := omega) only [↓EQA, CEA, LIA, NIA, Nat.lt_irrefl, Option.toList_some, Option.toList_none, List.cons_append, List.nil_append, true_and, and_true, Nat.reduceAdd, Nat.reduceLeDiff, not_true_eq_false, not_false_eq_true, if_true, if_false, ite_true, ite_false, Int32.reduceLT, ite_not, eq_self, or_true, true_or, ite_self, reduceIte, B_L_law_J38, h1, h2, h3, h4, h5, e5]
  refine p_ask hI _ fun x w1 hm => ?_
  simp +decide (disch := omega) only [↓EQA, CEA, LIA, NIA, Nat.lt_irrefl, Option.toList_some, Option.toList_none, List.cons_append, List.nil_append, true_and, and_true, Nat.reduceAdd, Nat.reduceLeDiff, not_true_eq_false, not_false_eq_true, if_true, if_false, ite_true, ite_false, Int32.reduceLT, ite_not, eq_self, or_true, true_or, ite_self, reduceIte, h1, h2, h3, h4, h5, e5]
  refine hm _ fun w2 hI2 => ?_
  simp +decide (disch := omega) only [↓EQA, CEA, LIA, NIA, Nat.lt_irrefl, Option.toList_some, Option.toList_none, List.cons_append, List.nil_append, true_and, and_true, Nat.reduceAdd, Nat.reduceLeDiff, not_true_eq_false, not_false_eq_true, if_true, if_false, ite_true, ite_false, Int32.reduceLT, ite_not, eq_self, or_true, true_or, ite_self, reduceIte, B_L_law_J75, e6]
  exact hn w2 hI2
theorem c_askLeaves (hI : INV w) (hk : k + 6 ≤ L) (hL : L ≤ 3072) (hn : ∀ w2, INV w2 → Wp (m_L_law L xs) (d + 20) b Q 23 [.ref 999, .ref 0, .ref 59, .ref 73, .int (nI (k + 6)), v5, v6] [] w2) : B_L_law_J39 L xs (d + 20) b Q [.ref 999, .ref 0, .ref 59, .ref 73, .int (nI k), v5, v6] [] w := by
  obtain ⟨T, D, F, hI⟩ := hI
  have h1 : k + 1 < L := by omega
  have h2 : k + 2 < L := by omega
  have h3 : k + 3 < L := by omega
  have h4 : k + 4 < L := by omega
  have h5 : k + 5 < L := by omega
  have e5 : nI k + 5 = nI (k + 5) := nI_add k 5
  have e6 : nI k + 6 = nI (k + 6) := nI_add k 6
  simp +decide (disch := omega) only [↓EQA, CEA, LIA, NIA, Nat.lt_irrefl, Option.toList_some, Option.toList_none, List.cons_append, List.nil_append, true_and, and_true, Nat.reduceAdd, Nat.reduceLeDiff, not_true_eq_false, not_false_eq_true, if_true, if_false, ite_true, ite_false, Int32.reduceLT, ite_not, eq_self, or_true, true_or, ite_self, reduceIte, B_L_law_J39, h1, h2, h3, h4, h5, e5]
  refine p_askLeaves hI _ fun x w1 hm => ?_
  simp +decide (disch := omega) only [↓EQA, CEA, LIA, NIA, Nat.lt_irrefl, Option.toList_some, Option.toList_none, List.cons_append, List.nil_append, true_and, and_true, Nat.reduceAdd, Nat.reduceLeDiff, not_true_eq_false, not_false_eq_true, if_true, if_false, ite_true, ite_false, Int32.reduceLT, ite_not, eq_self, or_true, true_or, ite_self, reduceIte, h1, h2, h3, h4, h5, e5]
  refine hm _ fun w2 hI2 => ?_
  simp +decide (disch := omega) only [↓EQA, CEA, LIA, NIA, Nat.lt_irrefl, Option.toList_some, Option.toList_none, List.cons_append, List.nil_append, true_and, and_true, Nat.reduceAdd, Nat.reduceLeDiff, not_true_eq_false, not_false_eq_true, if_true, if_false, ite_true, ite_false, Int32.reduceLT, ite_not, eq_self, or_true, true_or, ite_self, reduceIte, B_L_law_J75, e6]
  exact hn w2 hI2
theorem c_judge (hI : INV w) (hk : k + 6 ≤ L) (hL : L ≤ 3072) (hn : ∀ w2, INV w2 → Wp (m_L_law L xs) (d + 20) b Q 23 [.ref 999, .ref 0, .ref 59, .ref 73, .int (nI (k + 6)), v5, v6] [] w2) : B_L_law_J40 L xs (d + 20) b Q [.ref 999, .ref 0, .ref 59, .ref 73, .int (nI k), v5, v6] [] w := by
  obtain ⟨T, D, F, hI⟩ := hI
  have h1 : k + 1 < L := by omega
  have h2 : k + 2 < L := by omega
  have h3 : k + 3 < L := by omega
  have h4 : k + 4 < L := by omega
  have h5 : k + 5 < L := by omega
  have e5 : nI k + 5 = nI (k + 5) := nI_add k 5
  have e6 : nI k + 6 = nI (k + 6) := nI_add k 6
  simp +decide (disch := omega) only [↓EQA, CEA, LIA, NIA, Nat.lt_irrefl, Option.toList_some, Option.toList_none, List.cons_append, List.nil_append, true_and, and_true, Nat.reduceAdd, Nat.reduceLeDiff, not_true_eq_false, not_false_eq_true, if_true, if_false, ite_true, ite_false, Int32.reduceLT, ite_not, eq_self, or_true, true_or, ite_self, reduceIte, B_L_law_J40, h1, h2, h3, h4, h5, e5]
  refine p_judge hI _ fun x w1 hm => ?_
  simp +decide (disch := omega) only [↓EQA, CEA, LIA, NIA, Nat.lt_irrefl, Option.toList_some, Option.toList_none, List.cons_append, List.nil_append, true_and, and_true, Nat.reduceAdd, Nat.reduceLeDiff, not_true_eq_false, not_false_eq_true, if_true, if_false, ite_true, ite_false, Int32.reduceLT, ite_not, eq_self, or_true, true_or, ite_self, reduceIte, h1, h2, h3, h4, h5, e5]
  refine hm _ fun w2 hI2 => ?_
  simp +decide (disch := omega) only [↓EQA, CEA, LIA, NIA, Nat.lt_irrefl, Option.toList_some, Option.toList_none, List.cons_append, List.nil_append, true_and, and_true, Nat.reduceAdd, Nat.reduceLeDiff, not_true_eq_false, not_false_eq_true, if_true, if_false, ite_true, ite_false, Int32.reduceLT, ite_not, eq_self, or_true, true_or, ite_self, reduceIte, B_L_law_J75, e6]
  exact hn w2 hI2
theorem c_odds (hI : INV w) (hk : k + 6 ≤ L) (hL : L ≤ 3072) (hn : ∀ w2, INV w2 → Wp (m_L_law L xs) (d + 20) b Q 23 [.ref 999, .ref 0, .ref 59, .ref 73, .int (nI (k + 6)), v5, v6] [] w2) : B_L_law_J41 L xs (d + 20) b Q [.ref 999, .ref 0, .ref 59, .ref 73, .int (nI k), v5, v6] [] w := by
  obtain ⟨T, D, F, hI⟩ := hI
  have h1 : k + 1 < L := by omega
  have h2 : k + 2 < L := by omega
  have h3 : k + 3 < L := by omega
  have h4 : k + 4 < L := by omega
  have h5 : k + 5 < L := by omega
  have e5 : nI k + 5 = nI (k + 5) := nI_add k 5
  have e6 : nI k + 6 = nI (k + 6) := nI_add k 6
  by_cases q3 : xs (k + 3) = 0
  · simp +decide (disch := omega) only [↓EQA, CEA, LIA, NIA, Nat.lt_irrefl, Option.toList_some, Option.toList_none, List.cons_append, List.nil_append, true_and, and_true, Nat.reduceAdd, Nat.reduceLeDiff, not_true_eq_false, not_false_eq_true, if_true, if_false, ite_true, ite_false, Int32.reduceLT, ite_not, eq_self, or_true, true_or, ite_self, reduceIte, B_L_law_J41, B_L_law_J42, B_L_law_J43, h1, h2, h3, h4, h5, e5, q3]
    refine p_odds (b := false) hI _ fun x w1 hm => ?_
    simp +decide (disch := omega) only [↓EQA, CEA, LIA, NIA, Nat.lt_irrefl, Option.toList_some, Option.toList_none, List.cons_append, List.nil_append, true_and, and_true, Nat.reduceAdd, Nat.reduceLeDiff, not_true_eq_false, not_false_eq_true, if_true, if_false, ite_true, ite_false, Int32.reduceLT, ite_not, eq_self, or_true, true_or, ite_self, reduceIte, B_L_law_J41, B_L_law_J42, B_L_law_J43, h1, h2, h3, h4, h5, e5, q3]
    refine hm _ fun w2 hI2 => ?_
    simp +decide (disch := omega) only [↓EQA, CEA, LIA, NIA, Nat.lt_irrefl, Option.toList_some, Option.toList_none, List.cons_append, List.nil_append, true_and, and_true, Nat.reduceAdd, Nat.reduceLeDiff, not_true_eq_false, not_false_eq_true, if_true, if_false, ite_true, ite_false, Int32.reduceLT, ite_not, eq_self, or_true, true_or, ite_self, reduceIte, lg_same, B_L_law_J75, e6]
    exact hn w2 hI2
  · simp +decide (disch := omega) only [↓EQA, CEA, LIA, NIA, Nat.lt_irrefl, Option.toList_some, Option.toList_none, List.cons_append, List.nil_append, true_and, and_true, Nat.reduceAdd, Nat.reduceLeDiff, not_true_eq_false, not_false_eq_true, if_true, if_false, ite_true, ite_false, Int32.reduceLT, ite_not, eq_self, or_true, true_or, ite_self, reduceIte, B_L_law_J41, B_L_law_J42, B_L_law_J43, h1, h2, h3, h4, h5, e5, q3]
    refine p_odds (b := true) hI _ fun x w1 hm => ?_
    simp +decide (disch := omega) only [↓EQA, CEA, LIA, NIA, Nat.lt_irrefl, Option.toList_some, Option.toList_none, List.cons_append, List.nil_append, true_and, and_true, Nat.reduceAdd, Nat.reduceLeDiff, not_true_eq_false, not_false_eq_true, if_true, if_false, ite_true, ite_false, Int32.reduceLT, ite_not, eq_self, or_true, true_or, ite_self, reduceIte, B_L_law_J41, B_L_law_J42, B_L_law_J43, h1, h2, h3, h4, h5, e5, q3]
    refine hm _ fun w2 hI2 => ?_
    simp +decide (disch := omega) only [↓EQA, CEA, LIA, NIA, Nat.lt_irrefl, Option.toList_some, Option.toList_none, List.cons_append, List.nil_append, true_and, and_true, Nat.reduceAdd, Nat.reduceLeDiff, not_true_eq_false, not_false_eq_true, if_true, if_false, ite_true, ite_false, Int32.reduceLT, ite_not, eq_self, or_true, true_or, ite_self, reduceIte, lg_same, B_L_law_J75, e6]
    exact hn w2 hI2
theorem c_mean (hI : INV w) (hk : k + 6 ≤ L) (hL : L ≤ 3072) (hn : ∀ w2, INV w2 → Wp (m_L_law L xs) (d + 20) b Q 23 [.ref 999, .ref 0, .ref 59, .ref 73, .int (nI (k + 6)), v5, v6] [] w2) : B_L_law_J44 L xs (d + 20) b Q [.ref 999, .ref 0, .ref 59, .ref 73, .int (nI k), v5, v6] [] w := by
  obtain ⟨T, D, F, hI⟩ := hI
  have h1 : k + 1 < L := by omega
  have h2 : k + 2 < L := by omega
  have h3 : k + 3 < L := by omega
  have h4 : k + 4 < L := by omega
  have h5 : k + 5 < L := by omega
  have e5 : nI k + 5 = nI (k + 5) := nI_add k 5
  have e6 : nI k + 6 = nI (k + 6) := nI_add k 6
  by_cases q2 : xs (k + 2) = 0
  · simp +decide (disch := omega) only [↓EQA, CEA, LIA, NIA, Nat.lt_irrefl, Option.toList_some, Option.toList_none, List.cons_append, List.nil_append, true_and, and_true, Nat.reduceAdd, Nat.reduceLeDiff, not_true_eq_false, not_false_eq_true, if_true, if_false, ite_true, ite_false, Int32.reduceLT, ite_not, eq_self, or_true, true_or, ite_self, reduceIte, B_L_law_J44, B_L_law_J45, B_L_law_J46, h1, h2, h3, h4, h5, e5, q2]
    refine p_mean (b := false) hI _ fun x w1 hm => ?_
    simp +decide (disch := omega) only [↓EQA, CEA, LIA, NIA, Nat.lt_irrefl, Option.toList_some, Option.toList_none, List.cons_append, List.nil_append, true_and, and_true, Nat.reduceAdd, Nat.reduceLeDiff, not_true_eq_false, not_false_eq_true, if_true, if_false, ite_true, ite_false, Int32.reduceLT, ite_not, eq_self, or_true, true_or, ite_self, reduceIte, B_L_law_J44, B_L_law_J45, B_L_law_J46, h1, h2, h3, h4, h5, e5, q2]
    refine hm _ fun w2 hI2 => ?_
    simp +decide (disch := omega) only [↓EQA, CEA, LIA, NIA, Nat.lt_irrefl, Option.toList_some, Option.toList_none, List.cons_append, List.nil_append, true_and, and_true, Nat.reduceAdd, Nat.reduceLeDiff, not_true_eq_false, not_false_eq_true, if_true, if_false, ite_true, ite_false, Int32.reduceLT, ite_not, eq_self, or_true, true_or, ite_self, reduceIte, lg_same, B_L_law_J75, e6]
    exact hn w2 hI2
  · simp +decide (disch := omega) only [↓EQA, CEA, LIA, NIA, Nat.lt_irrefl, Option.toList_some, Option.toList_none, List.cons_append, List.nil_append, true_and, and_true, Nat.reduceAdd, Nat.reduceLeDiff, not_true_eq_false, not_false_eq_true, if_true, if_false, ite_true, ite_false, Int32.reduceLT, ite_not, eq_self, or_true, true_or, ite_self, reduceIte, B_L_law_J44, B_L_law_J45, B_L_law_J46, h1, h2, h3, h4, h5, e5, q2]
    refine p_mean (b := true) hI _ fun x w1 hm => ?_
    simp +decide (disch := omega) only [↓EQA, CEA, LIA, NIA, Nat.lt_irrefl, Option.toList_some, Option.toList_none, List.cons_append, List.nil_append, true_and, and_true, Nat.reduceAdd, Nat.reduceLeDiff, not_true_eq_false, not_false_eq_true, if_true, if_false, ite_true, ite_false, Int32.reduceLT, ite_not, eq_self, or_true, true_or, ite_self, reduceIte, B_L_law_J44, B_L_law_J45, B_L_law_J46, h1, h2, h3, h4, h5, e5, q2]
    refine hm _ fun w2 hI2 => ?_
    simp +decide (disch := omega) only [↓EQA, CEA, LIA, NIA, Nat.lt_irrefl, Option.toList_some, Option.toList_none, List.cons_append, List.nil_append, true_and, and_true, Nat.reduceAdd, Nat.reduceLeDiff, not_true_eq_false, not_false_eq_true, if_true, if_false, ite_true, ite_false, Int32.reduceLT, ite_not, eq_self, or_true, true_or, ite_self, reduceIte, lg_same, B_L_law_J75, e6]
    exact hn w2 hI2
theorem c_hopes (hI : INV w) (hk : k + 6 ≤ L) (hL : L ≤ 3072) (hn : ∀ w2, INV w2 → Wp (m_L_law L xs) (d + 20) b Q 23 [.ref 999, .ref 0, .ref 59, .ref 73, .int (nI (k + 6)), v5, v6] [] w2) : B_L_law_J47 L xs (d + 20) b Q [.ref 999, .ref 0, .ref 59, .ref 73, .int (nI k), v5, v6] [] w := by
  obtain ⟨T, D, F, hI⟩ := hI
  have h1 : k + 1 < L := by omega
  have h2 : k + 2 < L := by omega
  have h3 : k + 3 < L := by omega
  have h4 : k + 4 < L := by omega
  have h5 : k + 5 < L := by omega
  have e5 : nI k + 5 = nI (k + 5) := nI_add k 5
  have e6 : nI k + 6 = nI (k + 6) := nI_add k 6
  by_cases q2 : xs (k + 2) = 0
  · simp +decide (disch := omega) only [↓EQA, CEA, LIA, NIA, Nat.lt_irrefl, Option.toList_some, Option.toList_none, List.cons_append, List.nil_append, true_and, and_true, Nat.reduceAdd, Nat.reduceLeDiff, not_true_eq_false, not_false_eq_true, if_true, if_false, ite_true, ite_false, Int32.reduceLT, ite_not, eq_self, or_true, true_or, ite_self, reduceIte, B_L_law_J47, B_L_law_J48, B_L_law_J49, h1, h2, h3, h4, h5, e5, q2]
    refine p_hopes (b := false) hI _ fun x w1 hm => ?_
    simp +decide (disch := omega) only [↓EQA, CEA, LIA, NIA, Nat.lt_irrefl, Option.toList_some, Option.toList_none, List.cons_append, List.nil_append, true_and, and_true, Nat.reduceAdd, Nat.reduceLeDiff, not_true_eq_false, not_false_eq_true, if_true, if_false, ite_true, ite_false, Int32.reduceLT, ite_not, eq_self, or_true, true_or, ite_self, reduceIte, B_L_law_J47, B_L_law_J48, B_L_law_J49, h1, h2, h3, h4, h5, e5, q2]
    refine hm _ fun w2 hI2 => ?_
    simp +decide (disch := omega) only [↓EQA, CEA, LIA, NIA, Nat.lt_irrefl, Option.toList_some, Option.toList_none, List.cons_append, List.nil_append, true_and, and_true, Nat.reduceAdd, Nat.reduceLeDiff, not_true_eq_false, not_false_eq_true, if_true, if_false, ite_true, ite_false, Int32.reduceLT, ite_not, eq_self, or_true, true_or, ite_self, reduceIte, lg_same, B_L_law_J75, e6]
    exact hn w2 hI2
  · simp +decide (disch := omega) only [↓EQA, CEA, LIA, NIA, Nat.lt_irrefl, Option.toList_some, Option.toList_none, List.cons_append, List.nil_append, true_and, and_true, Nat.reduceAdd, Nat.reduceLeDiff, not_true_eq_false, not_false_eq_true, if_true, if_false, ite_true, ite_false, Int32.reduceLT, ite_not, eq_self, or_true, true_or, ite_self, reduceIte, B_L_law_J47, B_L_law_J48, B_L_law_J49, h1, h2, h3, h4, h5, e5, q2]
    refine p_hopes (b := true) hI _ fun x w1 hm => ?_
    simp +decide (disch := omega) only [↓EQA, CEA, LIA, NIA, Nat.lt_irrefl, Option.toList_some, Option.toList_none, List.cons_append, List.nil_append, true_and, and_true, Nat.reduceAdd, Nat.reduceLeDiff, not_true_eq_false, not_false_eq_true, if_true, if_false, ite_true, ite_false, Int32.reduceLT, ite_not, eq_self, or_true, true_or, ite_self, reduceIte, B_L_law_J47, B_L_law_J48, B_L_law_J49, h1, h2, h3, h4, h5, e5, q2]
    refine hm _ fun w2 hI2 => ?_
    simp +decide (disch := omega) only [↓EQA, CEA, LIA, NIA, Nat.lt_irrefl, Option.toList_some, Option.toList_none, List.cons_append, List.nil_append, true_and, and_true, Nat.reduceAdd, Nat.reduceLeDiff, not_true_eq_false, not_false_eq_true, if_true, if_false, ite_true, ite_false, Int32.reduceLT, ite_not, eq_self, or_true, true_or, ite_self, reduceIte, lg_same, B_L_law_J75, e6]
    exact hn w2 hI2
theorem c_wins (hI : INV w) (hk : k + 6 ≤ L) (hL : L ≤ 3072) (hn : ∀ w2, INV w2 → Wp (m_L_law L xs) (d + 20) b Q 23 [.ref 999, .ref 0, .ref 59, .ref 73, .int (nI (k + 6)), v5, v6] [] w2) : B_L_law_J50 L xs (d + 20) b Q [.ref 999, .ref 0, .ref 59, .ref 73, .int (nI k), v5, v6] [] w := by
  obtain ⟨T, D, F, hI⟩ := hI
  have h1 : k + 1 < L := by omega
  have h2 : k + 2 < L := by omega
  have h3 : k + 3 < L := by omega
  have h4 : k + 4 < L := by omega
  have h5 : k + 5 < L := by omega
  have e5 : nI k + 5 = nI (k + 5) := nI_add k 5
  have e6 : nI k + 6 = nI (k + 6) := nI_add k 6
  simp +decide (disch := omega) only [↓EQA, CEA, LIA, NIA, Nat.lt_irrefl, Option.toList_some, Option.toList_none, List.cons_append, List.nil_append, true_and, and_true, Nat.reduceAdd, Nat.reduceLeDiff, not_true_eq_false, not_false_eq_true, if_true, if_false, ite_true, ite_false, Int32.reduceLT, ite_not, eq_self, or_true, true_or, ite_self, reduceIte, B_L_law_J50, h1, h2, h3, h4, h5, e5]
  refine p_wins hI _ fun x w1 hm => ?_
  simp +decide (disch := omega) only [↓EQA, CEA, LIA, NIA, Nat.lt_irrefl, Option.toList_some, Option.toList_none, List.cons_append, List.nil_append, true_and, and_true, Nat.reduceAdd, Nat.reduceLeDiff, not_true_eq_false, not_false_eq_true, if_true, if_false, ite_true, ite_false, Int32.reduceLT, ite_not, eq_self, or_true, true_or, ite_self, reduceIte, h1, h2, h3, h4, h5, e5]
  refine hm _ fun w2 hI2 => ?_
  simp +decide (disch := omega) only [↓EQA, CEA, LIA, NIA, Nat.lt_irrefl, Option.toList_some, Option.toList_none, List.cons_append, List.nil_append, true_and, and_true, Nat.reduceAdd, Nat.reduceLeDiff, not_true_eq_false, not_false_eq_true, if_true, if_false, ite_true, ite_false, Int32.reduceLT, ite_not, eq_self, or_true, true_or, ite_self, reduceIte, B_L_law_J75, e6]
  exact hn w2 hI2
theorem c_record (hI : INV w) (hk : k + 6 ≤ L) (hL : L ≤ 3072) (hn : ∀ w2, INV w2 → Wp (m_L_law L xs) (d + 20) b Q 23 [.ref 999, .ref 0, .ref 59, .ref 73, .int (nI (k + 6)), v5, v6] [] w2) : B_L_law_J51 L xs (d + 20) b Q [.ref 999, .ref 0, .ref 59, .ref 73, .int (nI k), v5, v6] [] w := by
  obtain ⟨T, D, F, hI⟩ := hI
  have h1 : k + 1 < L := by omega
  have h2 : k + 2 < L := by omega
  have h3 : k + 3 < L := by omega
  have h4 : k + 4 < L := by omega
  have h5 : k + 5 < L := by omega
  have e5 : nI k + 5 = nI (k + 5) := nI_add k 5
  have e6 : nI k + 6 = nI (k + 6) := nI_add k 6
  simp +decide (disch := omega) only [↓EQA, CEA, LIA, NIA, Nat.lt_irrefl, Option.toList_some, Option.toList_none, List.cons_append, List.nil_append, true_and, and_true, Nat.reduceAdd, Nat.reduceLeDiff, not_true_eq_false, not_false_eq_true, if_true, if_false, ite_true, ite_false, Int32.reduceLT, ite_not, eq_self, or_true, true_or, ite_self, reduceIte, B_L_law_J51, h1, h2, h3, h4, h5, e5]
  refine p_record hI _ fun x w1 hm => ?_
  simp +decide (disch := omega) only [↓EQA, CEA, LIA, NIA, Nat.lt_irrefl, Option.toList_some, Option.toList_none, List.cons_append, List.nil_append, true_and, and_true, Nat.reduceAdd, Nat.reduceLeDiff, not_true_eq_false, not_false_eq_true, if_true, if_false, ite_true, ite_false, Int32.reduceLT, ite_not, eq_self, or_true, true_or, ite_self, reduceIte, h1, h2, h3, h4, h5, e5]
  refine hm _ fun w2 hI2 => ?_
  simp +decide (disch := omega) only [↓EQA, CEA, LIA, NIA, Nat.lt_irrefl, Option.toList_some, Option.toList_none, List.cons_append, List.nil_append, true_and, and_true, Nat.reduceAdd, Nat.reduceLeDiff, not_true_eq_false, not_false_eq_true, if_true, if_false, ite_true, ite_false, Int32.reduceLT, ite_not, eq_self, or_true, true_or, ite_self, reduceIte, B_L_law_J75, e6]
  exact hn w2 hI2
theorem c_weir (hI : INV w) (hk : k + 6 ≤ L) (hL : L ≤ 3072) (hn : ∀ w2, INV w2 → Wp (m_L_law L xs) (d + 20) b Q 23 [.ref 999, .ref 0, .ref 59, .ref 73, .int (nI (k + 6)), v5, v6] [] w2) : B_L_law_J52 L xs (d + 20) b Q [.ref 999, .ref 0, .ref 59, .ref 73, .int (nI k), v5, v6] [] w := by
  obtain ⟨T, D, F, hI⟩ := hI
  have h1 : k + 1 < L := by omega
  have h2 : k + 2 < L := by omega
  have h3 : k + 3 < L := by omega
  have h4 : k + 4 < L := by omega
  have h5 : k + 5 < L := by omega
  have e5 : nI k + 5 = nI (k + 5) := nI_add k 5
  have e6 : nI k + 6 = nI (k + 6) := nI_add k 6
  by_cases q2 : xs (k + 2) = 0
  · by_cases q3 : xs (k + 3) = 0
    · by_cases q4 : xs (k + 4) = 0
      · simp +decide (disch := omega) only [↓EQA, CEA, LIA, NIA, Nat.lt_irrefl, Option.toList_some, Option.toList_none, List.cons_append, List.nil_append, true_and, and_true, Nat.reduceAdd, Nat.reduceLeDiff, not_true_eq_false, not_false_eq_true, if_true, if_false, ite_true, ite_false, Int32.reduceLT, ite_not, eq_self, or_true, true_or, ite_self, reduceIte, B_L_law_J52, B_L_law_J53, B_L_law_J54, B_L_law_J55, B_L_law_J56, B_L_law_J57, B_L_law_J58, h1, h2, h3, h4, h5, e5, q2, q3, q4]
        refine p_weir (b1 := false) (b2 := false) (b3 := false) hI _ fun x w1 hm => ?_
        simp +decide (disch := omega) only [↓EQA, CEA, LIA, NIA, Nat.lt_irrefl, Option.toList_some, Option.toList_none, List.cons_append, List.nil_append, true_and, and_true, Nat.reduceAdd, Nat.reduceLeDiff, not_true_eq_false, not_false_eq_true, if_true, if_false, ite_true, ite_false, Int32.reduceLT, ite_not, eq_self, or_true, true_or, ite_self, reduceIte, B_L_law_J52, B_L_law_J53, B_L_law_J54, B_L_law_J55, B_L_law_J56, B_L_law_J57, B_L_law_J58, h1, h2, h3, h4, h5, e5, q2, q3, q4]
        refine hm _ fun w2 hI2 => ?_
        simp +decide (disch := omega) only [↓EQA, CEA, LIA, NIA, Nat.lt_irrefl, Option.toList_some, Option.toList_none, List.cons_append, List.nil_append, true_and, and_true, Nat.reduceAdd, Nat.reduceLeDiff, not_true_eq_false, not_false_eq_true, if_true, if_false, ite_true, ite_false, Int32.reduceLT, ite_not, eq_self, or_true, true_or, ite_self, reduceIte, B_L_law_J75, e6]
        exact hn w2 hI2
      · simp +decide (disch := omega) only [↓EQA, CEA, LIA, NIA, Nat.lt_irrefl, Option.toList_some, Option.toList_none, List.cons_append, List.nil_append, true_and, and_true, Nat.reduceAdd, Nat.reduceLeDiff, not_true_eq_false, not_false_eq_true, if_true, if_false, ite_true, ite_false, Int32.reduceLT, ite_not, eq_self, or_true, true_or, ite_self, reduceIte, B_L_law_J52, B_L_law_J53, B_L_law_J54, B_L_law_J55, B_L_law_J56, B_L_law_J57, B_L_law_J58, h1, h2, h3, h4, h5, e5, q2, q3, q4]
        refine p_weir (b1 := false) (b2 := false) (b3 := true) hI _ fun x w1 hm => ?_
        simp +decide (disch := omega) only [↓EQA, CEA, LIA, NIA, Nat.lt_irrefl, Option.toList_some, Option.toList_none, List.cons_append, List.nil_append, true_and, and_true, Nat.reduceAdd, Nat.reduceLeDiff, not_true_eq_false, not_false_eq_true, if_true, if_false, ite_true, ite_false, Int32.reduceLT, ite_not, eq_self, or_true, true_or, ite_self, reduceIte, B_L_law_J52, B_L_law_J53, B_L_law_J54, B_L_law_J55, B_L_law_J56, B_L_law_J57, B_L_law_J58, h1, h2, h3, h4, h5, e5, q2, q3, q4]
        refine hm _ fun w2 hI2 => ?_
        simp +decide (disch := omega) only [↓EQA, CEA, LIA, NIA, Nat.lt_irrefl, Option.toList_some, Option.toList_none, List.cons_append, List.nil_append, true_and, and_true, Nat.reduceAdd, Nat.reduceLeDiff, not_true_eq_false, not_false_eq_true, if_true, if_false, ite_true, ite_false, Int32.reduceLT, ite_not, eq_self, or_true, true_or, ite_self, reduceIte, B_L_law_J75, e6]
        exact hn w2 hI2
    · by_cases q4 : xs (k + 4) = 0
      · simp +decide (disch := omega) only [↓EQA, CEA, LIA, NIA, Nat.lt_irrefl, Option.toList_some, Option.toList_none, List.cons_append, List.nil_append, true_and, and_true, Nat.reduceAdd, Nat.reduceLeDiff, not_true_eq_false, not_false_eq_true, if_true, if_false, ite_true, ite_false, Int32.reduceLT, ite_not, eq_self, or_true, true_or, ite_self, reduceIte, B_L_law_J52, B_L_law_J53, B_L_law_J54, B_L_law_J55, B_L_law_J56, B_L_law_J57, B_L_law_J58, h1, h2, h3, h4, h5, e5, q2, q3, q4]
        refine p_weir (b1 := false) (b2 := true) (b3 := false) hI _ fun x w1 hm => ?_
        simp +decide (disch := omega) only [↓EQA, CEA, LIA, NIA, Nat.lt_irrefl, Option.toList_some, Option.toList_none, List.cons_append, List.nil_append, true_and, and_true, Nat.reduceAdd, Nat.reduceLeDiff, not_true_eq_false, not_false_eq_true, if_true, if_false, ite_true, ite_false, Int32.reduceLT, ite_not, eq_self, or_true, true_or, ite_self, reduceIte, B_L_law_J52, B_L_law_J53, B_L_law_J54, B_L_law_J55, B_L_law_J56, B_L_law_J57, B_L_law_J58, h1, h2, h3, h4, h5, e5, q2, q3, q4]
        refine hm _ fun w2 hI2 => ?_
        simp +decide (disch := omega) only [↓EQA, CEA, LIA, NIA, Nat.lt_irrefl, Option.toList_some, Option.toList_none, List.cons_append, List.nil_append, true_and, and_true, Nat.reduceAdd, Nat.reduceLeDiff, not_true_eq_false, not_false_eq_true, if_true, if_false, ite_true, ite_false, Int32.reduceLT, ite_not, eq_self, or_true, true_or, ite_self, reduceIte, B_L_law_J75, e6]
        exact hn w2 hI2
      · simp +decide (disch := omega) only [↓EQA, CEA, LIA, NIA, Nat.lt_irrefl, Option.toList_some, Option.toList_none, List.cons_append, List.nil_append, true_and, and_true, Nat.reduceAdd, Nat.reduceLeDiff, not_true_eq_false, not_false_eq_true, if_true, if_false, ite_true, ite_false, Int32.reduceLT, ite_not, eq_self, or_true, true_or, ite_self, reduceIte, B_L_law_J52, B_L_law_J53, B_L_law_J54, B_L_law_J55, B_L_law_J56, B_L_law_J57, B_L_law_J58, h1, h2, h3, h4, h5, e5, q2, q3, q4]
        refine p_weir (b1 := false) (b2 := true) (b3 := true) hI _ fun x w1 hm => ?_
        simp +decide (disch := omega) only [↓EQA, CEA, LIA, NIA, Nat.lt_irrefl, Option.toList_some, Option.toList_none, List.cons_append, List.nil_append, true_and, and_true, Nat.reduceAdd, Nat.reduceLeDiff, not_true_eq_false, not_false_eq_true, if_true, if_false, ite_true, ite_false, Int32.reduceLT, ite_not, eq_self, or_true, true_or, ite_self, reduceIte, B_L_law_J52, B_L_law_J53, B_L_law_J54, B_L_law_J55, B_L_law_J56, B_L_law_J57, B_L_law_J58, h1, h2, h3, h4, h5, e5, q2, q3, q4]
        refine hm _ fun w2 hI2 => ?_
        simp +decide (disch := omega) only [↓EQA, CEA, LIA, NIA, Nat.lt_irrefl, Option.toList_some, Option.toList_none, List.cons_append, List.nil_append, true_and, and_true, Nat.reduceAdd, Nat.reduceLeDiff, not_true_eq_false, not_false_eq_true, if_true, if_false, ite_true, ite_false, Int32.reduceLT, ite_not, eq_self, or_true, true_or, ite_self, reduceIte, B_L_law_J75, e6]
        exact hn w2 hI2
  · by_cases q3 : xs (k + 3) = 0
    · by_cases q4 : xs (k + 4) = 0
      · simp +decide (disch := omega) only [↓EQA, CEA, LIA, NIA, Nat.lt_irrefl, Option.toList_some, Option.toList_none, List.cons_append, List.nil_append, true_and, and_true, Nat.reduceAdd, Nat.reduceLeDiff, not_true_eq_false, not_false_eq_true, if_true, if_false, ite_true, ite_false, Int32.reduceLT, ite_not, eq_self, or_true, true_or, ite_self, reduceIte, B_L_law_J52, B_L_law_J53, B_L_law_J54, B_L_law_J55, B_L_law_J56, B_L_law_J57, B_L_law_J58, h1, h2, h3, h4, h5, e5, q2, q3, q4]
        refine p_weir (b1 := true) (b2 := false) (b3 := false) hI _ fun x w1 hm => ?_
        simp +decide (disch := omega) only [↓EQA, CEA, LIA, NIA, Nat.lt_irrefl, Option.toList_some, Option.toList_none, List.cons_append, List.nil_append, true_and, and_true, Nat.reduceAdd, Nat.reduceLeDiff, not_true_eq_false, not_false_eq_true, if_true, if_false, ite_true, ite_false, Int32.reduceLT, ite_not, eq_self, or_true, true_or, ite_self, reduceIte, B_L_law_J52, B_L_law_J53, B_L_law_J54, B_L_law_J55, B_L_law_J56, B_L_law_J57, B_L_law_J58, h1, h2, h3, h4, h5, e5, q2, q3, q4]
        refine hm _ fun w2 hI2 => ?_
        simp +decide (disch := omega) only [↓EQA, CEA, LIA, NIA, Nat.lt_irrefl, Option.toList_some, Option.toList_none, List.cons_append, List.nil_append, true_and, and_true, Nat.reduceAdd, Nat.reduceLeDiff, not_true_eq_false, not_false_eq_true, if_true, if_false, ite_true, ite_false, Int32.reduceLT, ite_not, eq_self, or_true, true_or, ite_self, reduceIte, B_L_law_J75, e6]
        exact hn w2 hI2
      · simp +decide (disch := omega) only [↓EQA, CEA, LIA, NIA, Nat.lt_irrefl, Option.toList_some, Option.toList_none, List.cons_append, List.nil_append, true_and, and_true, Nat.reduceAdd, Nat.reduceLeDiff, not_true_eq_false, not_false_eq_true, if_true, if_false, ite_true, ite_false, Int32.reduceLT, ite_not, eq_self, or_true, true_or, ite_self, reduceIte, B_L_law_J52, B_L_law_J53, B_L_law_J54, B_L_law_J55, B_L_law_J56, B_L_law_J57, B_L_law_J58, h1, h2, h3, h4, h5, e5, q2, q3, q4]
        refine p_weir (b1 := true) (b2 := false) (b3 := true) hI _ fun x w1 hm => ?_
        simp +decide (disch := omega) only [↓EQA, CEA, LIA, NIA, Nat.lt_irrefl, Option.toList_some, Option.toList_none, List.cons_append, List.nil_append, true_and, and_true, Nat.reduceAdd, Nat.reduceLeDiff, not_true_eq_false, not_false_eq_true, if_true, if_false, ite_true, ite_false, Int32.reduceLT, ite_not, eq_self, or_true, true_or, ite_self, reduceIte, B_L_law_J52, B_L_law_J53, B_L_law_J54, B_L_law_J55, B_L_law_J56, B_L_law_J57, B_L_law_J58, h1, h2, h3, h4, h5, e5, q2, q3, q4]
        refine hm _ fun w2 hI2 => ?_
        simp +decide (disch := omega) only [↓EQA, CEA, LIA, NIA, Nat.lt_irrefl, Option.toList_some, Option.toList_none, List.cons_append, List.nil_append, true_and, and_true, Nat.reduceAdd, Nat.reduceLeDiff, not_true_eq_false, not_false_eq_true, if_true, if_false, ite_true, ite_false, Int32.reduceLT, ite_not, eq_self, or_true, true_or, ite_self, reduceIte, B_L_law_J75, e6]
        exact hn w2 hI2
    · by_cases q4 : xs (k + 4) = 0
      · simp +decide (disch := omega) only [↓EQA, CEA, LIA, NIA, Nat.lt_irrefl, Option.toList_some, Option.toList_none, List.cons_append, List.nil_append, true_and, and_true, Nat.reduceAdd, Nat.reduceLeDiff, not_true_eq_false, not_false_eq_true, if_true, if_false, ite_true, ite_false, Int32.reduceLT, ite_not, eq_self, or_true, true_or, ite_self, reduceIte, B_L_law_J52, B_L_law_J53, B_L_law_J54, B_L_law_J55, B_L_law_J56, B_L_law_J57, B_L_law_J58, h1, h2, h3, h4, h5, e5, q2, q3, q4]
        refine p_weir (b1 := true) (b2 := true) (b3 := false) hI _ fun x w1 hm => ?_
        simp +decide (disch := omega) only [↓EQA, CEA, LIA, NIA, Nat.lt_irrefl, Option.toList_some, Option.toList_none, List.cons_append, List.nil_append, true_and, and_true, Nat.reduceAdd, Nat.reduceLeDiff, not_true_eq_false, not_false_eq_true, if_true, if_false, ite_true, ite_false, Int32.reduceLT, ite_not, eq_self, or_true, true_or, ite_self, reduceIte, B_L_law_J52, B_L_law_J53, B_L_law_J54, B_L_law_J55, B_L_law_J56, B_L_law_J57, B_L_law_J58, h1, h2, h3, h4, h5, e5, q2, q3, q4]
        refine hm _ fun w2 hI2 => ?_
        simp +decide (disch := omega) only [↓EQA, CEA, LIA, NIA, Nat.lt_irrefl, Option.toList_some, Option.toList_none, List.cons_append, List.nil_append, true_and, and_true, Nat.reduceAdd, Nat.reduceLeDiff, not_true_eq_false, not_false_eq_true, if_true, if_false, ite_true, ite_false, Int32.reduceLT, ite_not, eq_self, or_true, true_or, ite_self, reduceIte, B_L_law_J75, e6]
        exact hn w2 hI2
      · simp +decide (disch := omega) only [↓EQA, CEA, LIA, NIA, Nat.lt_irrefl, Option.toList_some, Option.toList_none, List.cons_append, List.nil_append, true_and, and_true, Nat.reduceAdd, Nat.reduceLeDiff, not_true_eq_false, not_false_eq_true, if_true, if_false, ite_true, ite_false, Int32.reduceLT, ite_not, eq_self, or_true, true_or, ite_self, reduceIte, B_L_law_J52, B_L_law_J53, B_L_law_J54, B_L_law_J55, B_L_law_J56, B_L_law_J57, B_L_law_J58, h1, h2, h3, h4, h5, e5, q2, q3, q4]
        refine p_weir (b1 := true) (b2 := true) (b3 := true) hI _ fun x w1 hm => ?_
        simp +decide (disch := omega) only [↓EQA, CEA, LIA, NIA, Nat.lt_irrefl, Option.toList_some, Option.toList_none, List.cons_append, List.nil_append, true_and, and_true, Nat.reduceAdd, Nat.reduceLeDiff, not_true_eq_false, not_false_eq_true, if_true, if_false, ite_true, ite_false, Int32.reduceLT, ite_not, eq_self, or_true, true_or, ite_self, reduceIte, B_L_law_J52, B_L_law_J53, B_L_law_J54, B_L_law_J55, B_L_law_J56, B_L_law_J57, B_L_law_J58, h1, h2, h3, h4, h5, e5, q2, q3, q4]
        refine hm _ fun w2 hI2 => ?_
        simp +decide (disch := omega) only [↓EQA, CEA, LIA, NIA, Nat.lt_irrefl, Option.toList_some, Option.toList_none, List.cons_append, List.nil_append, true_and, and_true, Nat.reduceAdd, Nat.reduceLeDiff, not_true_eq_false, not_false_eq_true, if_true, if_false, ite_true, ite_false, Int32.reduceLT, ite_not, eq_self, or_true, true_or, ite_self, reduceIte, B_L_law_J75, e6]
        exact hn w2 hI2
theorem c_rests (hI : INV w) (hk : k + 6 ≤ L) (hL : L ≤ 3072) (hn : ∀ w2, INV w2 → Wp (m_L_law L xs) (d + 20) b Q 23 [.ref 999, .ref 0, .ref 59, .ref 73, .int (nI (k + 6)), v5, v6] [] w2) : B_L_law_J59 L xs (d + 20) b Q [.ref 999, .ref 0, .ref 59, .ref 73, .int (nI k), v5, v6] [] w := by
  obtain ⟨T, D, F, hI⟩ := hI
  have h1 : k + 1 < L := by omega
  have h2 : k + 2 < L := by omega
  have h3 : k + 3 < L := by omega
  have h4 : k + 4 < L := by omega
  have h5 : k + 5 < L := by omega
  have e5 : nI k + 5 = nI (k + 5) := nI_add k 5
  have e6 : nI k + 6 = nI (k + 6) := nI_add k 6
  simp +decide (disch := omega) only [↓EQA, CEA, LIA, NIA, Nat.lt_irrefl, Option.toList_some, Option.toList_none, List.cons_append, List.nil_append, true_and, and_true, Nat.reduceAdd, Nat.reduceLeDiff, not_true_eq_false, not_false_eq_true, if_true, if_false, ite_true, ite_false, Int32.reduceLT, ite_not, eq_self, or_true, true_or, ite_self, reduceIte, B_L_law_J59, h1, h2, h3, h4, h5, e5]
  refine p_rests hI _ fun x w1 hm => ?_
  simp +decide (disch := omega) only [↓EQA, CEA, LIA, NIA, Nat.lt_irrefl, Option.toList_some, Option.toList_none, List.cons_append, List.nil_append, true_and, and_true, Nat.reduceAdd, Nat.reduceLeDiff, not_true_eq_false, not_false_eq_true, if_true, if_false, ite_true, ite_false, Int32.reduceLT, ite_not, eq_self, or_true, true_or, ite_self, reduceIte, h1, h2, h3, h4, h5, e5]
  refine hm _ fun w2 hI2 => ?_
  simp +decide (disch := omega) only [↓EQA, CEA, LIA, NIA, Nat.lt_irrefl, Option.toList_some, Option.toList_none, List.cons_append, List.nil_append, true_and, and_true, Nat.reduceAdd, Nat.reduceLeDiff, not_true_eq_false, not_false_eq_true, if_true, if_false, ite_true, ite_false, Int32.reduceLT, ite_not, eq_self, or_true, true_or, ite_self, reduceIte, B_L_law_J75, e6]
  exact hn w2 hI2
theorem c_rest (hI : INV w) (hk : k + 6 ≤ L) (hL : L ≤ 3072) (hn : ∀ w2, INV w2 → Wp (m_L_law L xs) (d + 20) b Q 23 [.ref 999, .ref 0, .ref 59, .ref 73, .int (nI (k + 6)), v5, v6] [] w2) : B_L_law_J60 L xs (d + 20) b Q [.ref 999, .ref 0, .ref 59, .ref 73, .int (nI k), v5, v6] [] w := by
  obtain ⟨T, D, F, hI⟩ := hI
  have h1 : k + 1 < L := by omega
  have h2 : k + 2 < L := by omega
  have h3 : k + 3 < L := by omega
  have h4 : k + 4 < L := by omega
  have h5 : k + 5 < L := by omega
  have e5 : nI k + 5 = nI (k + 5) := nI_add k 5
  have e6 : nI k + 6 = nI (k + 6) := nI_add k 6
  simp +decide (disch := omega) only [↓EQA, CEA, LIA, NIA, Nat.lt_irrefl, Option.toList_some, Option.toList_none, List.cons_append, List.nil_append, true_and, and_true, Nat.reduceAdd, Nat.reduceLeDiff, not_true_eq_false, not_false_eq_true, if_true, if_false, ite_true, ite_false, Int32.reduceLT, ite_not, eq_self, or_true, true_or, ite_self, reduceIte, B_L_law_J60, h1, h2, h3, h4, h5, e5]
  refine p_rest hI _ fun x w1 hm => ?_
  simp +decide (disch := omega) only [↓EQA, CEA, LIA, NIA, Nat.lt_irrefl, Option.toList_some, Option.toList_none, List.cons_append, List.nil_append, true_and, and_true, Nat.reduceAdd, Nat.reduceLeDiff, not_true_eq_false, not_false_eq_true, if_true, if_false, ite_true, ite_false, Int32.reduceLT, ite_not, eq_self, or_true, true_or, ite_self, reduceIte, h1, h2, h3, h4, h5, e5]
  refine hm _ fun w2 hI2 => ?_
  simp +decide (disch := omega) only [↓EQA, CEA, LIA, NIA, Nat.lt_irrefl, Option.toList_some, Option.toList_none, List.cons_append, List.nil_append, true_and, and_true, Nat.reduceAdd, Nat.reduceLeDiff, not_true_eq_false, not_false_eq_true, if_true, if_false, ite_true, ite_false, Int32.reduceLT, ite_not, eq_self, or_true, true_or, ite_self, reduceIte, B_L_law_J75, e6]
  exact hn w2 hI2
theorem c_board (hI : INV w) (hk : k + 6 ≤ L) (hL : L ≤ 3072) (hn : ∀ w2, INV w2 → Wp (m_L_law L xs) (d + 20) b Q 23 [.ref 999, .ref 0, .ref 59, .ref 73, .int (nI (k + 6)), v5, v6] [] w2) : B_L_law_J61 L xs (d + 20) b Q [.ref 999, .ref 0, .ref 59, .ref 73, .int (nI k), v5, v6] [] w := by
  obtain ⟨T, D, F, hI⟩ := hI
  have h1 : k + 1 < L := by omega
  have h2 : k + 2 < L := by omega
  have h3 : k + 3 < L := by omega
  have h4 : k + 4 < L := by omega
  have h5 : k + 5 < L := by omega
  have e5 : nI k + 5 = nI (k + 5) := nI_add k 5
  have e6 : nI k + 6 = nI (k + 6) := nI_add k 6
  simp +decide (disch := omega) only [↓EQA, CEA, LIA, NIA, Nat.lt_irrefl, Option.toList_some, Option.toList_none, List.cons_append, List.nil_append, true_and, and_true, Nat.reduceAdd, Nat.reduceLeDiff, not_true_eq_false, not_false_eq_true, if_true, if_false, ite_true, ite_false, Int32.reduceLT, ite_not, eq_self, or_true, true_or, ite_self, reduceIte, B_L_law_J61, h1, h2, h3, h4, h5, e5]
  refine p_board hI _ fun x w1 hm => ?_
  simp +decide (disch := omega) only [↓EQA, CEA, LIA, NIA, Nat.lt_irrefl, Option.toList_some, Option.toList_none, List.cons_append, List.nil_append, true_and, and_true, Nat.reduceAdd, Nat.reduceLeDiff, not_true_eq_false, not_false_eq_true, if_true, if_false, ite_true, ite_false, Int32.reduceLT, ite_not, eq_self, or_true, true_or, ite_self, reduceIte, h1, h2, h3, h4, h5, e5]
  refine hm _ fun w2 hI2 => ?_
  simp +decide (disch := omega) only [↓EQA, CEA, LIA, NIA, Nat.lt_irrefl, Option.toList_some, Option.toList_none, List.cons_append, List.nil_append, true_and, and_true, Nat.reduceAdd, Nat.reduceLeDiff, not_true_eq_false, not_false_eq_true, if_true, if_false, ite_true, ite_false, Int32.reduceLT, ite_not, eq_self, or_true, true_or, ite_self, reduceIte, B_L_law_J75, e6]
  exact hn w2 hI2
theorem c_ashore (hI : INV w) (hk : k + 6 ≤ L) (hL : L ≤ 3072) (hn : ∀ w2, INV w2 → Wp (m_L_law L xs) (d + 20) b Q 23 [.ref 999, .ref 0, .ref 59, .ref 73, .int (nI (k + 6)), v5, v6] [] w2) : B_L_law_J62 L xs (d + 20) b Q [.ref 999, .ref 0, .ref 59, .ref 73, .int (nI k), v5, v6] [] w := by
  obtain ⟨T, D, F, hI⟩ := hI
  have h1 : k + 1 < L := by omega
  have h2 : k + 2 < L := by omega
  have h3 : k + 3 < L := by omega
  have h4 : k + 4 < L := by omega
  have h5 : k + 5 < L := by omega
  have e5 : nI k + 5 = nI (k + 5) := nI_add k 5
  have e6 : nI k + 6 = nI (k + 6) := nI_add k 6
  simp +decide (disch := omega) only [↓EQA, CEA, LIA, NIA, Nat.lt_irrefl, Option.toList_some, Option.toList_none, List.cons_append, List.nil_append, true_and, and_true, Nat.reduceAdd, Nat.reduceLeDiff, not_true_eq_false, not_false_eq_true, if_true, if_false, ite_true, ite_false, Int32.reduceLT, ite_not, eq_self, or_true, true_or, ite_self, reduceIte, B_L_law_J62, h1, h2, h3, h4, h5, e5]
  refine p_ashore hI _ fun x w1 hm => ?_
  simp +decide (disch := omega) only [↓EQA, CEA, LIA, NIA, Nat.lt_irrefl, Option.toList_some, Option.toList_none, List.cons_append, List.nil_append, true_and, and_true, Nat.reduceAdd, Nat.reduceLeDiff, not_true_eq_false, not_false_eq_true, if_true, if_false, ite_true, ite_false, Int32.reduceLT, ite_not, eq_self, or_true, true_or, ite_self, reduceIte, h1, h2, h3, h4, h5, e5]
  refine hm _ fun w2 hI2 => ?_
  simp +decide (disch := omega) only [↓EQA, CEA, LIA, NIA, Nat.lt_irrefl, Option.toList_some, Option.toList_none, List.cons_append, List.nil_append, true_and, and_true, Nat.reduceAdd, Nat.reduceLeDiff, not_true_eq_false, not_false_eq_true, if_true, if_false, ite_true, ite_false, Int32.reduceLT, ite_not, eq_self, or_true, true_or, ite_self, reduceIte, B_L_law_J75, e6]
  exact hn w2 hI2
theorem c_light (hI : INV w) (hk : k + 6 ≤ L) (hL : L ≤ 3072) (hn : ∀ w2, INV w2 → Wp (m_L_law L xs) (d + 20) b Q 23 [.ref 999, .ref 0, .ref 59, .ref 73, .int (nI (k + 6)), v5, v6] [] w2) : B_L_law_J63 L xs (d + 20) b Q [.ref 999, .ref 0, .ref 59, .ref 73, .int (nI k), v5, v6] [] w := by
  obtain ⟨T, D, F, hI⟩ := hI
  have h1 : k + 1 < L := by omega
  have h2 : k + 2 < L := by omega
  have h3 : k + 3 < L := by omega
  have h4 : k + 4 < L := by omega
  have h5 : k + 5 < L := by omega
  have e5 : nI k + 5 = nI (k + 5) := nI_add k 5
  have e6 : nI k + 6 = nI (k + 6) := nI_add k 6
  by_cases q2 : xs (k + 2) = 0
  · simp +decide (disch := omega) only [↓EQA, CEA, LIA, NIA, Nat.lt_irrefl, Option.toList_some, Option.toList_none, List.cons_append, List.nil_append, true_and, and_true, Nat.reduceAdd, Nat.reduceLeDiff, not_true_eq_false, not_false_eq_true, if_true, if_false, ite_true, ite_false, Int32.reduceLT, ite_not, eq_self, or_true, true_or, ite_self, reduceIte, B_L_law_J63, B_L_law_J64, B_L_law_J65, h1, h2, h3, h4, h5, e5, q2]
    refine p_light (b := false) hI _ fun x w1 hm => ?_
    simp +decide (disch := omega) only [↓EQA, CEA, LIA, NIA, Nat.lt_irrefl, Option.toList_some, Option.toList_none, List.cons_append, List.nil_append, true_and, and_true, Nat.reduceAdd, Nat.reduceLeDiff, not_true_eq_false, not_false_eq_true, if_true, if_false, ite_true, ite_false, Int32.reduceLT, ite_not, eq_self, or_true, true_or, ite_self, reduceIte, B_L_law_J63, B_L_law_J64, B_L_law_J65, h1, h2, h3, h4, h5, e5, q2]
    refine hm _ fun w2 hI2 => ?_
    simp +decide (disch := omega) only [↓EQA, CEA, LIA, NIA, Nat.lt_irrefl, Option.toList_some, Option.toList_none, List.cons_append, List.nil_append, true_and, and_true, Nat.reduceAdd, Nat.reduceLeDiff, not_true_eq_false, not_false_eq_true, if_true, if_false, ite_true, ite_false, Int32.reduceLT, ite_not, eq_self, or_true, true_or, ite_self, reduceIte, B_L_law_J75, e6]
    exact hn w2 hI2
  · simp +decide (disch := omega) only [↓EQA, CEA, LIA, NIA, Nat.lt_irrefl, Option.toList_some, Option.toList_none, List.cons_append, List.nil_append, true_and, and_true, Nat.reduceAdd, Nat.reduceLeDiff, not_true_eq_false, not_false_eq_true, if_true, if_false, ite_true, ite_false, Int32.reduceLT, ite_not, eq_self, or_true, true_or, ite_self, reduceIte, B_L_law_J63, B_L_law_J64, B_L_law_J65, h1, h2, h3, h4, h5, e5, q2]
    refine p_light (b := true) hI _ fun x w1 hm => ?_
    simp +decide (disch := omega) only [↓EQA, CEA, LIA, NIA, Nat.lt_irrefl, Option.toList_some, Option.toList_none, List.cons_append, List.nil_append, true_and, and_true, Nat.reduceAdd, Nat.reduceLeDiff, not_true_eq_false, not_false_eq_true, if_true, if_false, ite_true, ite_false, Int32.reduceLT, ite_not, eq_self, or_true, true_or, ite_self, reduceIte, B_L_law_J63, B_L_law_J64, B_L_law_J65, h1, h2, h3, h4, h5, e5, q2]
    refine hm _ fun w2 hI2 => ?_
    simp +decide (disch := omega) only [↓EQA, CEA, LIA, NIA, Nat.lt_irrefl, Option.toList_some, Option.toList_none, List.cons_append, List.nil_append, true_and, and_true, Nat.reduceAdd, Nat.reduceLeDiff, not_true_eq_false, not_false_eq_true, if_true, if_false, ite_true, ite_false, Int32.reduceLT, ite_not, eq_self, or_true, true_or, ite_self, reduceIte, B_L_law_J75, e6]
    exact hn w2 hI2
theorem c_cross (hI : INV w) (hk : k + 6 ≤ L) (hL : L ≤ 3072) (hn : ∀ w2, INV w2 → Wp (m_L_law L xs) (d + 20) b Q 23 [.ref 999, .ref 0, .ref 59, .ref 73, .int (nI (k + 6)), v5, v6] [] w2) : B_L_law_J66 L xs (d + 20) b Q [.ref 999, .ref 0, .ref 59, .ref 73, .int (nI k), v5, v6] [] w := by
  obtain ⟨T, D, F, hI⟩ := hI
  have h1 : k + 1 < L := by omega
  have h2 : k + 2 < L := by omega
  have h3 : k + 3 < L := by omega
  have h4 : k + 4 < L := by omega
  have h5 : k + 5 < L := by omega
  have e5 : nI k + 5 = nI (k + 5) := nI_add k 5
  have e6 : nI k + 6 = nI (k + 6) := nI_add k 6
  simp +decide (disch := omega) only [↓EQA, CEA, LIA, NIA, Nat.lt_irrefl, Option.toList_some, Option.toList_none, List.cons_append, List.nil_append, true_and, and_true, Nat.reduceAdd, Nat.reduceLeDiff, not_true_eq_false, not_false_eq_true, if_true, if_false, ite_true, ite_false, Int32.reduceLT, ite_not, eq_self, or_true, true_or, ite_self, reduceIte, B_L_law_J66, h1, h2, h3, h4, h5, e5]
  refine p_cross hI _ fun x w1 hm => ?_
  simp +decide (disch := omega) only [↓EQA, CEA, LIA, NIA, Nat.lt_irrefl, Option.toList_some, Option.toList_none, List.cons_append, List.nil_append, true_and, and_true, Nat.reduceAdd, Nat.reduceLeDiff, not_true_eq_false, not_false_eq_true, if_true, if_false, ite_true, ite_false, Int32.reduceLT, ite_not, eq_self, or_true, true_or, ite_self, reduceIte, h1, h2, h3, h4, h5, e5]
  refine hm _ fun w2 hI2 => ?_
  simp +decide (disch := omega) only [↓EQA, CEA, LIA, NIA, Nat.lt_irrefl, Option.toList_some, Option.toList_none, List.cons_append, List.nil_append, true_and, and_true, Nat.reduceAdd, Nat.reduceLeDiff, not_true_eq_false, not_false_eq_true, if_true, if_false, ite_true, ite_false, Int32.reduceLT, ite_not, eq_self, or_true, true_or, ite_self, reduceIte, B_L_law_J75, e6]
  exact hn w2 hI2
theorem c_raise (hI : INV w) (hk : k + 6 ≤ L) (hL : L ≤ 3072) (hn : ∀ w2, INV w2 → Wp (m_L_law L xs) (d + 20) b Q 23 [.ref 999, .ref 0, .ref 59, .ref 73, .int (nI (k + 6)), v5, v6] [] w2) : B_L_law_J67 L xs (d + 20) b Q [.ref 999, .ref 0, .ref 59, .ref 73, .int (nI k), v5, v6] [] w := by
  obtain ⟨T, D, F, hI⟩ := hI
  have h1 : k + 1 < L := by omega
  have h2 : k + 2 < L := by omega
  have h3 : k + 3 < L := by omega
  have h4 : k + 4 < L := by omega
  have h5 : k + 5 < L := by omega
  have e5 : nI k + 5 = nI (k + 5) := nI_add k 5
  have e6 : nI k + 6 = nI (k + 6) := nI_add k 6
  simp +decide (disch := omega) only [↓EQA, CEA, LIA, NIA, Nat.lt_irrefl, Option.toList_some, Option.toList_none, List.cons_append, List.nil_append, true_and, and_true, Nat.reduceAdd, Nat.reduceLeDiff, not_true_eq_false, not_false_eq_true, if_true, if_false, ite_true, ite_false, Int32.reduceLT, ite_not, eq_self, or_true, true_or, ite_self, reduceIte, B_L_law_J67, h1, h2, h3, h4, h5, e5]
  refine p_raise hI _ fun x w1 hm => ?_
  simp +decide (disch := omega) only [↓EQA, CEA, LIA, NIA, Nat.lt_irrefl, Option.toList_some, Option.toList_none, List.cons_append, List.nil_append, true_and, and_true, Nat.reduceAdd, Nat.reduceLeDiff, not_true_eq_false, not_false_eq_true, if_true, if_false, ite_true, ite_false, Int32.reduceLT, ite_not, eq_self, or_true, true_or, ite_self, reduceIte, h1, h2, h3, h4, h5, e5]
  refine hm _ fun w2 hI2 => ?_
  simp +decide (disch := omega) only [↓EQA, CEA, LIA, NIA, Nat.lt_irrefl, Option.toList_some, Option.toList_none, List.cons_append, List.nil_append, true_and, and_true, Nat.reduceAdd, Nat.reduceLeDiff, not_true_eq_false, not_false_eq_true, if_true, if_false, ite_true, ite_false, Int32.reduceLT, ite_not, eq_self, or_true, true_or, ite_self, reduceIte, B_L_law_J75, e6]
  exact hn w2 hI2
theorem c_undo (hI : INV w) (hk : k + 6 ≤ L) (hL : L ≤ 3072) (hn : ∀ w2, INV w2 → Wp (m_L_law L xs) (d + 20) b Q 23 [.ref 999, .ref 0, .ref 59, .ref 73, .int (nI (k + 6)), v5, v6] [] w2) : B_L_law_J68 L xs (d + 20) b Q [.ref 999, .ref 0, .ref 59, .ref 73, .int (nI k), v5, v6] [] w := by
  obtain ⟨T, D, F, hI⟩ := hI
  have h1 : k + 1 < L := by omega
  have h2 : k + 2 < L := by omega
  have h3 : k + 3 < L := by omega
  have h4 : k + 4 < L := by omega
  have h5 : k + 5 < L := by omega
  have e5 : nI k + 5 = nI (k + 5) := nI_add k 5
  have e6 : nI k + 6 = nI (k + 6) := nI_add k 6
  simp +decide (disch := omega) only [↓EQA, CEA, LIA, NIA, Nat.lt_irrefl, Option.toList_some, Option.toList_none, List.cons_append, List.nil_append, true_and, and_true, Nat.reduceAdd, Nat.reduceLeDiff, not_true_eq_false, not_false_eq_true, if_true, if_false, ite_true, ite_false, Int32.reduceLT, ite_not, eq_self, or_true, true_or, ite_self, reduceIte, B_L_law_J68, h1, h2, h3, h4, h5, e5]
  refine p_undo hI _ fun x w1 hm => ?_
  simp +decide (disch := omega) only [↓EQA, CEA, LIA, NIA, Nat.lt_irrefl, Option.toList_some, Option.toList_none, List.cons_append, List.nil_append, true_and, and_true, Nat.reduceAdd, Nat.reduceLeDiff, not_true_eq_false, not_false_eq_true, if_true, if_false, ite_true, ite_false, Int32.reduceLT, ite_not, eq_self, or_true, true_or, ite_self, reduceIte, h1, h2, h3, h4, h5, e5]
  refine hm _ fun w2 hI2 => ?_
  simp +decide (disch := omega) only [↓EQA, CEA, LIA, NIA, Nat.lt_irrefl, Option.toList_some, Option.toList_none, List.cons_append, List.nil_append, true_and, and_true, Nat.reduceAdd, Nat.reduceLeDiff, not_true_eq_false, not_false_eq_true, if_true, if_false, ite_true, ite_false, Int32.reduceLT, ite_not, eq_self, or_true, true_or, ite_self, reduceIte, B_L_law_J75, e6]
  exact hn w2 hI2
theorem c_image (hI : INV w) (hk : k + 6 ≤ L) (hL : L ≤ 3072) (hn : ∀ w2, INV w2 → Wp (m_L_law L xs) (d + 20) b Q 23 [.ref 999, .ref 0, .ref 59, .ref 73, .int (nI (k + 6)), v5, v6] [] w2) : B_L_law_J69 L xs (d + 20) b Q [.ref 999, .ref 0, .ref 59, .ref 73, .int (nI k), v5, v6] [] w := by
  obtain ⟨T, D, F, hI⟩ := hI
  have h1 : k + 1 < L := by omega
  have h2 : k + 2 < L := by omega
  have h3 : k + 3 < L := by omega
  have h4 : k + 4 < L := by omega
  have h5 : k + 5 < L := by omega
  have e5 : nI k + 5 = nI (k + 5) := nI_add k 5
  have e6 : nI k + 6 = nI (k + 6) := nI_add k 6
  simp +decide (disch := omega) only [↓EQA, CEA, LIA, NIA, Nat.lt_irrefl, Option.toList_some, Option.toList_none, List.cons_append, List.nil_append, true_and, and_true, Nat.reduceAdd, Nat.reduceLeDiff, not_true_eq_false, not_false_eq_true, if_true, if_false, ite_true, ite_false, Int32.reduceLT, ite_not, eq_self, or_true, true_or, ite_self, reduceIte, B_L_law_J69, h1, h2, h3, h4, h5, e5]
  refine p_image hI _ fun x w1 hm => ?_
  simp +decide (disch := omega) only [↓EQA, CEA, LIA, NIA, Nat.lt_irrefl, Option.toList_some, Option.toList_none, List.cons_append, List.nil_append, true_and, and_true, Nat.reduceAdd, Nat.reduceLeDiff, not_true_eq_false, not_false_eq_true, if_true, if_false, ite_true, ite_false, Int32.reduceLT, ite_not, eq_self, or_true, true_or, ite_self, reduceIte, h1, h2, h3, h4, h5, e5]
  refine hm _ fun w2 hI2 => ?_
  simp +decide (disch := omega) only [↓EQA, CEA, LIA, NIA, Nat.lt_irrefl, Option.toList_some, Option.toList_none, List.cons_append, List.nil_append, true_and, and_true, Nat.reduceAdd, Nat.reduceLeDiff, not_true_eq_false, not_false_eq_true, if_true, if_false, ite_true, ite_false, Int32.reduceLT, ite_not, eq_self, or_true, true_or, ite_self, reduceIte, B_L_law_J75, e6]
  exact hn w2 hI2
theorem c_back (hI : INV w) (hk : k + 6 ≤ L) (hL : L ≤ 3072) (hn : ∀ w2, INV w2 → Wp (m_L_law L xs) (d + 20) b Q 23 [.ref 999, .ref 0, .ref 59, .ref 73, .int (nI (k + 6)), v5, v6] [] w2) : B_L_law_J70 L xs (d + 20) b Q [.ref 999, .ref 0, .ref 59, .ref 73, .int (nI k), v5, v6] [] w := by
  obtain ⟨T, D, F, hI⟩ := hI
  have h1 : k + 1 < L := by omega
  have h2 : k + 2 < L := by omega
  have h3 : k + 3 < L := by omega
  have h4 : k + 4 < L := by omega
  have h5 : k + 5 < L := by omega
  have e5 : nI k + 5 = nI (k + 5) := nI_add k 5
  have e6 : nI k + 6 = nI (k + 6) := nI_add k 6
  simp +decide (disch := omega) only [↓EQA, CEA, LIA, NIA, Nat.lt_irrefl, Option.toList_some, Option.toList_none, List.cons_append, List.nil_append, true_and, and_true, Nat.reduceAdd, Nat.reduceLeDiff, not_true_eq_false, not_false_eq_true, if_true, if_false, ite_true, ite_false, Int32.reduceLT, ite_not, eq_self, or_true, true_or, ite_self, reduceIte, B_L_law_J70, h1, h2, h3, h4, h5, e5]
  refine p_back hI _ fun x w1 hm => ?_
  simp +decide (disch := omega) only [↓EQA, CEA, LIA, NIA, Nat.lt_irrefl, Option.toList_some, Option.toList_none, List.cons_append, List.nil_append, true_and, and_true, Nat.reduceAdd, Nat.reduceLeDiff, not_true_eq_false, not_false_eq_true, if_true, if_false, ite_true, ite_false, Int32.reduceLT, ite_not, eq_self, or_true, true_or, ite_self, reduceIte, h1, h2, h3, h4, h5, e5]
  refine hm _ fun w2 hI2 => ?_
  simp +decide (disch := omega) only [↓EQA, CEA, LIA, NIA, Nat.lt_irrefl, Option.toList_some, Option.toList_none, List.cons_append, List.nil_append, true_and, and_true, Nat.reduceAdd, Nat.reduceLeDiff, not_true_eq_false, not_false_eq_true, if_true, if_false, ite_true, ite_false, Int32.reduceLT, ite_not, eq_self, or_true, true_or, ite_self, reduceIte, B_L_law_J75, e6]
  exact hn w2 hI2
theorem c_size (hI : INV w) (hk : k + 6 ≤ L) (hL : L ≤ 3072) (hn : ∀ w2, INV w2 → Wp (m_L_law L xs) (d + 20) b Q 23 [.ref 999, .ref 0, .ref 59, .ref 73, .int (nI (k + 6)), v5, v6] [] w2) : B_L_law_J73 L xs (d + 20) b Q [.ref 999, .ref 0, .ref 59, .ref 73, .int (nI k), v5, v6] [] w := by
  obtain ⟨T, D, F, hI⟩ := hI
  have h1 : k + 1 < L := by omega
  have h2 : k + 2 < L := by omega
  have h3 : k + 3 < L := by omega
  have h4 : k + 4 < L := by omega
  have h5 : k + 5 < L := by omega
  have e5 : nI k + 5 = nI (k + 5) := nI_add k 5
  have e6 : nI k + 6 = nI (k + 6) := nI_add k 6
  simp +decide (disch := omega) only [↓EQA, CEA, LIA, NIA, Nat.lt_irrefl, Option.toList_some, Option.toList_none, List.cons_append, List.nil_append, true_and, and_true, Nat.reduceAdd, Nat.reduceLeDiff, not_true_eq_false, not_false_eq_true, if_true, if_false, ite_true, ite_false, Int32.reduceLT, ite_not, eq_self, or_true, true_or, ite_self, reduceIte, B_L_law_J73, h1, h2, h3, h4, h5, e5]
  refine p_size hI _ fun x w1 hm => ?_
  simp +decide (disch := omega) only [↓EQA, CEA, LIA, NIA, Nat.lt_irrefl, Option.toList_some, Option.toList_none, List.cons_append, List.nil_append, true_and, and_true, Nat.reduceAdd, Nat.reduceLeDiff, not_true_eq_false, not_false_eq_true, if_true, if_false, ite_true, ite_false, Int32.reduceLT, ite_not, eq_self, or_true, true_or, ite_self, reduceIte, h1, h2, h3, h4, h5, e5]
  refine hm _ fun w2 hI2 => ?_
  simp +decide (disch := omega) only [↓EQA, CEA, LIA, NIA, Nat.lt_irrefl, Option.toList_some, Option.toList_none, List.cons_append, List.nil_append, true_and, and_true, Nat.reduceAdd, Nat.reduceLeDiff, not_true_eq_false, not_false_eq_true, if_true, if_false, ite_true, ite_false, Int32.reduceLT, ite_not, eq_self, or_true, true_or, ite_self, reduceIte, B_L_law_J75, e6]
  exact hn w2 hI2
theorem c_trouble (hI : INV w) (hk : k + 6 ≤ L) (hL : L ≤ 3072) (hn : ∀ w2, INV w2 → Wp (m_L_law L xs) (d + 20) b Q 23 [.ref 999, .ref 0, .ref 59, .ref 73, .int (nI (k + 6)), v5, v6] [] w2) : B_L_law_J74 L xs (d + 20) b Q [.ref 999, .ref 0, .ref 59, .ref 73, .int (nI k), v5, v6] [] w := by
  obtain ⟨T, D, F, hI⟩ := hI
  have h1 : k + 1 < L := by omega
  have h2 : k + 2 < L := by omega
  have h3 : k + 3 < L := by omega
  have h4 : k + 4 < L := by omega
  have h5 : k + 5 < L := by omega
  have e5 : nI k + 5 = nI (k + 5) := nI_add k 5
  have e6 : nI k + 6 = nI (k + 6) := nI_add k 6
  simp +decide (disch := omega) only [↓EQA, CEA, LIA, NIA, Nat.lt_irrefl, Option.toList_some, Option.toList_none, List.cons_append, List.nil_append, true_and, and_true, Nat.reduceAdd, Nat.reduceLeDiff, not_true_eq_false, not_false_eq_true, if_true, if_false, ite_true, ite_false, Int32.reduceLT, ite_not, eq_self, or_true, true_or, ite_self, reduceIte, B_L_law_J74, h1, h2, h3, h4, h5, e5]
  refine p_trouble hI _ fun x w1 hm => ?_
  simp +decide (disch := omega) only [↓EQA, CEA, LIA, NIA, Nat.lt_irrefl, Option.toList_some, Option.toList_none, List.cons_append, List.nil_append, true_and, and_true, Nat.reduceAdd, Nat.reduceLeDiff, not_true_eq_false, not_false_eq_true, if_true, if_false, ite_true, ite_false, Int32.reduceLT, ite_not, eq_self, or_true, true_or, ite_self, reduceIte, h1, h2, h3, h4, h5, e5]
  refine hm _ fun w2 hI2 => ?_
  simp +decide (disch := omega) only [↓EQA, CEA, LIA, NIA, Nat.lt_irrefl, Option.toList_some, Option.toList_none, List.cons_append, List.nil_append, true_and, and_true, Nat.reduceAdd, Nat.reduceLeDiff, not_true_eq_false, not_false_eq_true, if_true, if_false, ite_true, ite_false, Int32.reduceLT, ite_not, eq_self, or_true, true_or, ite_self, reduceIte, B_L_law_J75, e6]
  exact hn w2 hI2
theorem u_thrown (hQ : Q (some (.int (w.1 59 0))) w) : Cl (d + 1) m_X11_thrown [.ref 59] w Q := by
  refine Cl_of k_X11_thrown.1 (Nat.le_of_ble_eq_true rfl) (show Wp m_X11_thrown _ 0 _ 0 [.ref 59] [] _ from S_X11_thrown_0 _ _ _ ?_)
  simp +decide (disch := omega) only [↓EQA, CEA, LIA, NIA, Nat.lt_irrefl, Option.toList_some, Option.toList_none, List.cons_append, List.nil_append, true_and, and_true, Nat.reduceAdd, Nat.reduceLeDiff, not_true_eq_false, not_false_eq_true, if_true, if_false, ite_true, ite_false, Int32.reduceLT, ite_not, eq_self, or_true, true_or, ite_self, reduceIte, B_X11_thrown_0]
  exact hQ
theorem c_led (hb : 1 ≤ b) (hI : INV w) (hk : k + 6 ≤ L) (hL : L ≤ 3072) (hn : ∀ w2 v5 v6, INV w2 → Wp (m_L_law L xs) (d + 20) (b - 1) Q 23 [.ref 999, .ref 0, .ref 59, .ref 73, .int (nI (k + 6)), .int v5, .int v6] [] w2) : B_L_law_J71 L xs (d + 20) b Q [.ref 999, .ref 0, .ref 59, .ref 73, .int (nI k), v5, v6] [] w := by
  obtain ⟨T, D, F, hI⟩ := hI
  have h1 : k + 1 < L := by omega
  have e6 : nI k + 6 = nI (k + 6) := nI_add k 6
  simp +decide (disch := omega) only [↓EQA, CEA, LIA, NIA, Nat.lt_irrefl, Option.toList_some, Option.toList_none, List.cons_append, List.nil_append, true_and, and_true, Nat.reduceAdd, Nat.reduceLeDiff, not_true_eq_false, not_false_eq_true, if_true, if_false, ite_true, ite_false, Int32.reduceLT, ite_not, eq_self, or_true, true_or, ite_self, reduceIte, B_L_law_J71, h1]
  refine ⟨by decide, p_led hI (fun x w1 hx hm => ⟨0, rfl, ?_⟩) (fun w1 hm => ⟨1, rfl, ?_⟩)⟩
  · simp +decide (disch := omega) only [↓EQA, CEA, LIA, NIA, Nat.lt_irrefl, Option.toList_some, Option.toList_none, List.cons_append, List.nil_append, true_and, and_true, Nat.reduceAdd, Nat.reduceLeDiff, not_true_eq_false, not_false_eq_true, if_true, if_false, ite_true, ite_false, Int32.reduceLT, ite_not, eq_self, or_true, true_or, ite_self, reduceIte, h1]
    refine hm _ fun w2 hI2 h0 hx2 => ?_
    simp +decide (disch := omega) only [↓EQA, CEA, LIA, NIA, Nat.lt_irrefl, Option.toList_some, Option.toList_none, List.cons_append, List.nil_append, true_and, and_true, Nat.reduceAdd, Nat.reduceLeDiff, not_true_eq_false, not_false_eq_true, if_true, if_false, ite_true, ite_false, Int32.reduceLT, ite_not, eq_self, or_true, true_or, ite_self, reduceIte]
    refine u_thrown ?_
    simp +decide (disch := omega) only [↓EQA, CEA, LIA, NIA, Nat.lt_irrefl, Option.toList_some, Option.toList_none, List.cons_append, List.nil_append, true_and, and_true, Nat.reduceAdd, Nat.reduceLeDiff, not_true_eq_false, not_false_eq_true, if_true, if_false, ite_true, ite_false, Int32.reduceLT, ite_not, eq_self, or_true, true_or, ite_self, reduceIte, h0, hx2, lg_same, B_L_law_J72, B_L_law_J75, e6]
    exact hn w2 _ _ hI2
  · simp +decide (disch := omega) only [↓EQA, CEA, LIA, NIA, Nat.lt_irrefl, Option.toList_some, Option.toList_none, List.cons_append, List.nil_append, true_and, and_true, Nat.reduceAdd, Nat.reduceLeDiff, not_true_eq_false, not_false_eq_true, if_true, if_false, ite_true, ite_false, Int32.reduceLT, ite_not, eq_self, or_true, true_or, ite_self, reduceIte, h1]
    refine hm _ fun w2 y hI2 h0 => ?_
    simp +decide (disch := omega) only [↓EQA, CEA, LIA, NIA, Nat.lt_irrefl, Option.toList_some, Option.toList_none, List.cons_append, List.nil_append, true_and, and_true, Nat.reduceAdd, Nat.reduceLeDiff, not_true_eq_false, not_false_eq_true, if_true, if_false, ite_true, ite_false, Int32.reduceLT, ite_not, eq_self, or_true, true_or, ite_self, reduceIte]
    refine u_thrown ?_
    simp +decide (disch := omega) only [↓EQA, CEA, LIA, NIA, Nat.lt_irrefl, Option.toList_some, Option.toList_none, List.cons_append, List.nil_append, true_and, and_true, Nat.reduceAdd, Nat.reduceLeDiff, not_true_eq_false, not_false_eq_true, if_true, if_false, ite_true, ite_false, Int32.reduceLT, ite_not, eq_self, or_true, true_or, ite_self, reduceIte, h0, B_L_law_J72, B_L_law_J75, e6]
    exact hn w2 _ _ hI2
end LawCalls
