section MRace
variable {d : Nat} {w : Mem} {Q : Option Value → Mem → Prop} {T : Tv} {V : Vw} {row h : Nat}
theorem u_hasBit {x k : Int32} (hQ : Q (some (.int (bI (bb x k = true)))) w) : Cl (d + 1) m_X11_hasBit [.int x, .int k] w Q := by
  refine Cl_of k_X11_hasBit.1 (Nat.le_of_ble_eq_true rfl) (show Wp m_X11_hasBit _ 0 _ 0 [.int x, .int k] [] _ from S_X11_hasBit_0 _ _ _ ?_)
  simp +decide (disch := omega) only [↓EQA, CEA, LIA, NIA, Nat.lt_irrefl, Option.toList_some, Option.toList_none, List.cons_append, List.nil_append, true_and, and_true, Nat.reduceAdd, Nat.reduceLeDiff, not_true_eq_false, not_false_eq_true, if_true, if_false, ite_true, ite_false, Int32.reduceLT, ite_not, eq_self, or_true, true_or, ite_self, reduceIte, B_X11_hasBit_0, mrg]
  simp +decide (disch := omega) only [↓EQA, CEA, LIA, NIA, Nat.lt_irrefl, Option.toList_some, Option.toList_none, List.cons_append, List.nil_append, true_and, and_true, Nat.reduceAdd, Nat.reduceLeDiff, not_true_eq_false, not_false_eq_true, if_true, if_false, ite_true, ite_false, Int32.reduceLT, ite_not, eq_self, or_true, true_or, ite_self, reduceIte, B_X11_hasBit_J1]
  exact hQ
theorem u_in {v lo hi : Int32} (hQ : Q (some (.int (bI (¬ v < lo ∧ ¬ hi < v)))) w) : Cl (d + 1) m_X11_in [.int v, .int lo, .int hi] w Q := by
  refine Cl_of k_X11_in.1 (Nat.le_of_ble_eq_true rfl) (show Wp m_X11_in _ 0 _ 0 [.int v, .int lo, .int hi] [] _ from S_X11_in_0 _ _ _ ?_)
  simp +decide (disch := omega) only [↓EQA, CEA, LIA, NIA, Nat.lt_irrefl, Option.toList_some, Option.toList_none, List.cons_append, List.nil_append, true_and, and_true, Nat.reduceAdd, Nat.reduceLeDiff, not_true_eq_false, not_false_eq_true, if_true, if_false, ite_true, ite_false, Int32.reduceLT, ite_not, eq_self, or_true, true_or, ite_self, reduceIte, B_X11_in_0, B_X11_in_J1, mrg]
  simp +decide (disch := omega) only [↓EQA, CEA, LIA, NIA, Nat.lt_irrefl, Option.toList_some, Option.toList_none, List.cons_append, List.nil_append, true_and, and_true, Nat.reduceAdd, Nat.reduceLeDiff, not_true_eq_false, not_false_eq_true, if_true, if_false, ite_true, ite_false, Int32.reduceLT, ite_not, eq_self, or_true, true_or, ite_self, reduceIte, B_X11_in_J2]
  have e : (if v < lo then (0 : Int32) else bI (¬ hi < v)) = bI (¬ v < lo ∧ ¬ hi < v) := by
    unfold bI
    by_cases q : v < lo <;> simp [q]
  rw [e]
  exact ⟨by rw [bI_ny]; trivial, hQ⟩
theorem u_good (hQ : Q none (wI (wI w 59 0 0) 59 11 0)) : Cl (d + 1) m_X11_good [.ref 59] w Q := by
  refine Cl_of k_X11_good.1 (Nat.le_of_ble_eq_true rfl) (show Wp m_X11_good _ 0 _ 0 [.ref 59] [] _ from S_X11_good_0 _ _ _ ?_)
  simp +decide (disch := omega) only [↓EQA, CEA, LIA, NIA, Nat.lt_irrefl, Option.toList_some, Option.toList_none, List.cons_append, List.nil_append, true_and, and_true, Nat.reduceAdd, Nat.reduceLeDiff, not_true_eq_false, not_false_eq_true, if_true, if_false, ite_true, ite_false, Int32.reduceLT, ite_not, eq_self, or_true, true_or, ite_self, reduceIte, B_X11_good_0]
  exact hQ
theorem u_no {y : Int32} (hQ : Q (some (.int (-1))) (wI w 59 11 y)) : Cl (d + 1) m_X11_no [.ref 59, .int y] w Q := by
  refine Cl_of k_X11_no.1 (Nat.le_of_ble_eq_true rfl) (show Wp m_X11_no _ 0 _ 0 [.ref 59, .int y] [] _ from S_X11_no_0 _ _ _ ?_)
  simp +decide (disch := omega) only [↓EQA, CEA, LIA, NIA, Nat.lt_irrefl, Option.toList_some, Option.toList_none, List.cons_append, List.nil_append, true_and, and_true, Nat.reduceAdd, Nat.reduceLeDiff, not_true_eq_false, not_false_eq_true, if_true, if_false, ite_true, ite_false, Int32.reduceLT, ite_not, eq_self, or_true, true_or, ite_self, reduceIte, B_X11_no_0]
  exact hQ
theorem u_isNot {y : Int32} (hQ : Q (some (.int 0)) (wI w 59 11 y)) : Cl (d + 1) m_X11_isNot [.ref 59, .int y] w Q := by
  refine Cl_of k_X11_isNot.1 (Nat.le_of_ble_eq_true rfl) (show Wp m_X11_isNot _ 0 _ 0 [.ref 59, .int y] [] _ from S_X11_isNot_0 _ _ _ ?_)
  simp +decide (disch := omega) only [↓EQA, CEA, LIA, NIA, Nat.lt_irrefl, Option.toList_some, Option.toList_none, List.cons_append, List.nil_append, true_and, and_true, Nat.reduceAdd, Nat.reduceLeDiff, not_true_eq_false, not_false_eq_true, if_true, if_false, ite_true, ite_false, Int32.reduceLT, ite_not, eq_self, or_true, true_or, ite_self, reduceIte, B_X11_isNot_0]
  exact hQ
theorem u_dry (hQ : Q none (wI w 59 22 0)) : Cl (d + 1) m_X11_dry [.ref 59] w Q := by
  refine Cl_of k_X11_dry.1 (Nat.le_of_ble_eq_true rfl) (show Wp m_X11_dry _ 0 _ 0 [.ref 59] [] _ from S_X11_dry_0 _ _ _ ?_)
  simp +decide (disch := omega) only [↓EQA, CEA, LIA, NIA, Nat.lt_irrefl, Option.toList_some, Option.toList_none, List.cons_append, List.nil_append, true_and, and_true, Nat.reduceAdd, Nat.reduceLeDiff, not_true_eq_false, not_false_eq_true, if_true, if_false, ite_true, ite_false, Int32.reduceLT, ite_not, eq_self, or_true, true_or, ite_self, reduceIte, B_X11_dry_0]
  exact hQ
theorem u_kindOf (hM : ToldM w T) (hz : nH T ≤ 4) (hh : h < nH T) (hQ : Q (some (.int (T 3 h))) w) : Cl (d + 1) m_X11_kindOf [.ref 59, .int (nI h)] w Q := by
  refine Cl_of k_X11_kindOf.1 (Nat.le_of_ble_eq_true rfl) (show Wp m_X11_kindOf _ 0 _ 0 [.ref 59, .int (nI h)] [] _ from S_X11_kindOf_0 _ _ _ ?_)
  simp +decide (disch := omega) only [↓EQA, CEA, LIA, NIA, Nat.lt_irrefl, Option.toList_some, Option.toList_none, List.cons_append, List.nil_append, true_and, and_true, Nat.reduceAdd, Nat.reduceLeDiff, not_true_eq_false, not_false_eq_true, if_true, if_false, ite_true, ite_false, Int32.reduceLT, ite_not, eq_self, or_true, true_or, ite_self, reduceIte, B_X11_kindOf_0, hM.2.2.1 h hh]
  exact hQ
theorem u_storeysOf (hM : ToldM w T) (hz : nH T ≤ 4) (hh : h < nH T) (hQ : Q (some (.int (T 5 h))) w) : Cl (d + 1) m_X11_storeysOf [.ref 59, .int (nI h)] w Q := by
  refine Cl_of k_X11_storeysOf.1 (Nat.le_of_ble_eq_true rfl) (show Wp m_X11_storeysOf _ 0 _ 0 [.ref 59, .int (nI h)] [] _ from S_X11_storeysOf_0 _ _ _ ?_)
  simp +decide (disch := omega) only [↓EQA, CEA, LIA, NIA, Nat.lt_irrefl, Option.toList_some, Option.toList_none, List.cons_append, List.nil_append, true_and, and_true, Nat.reduceAdd, Nat.reduceLeDiff, not_true_eq_false, not_false_eq_true, if_true, if_false, ite_true, ite_false, Int32.reduceLT, ite_not, eq_self, or_true, true_or, ite_self, reduceIte, B_X11_storeysOf_0, hM.2.2.1 h hh]
  exact hQ
/-- those aboard, as bits; how many bits -/
def BS (T : Tv) (V : Vw) (h : Nat) : Int32 := fld (fun l a => a ||| if V.1 h l then 1 <<< (nI l &&& 31) else 0) (nL T) 0
def ONs (x : Int32) : Int32 := fld (fun k a => a + ((x >>> (nI k &&& 31)) &&& 1)) 8 0
theorem u_aboardOf (hM : ToldM w T) (hZ : SZ T) (hV : RM w row V) (hr : aln 0 row = 8) (hh : h < 4) (hQ : Q (some (.int (BS T V h))) w) : Cl (d + 1) m_X11_aboardOf [.ref 59, .ref row, .int (nI h)] w Q := by
  have hz := hZ.2
  refine Cl_of k_X11_aboardOf.1 (Nat.le_of_ble_eq_true rfl) (show Wp m_X11_aboardOf _ 0 _ 0 [.ref 59, .ref row, .int (nI h), .null, .null] [] _ from S_X11_aboardOf_0 _ _ _ ?_)
  simp +decide (disch := omega) only [↓EQA, CEA, LIA, NIA, Nat.lt_irrefl, Option.toList_some, Option.toList_none, List.cons_append, List.nil_append, true_and, and_true, Nat.reduceAdd, Nat.reduceLeDiff, not_true_eq_false, not_false_eq_true, if_true, if_false, ite_true, ite_false, Int32.reduceLT, ite_not, eq_self, or_true, true_or, ite_self, reduceIte, B_X11_aboardOf_0]
  refine fld_loop (f := fun l a => a ||| if V.1 h l then 1 <<< (nI l &&& 31) else 0) (n := nL T) (fun j a => Wp m_X11_aboardOf _ 0 Q 5 [.ref 59, .ref row, .int (nI h), .int a, .int (nI j)] [] w) (fun j hj hd => ?_) ?_
  · refine S_X11_aboardOf_L1 _ _ _ ?_
    simp +decide (disch := omega) only [↓EQA, CEA, LIA, NIA, Nat.lt_irrefl, Option.toList_some, Option.toList_none, List.cons_append, List.nil_append, true_and, and_true, Nat.reduceAdd, Nat.reduceLeDiff, not_true_eq_false, not_false_eq_true, if_true, if_false, ite_true, ite_false, Int32.reduceLT, ite_not, eq_self, or_true, true_or, ite_self, reduceIte, B_X11_aboardOf_L1, mrg, hM.1, hZ.1, hj, hr, hV.1 h j hh (by omega)]
    simp +decide (disch := omega) only [↓EQA, CEA, LIA, NIA, Nat.lt_irrefl, Option.toList_some, Option.toList_none, List.cons_append, List.nil_append, true_and, and_true, Nat.reduceAdd, Nat.reduceLeDiff, not_true_eq_false, not_false_eq_true, if_true, if_false, ite_true, ite_false, Int32.reduceLT, ite_not, eq_self, or_true, true_or, ite_self, reduceIte, B_X11_aboardOf_J1]
    exact hd
  · refine S_X11_aboardOf_L1 _ _ _ ?_
    simp +decide (disch := omega) only [↓EQA, CEA, LIA, NIA, Nat.lt_irrefl, Option.toList_some, Option.toList_none, List.cons_append, List.nil_append, true_and, and_true, Nat.reduceAdd, Nat.reduceLeDiff, not_true_eq_false, not_false_eq_true, if_true, if_false, ite_true, ite_false, Int32.reduceLT, ite_not, eq_self, or_true, true_or, ite_self, reduceIte, B_X11_aboardOf_L1, hM.1, hZ.1]
    exact hQ
theorem u_ones {x : Int32} (hQ : Q (some (.int (ONs x))) w) : Cl (d + 1) m_X11_ones [.int x] w Q := by
  refine Cl_of k_X11_ones.1 (Nat.le_of_ble_eq_true rfl) (show Wp m_X11_ones _ 0 _ 0 [.int x, .null, .null] [] _ from S_X11_ones_0 _ _ _ ?_)
  simp +decide (disch := omega) only [↓EQA, CEA, LIA, NIA, Nat.lt_irrefl, Option.toList_some, Option.toList_none, List.cons_append, List.nil_append, true_and, and_true, Nat.reduceAdd, Nat.reduceLeDiff, not_true_eq_false, not_false_eq_true, if_true, if_false, ite_true, ite_false, Int32.reduceLT, ite_not, eq_self, or_true, true_or, ite_self, reduceIte, B_X11_ones_0]
  refine fld_loop (f := fun k a => a + ((x >>> (nI k &&& 31)) &&& 1)) (n := 8) (fun j a => Wp m_X11_ones _ 0 Q 4 [.int x, .int a, .int (nI j)] [] w) (fun j hj hd => ?_) ?_
  · refine S_X11_ones_L1 _ _ _ ?_
    simp +decide (disch := omega) only [↓EQA, CEA, LIA, NIA, Nat.lt_irrefl, Option.toList_some, Option.toList_none, List.cons_append, List.nil_append, true_and, and_true, Nat.reduceAdd, Nat.reduceLeDiff, not_true_eq_false, not_false_eq_true, if_true, if_false, ite_true, ite_false, Int32.reduceLT, ite_not, eq_self, or_true, true_or, ite_self, reduceIte, B_X11_ones_L1, hj]
    exact hd
  · refine S_X11_ones_L1 _ _ _ ?_
    simp +decide (disch := omega) only [↓EQA, CEA, LIA, NIA, Nat.lt_irrefl, Option.toList_some, Option.toList_none, List.cons_append, List.nil_append, true_and, and_true, Nat.reduceAdd, Nat.reduceLeDiff, not_true_eq_false, not_false_eq_true, if_true, if_false, ite_true, ite_false, Int32.reduceLT, ite_not, eq_self, or_true, true_or, ite_self, reduceIte, B_X11_ones_L1]
    exact hQ
theorem u_weightOf (hM : ToldM w T) (hZ : SZ T) (hV : RM w row V) (hr : aln 0 row = 8) (hh : h < nH T) (hQ : Q (some (.int (WT T V h))) w) : Cl (d + 2) m_X11_weightOf [.ref 59, .ref row, .int (nI h)] w Q := by
  have hz := hZ.2
  have key : B_X11_weightOf_J1 (d + 1) 0 Q [.ref 59, .ref row, .int (nI h), .int (if T 3 h = 2 then T 4 h / 2 else T 4 h), .null] [] w := by
    simp +decide (disch := omega) only [↓EQA, CEA, LIA, NIA, Nat.lt_irrefl, Option.toList_some, Option.toList_none, List.cons_append, List.nil_append, true_and, and_true, Nat.reduceAdd, Nat.reduceLeDiff, not_true_eq_false, not_false_eq_true, if_true, if_false, ite_true, ite_false, Int32.reduceLT, ite_not, eq_self, or_true, true_or, ite_self, reduceIte, B_X11_weightOf_J1]
    refine fld_loop (f := fun l a => if V.1 h l then a + T 6 l else a) (n := nL T) (fun j a => Wp m_X11_weightOf _ 0 Q 30 [.ref 59, .ref row, .int (nI h), .int a, .int (nI j)] [] w) (fun j hj hd => ?_) ?_
    · refine S_X11_weightOf_L1 _ _ _ ?_
      simp +decide (disch := omega) only [↓EQA, CEA, LIA, NIA, Nat.lt_irrefl, Option.toList_some, Option.toList_none, List.cons_append, List.nil_append, true_and, and_true, Nat.reduceAdd, Nat.reduceLeDiff, not_true_eq_false, not_false_eq_true, if_true, if_false, ite_true, ite_false, Int32.reduceLT, ite_not, eq_self, or_true, true_or, ite_self, reduceIte, B_X11_weightOf_L1, B_X11_weightOf_J2, hM.1, hZ.1, hj, hr, hV.1 h j (by omega) (by omega), hM.2.2.2.1 j hj, Int32.add_zero]
      (try dsimp only at hd); split <;> rename_i hb <;> simp only [hb, decide_true, decide_false, if_true, if_false, Bool.false_eq_true, decide_not, Bool.not_true, Bool.not_false] at hd <;> exact hd
    · refine S_X11_weightOf_L1 _ _ _ ?_
      simp +decide (disch := omega) only [↓EQA, CEA, LIA, NIA, Nat.lt_irrefl, Option.toList_some, Option.toList_none, List.cons_append, List.nil_append, true_and, and_true, Nat.reduceAdd, Nat.reduceLeDiff, not_true_eq_false, not_false_eq_true, if_true, if_false, ite_true, ite_false, Int32.reduceLT, ite_not, eq_self, or_true, true_or, ite_self, reduceIte, B_X11_weightOf_L1, hM.1, hZ.1]
      exact hQ
  refine Cl_of k_X11_weightOf.1 (Nat.le_of_ble_eq_true rfl) (show Wp m_X11_weightOf _ 0 _ 0 [.ref 59, .ref row, .int (nI h), .null, .null] [] _ from S_X11_weightOf_0 _ _ _ ?_)
  simp +decide (disch := omega) only [↓EQA, CEA, LIA, NIA, Nat.lt_irrefl, Option.toList_some, Option.toList_none, List.cons_append, List.nil_append, true_and, and_true, Nat.reduceAdd, Nat.reduceLeDiff, not_true_eq_false, not_false_eq_true, if_true, if_false, ite_true, ite_false, Int32.reduceLT, ite_not, eq_self, or_true, true_or, ite_self, reduceIte, B_X11_weightOf_0, hM.2.2.1 h hh]
  refine u_kindOf hM (by omega) hh ?_
  simp +decide (disch := omega) only [↓EQA, CEA, LIA, NIA, Nat.lt_irrefl, Option.toList_some, Option.toList_none, List.cons_append, List.nil_append, true_and, and_true, Nat.reduceAdd, Nat.reduceLeDiff, not_true_eq_false, not_false_eq_true, if_true, if_false, ite_true, ite_false, Int32.reduceLT, ite_not, eq_self, or_true, true_or, ite_self, reduceIte]
  split
  · next e => rw [if_pos e] at key; exact key
  · next e => rw [if_neg e] at key; exact key
end MRace
