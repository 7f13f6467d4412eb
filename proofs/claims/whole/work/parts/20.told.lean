/-! ===== what is told: prizes, friends, how many loads; what was seen ===== -/
section Told
variable {d : Nat} {w : Mem} {Q : Option Value → Mem → Prop} {T : Tv} {V : Vw} {R : Rc} {k c h l r : Nat}
def PZ (T : Tv) (r : Nat) : Int32 := if r < nP T then T 9 r else 0
theorem t_prizeFor (hT : Told w T) (hZ : SZ T) (hr : r < 2 ^ 30) (hQ : Q (some (.int (PZ T r))) w) : Cl (d + 1) m_X9_prizeFor [.ref 2, .int (nI r)] w Q := by
  have hz := hZ.2
  have e0 : (nI r < 0) = False := neg_f (by omega)
  refine Cl_of k_X9_prizeFor.1 (Nat.le_of_ble_eq_true rfl) (show Wp m_X9_prizeFor _ 0 _ 0 [.ref 2, .int (nI r)] [] _ from S_X9_prizeFor_0 _ _ _ ?_)
  unfold PZ at hQ
  by_cases q : r < nP T
  · rw [if_pos q] at hQ
    simp +decide (disch := omega) only [↓EQA, CEA, LIA, NIA, Nat.lt_irrefl, Option.toList_some, Option.toList_none, List.cons_append, List.nil_append, true_and, and_true, Nat.reduceAdd, Nat.reduceLeDiff, not_true_eq_false, not_false_eq_true, if_true, if_false, ite_true, ite_false, Int32.reduceLT, ite_not, eq_self, or_true, true_or, ite_self, reduceIte, B_X9_prizeFor_0, B_X9_prizeFor_J1, B_X9_prizeFor_J2, hT, hZ.1, e0, q]
    exact hQ
  · rw [if_neg q] at hQ
    simp +decide (disch := omega) only [↓EQA, CEA, LIA, NIA, Nat.lt_irrefl, Option.toList_some, Option.toList_none, List.cons_append, List.nil_append, true_and, and_true, Nat.reduceAdd, Nat.reduceLeDiff, not_true_eq_false, not_false_eq_true, if_true, if_false, ite_true, ite_false, Int32.reduceLT, ite_not, eq_self, or_true, true_or, ite_self, reduceIte, B_X9_prizeFor_0, B_X9_prizeFor_J1, B_X9_prizeFor_J2, hT, hZ.1, e0, q]
    exact hQ
def FO (T : Tv) (l : Nat) : Int32 := fld (fun i a => if bb (T 8 i) (nI l) then a ||| T 8 i else a) (nF T) 0 &&& ((1 <<< (nI l &&& 31)) ^^^ (-1))
theorem t_friendsOf (hT : Told w T) (hZ : SZ T) (hQ : Q (some (.int (FO T l))) w) : Cl (d + 1) m_X9_friendsOf [.ref 2, .int (nI l)] w Q := by
  have hz := hZ.2
  refine Cl_of k_X9_friendsOf.1 (Nat.le_of_ble_eq_true rfl) (show Wp m_X9_friendsOf _ 0 _ 0 [.ref 2, .int (nI l), .null, .null] [] _ from S_X9_friendsOf_0 _ _ _ ?_)
  simp +decide (disch := omega) only [↓EQA, CEA, LIA, NIA, Nat.lt_irrefl, Option.toList_some, Option.toList_none, List.cons_append, List.nil_append, true_and, and_true, Nat.reduceAdd, Nat.reduceLeDiff, not_true_eq_false, not_false_eq_true, if_true, if_false, ite_true, ite_false, Int32.reduceLT, ite_not, eq_self, or_true, true_or, ite_self, reduceIte, B_X9_friendsOf_0]
  refine fld_loop (f := fun i a => if bb (T 8 i) (nI l) then a ||| T 8 i else a) (n := nF T) (fun j a => Wp m_X9_friendsOf _ 0 Q 4 [.ref 2, .int (nI l), .int a, .int (nI j)] [] w) (fun j hj hd => ?_) ?_
  · refine S_X9_friendsOf_L1 _ _ _ ?_
    simp +decide (disch := omega) only [↓EQA, CEA, LIA, NIA, Nat.lt_irrefl, Option.toList_some, Option.toList_none, List.cons_append, List.nil_append, true_and, and_true, Nat.reduceAdd, Nat.reduceLeDiff, not_true_eq_false, not_false_eq_true, if_true, if_false, ite_true, ite_false, Int32.reduceLT, ite_not, eq_self, or_true, true_or, ite_self, reduceIte, B_X9_friendsOf_L1, B_X9_friendsOf_J1, hT, hZ.1, hj]
    (try dsimp only at hd); split <;> rename_i hb <;> simp only [hb, decide_true, decide_false, if_true, if_false, Bool.false_eq_true, decide_not, Bool.not_true, Bool.not_false] at hd <;> exact hd
  · refine S_X9_friendsOf_L1 _ _ _ ?_
    simp +decide (disch := omega) only [↓EQA, CEA, LIA, NIA, Nat.lt_irrefl, Option.toList_some, Option.toList_none, List.cons_append, List.nil_append, true_and, and_true, Nat.reduceAdd, Nat.reduceLeDiff, not_true_eq_false, not_false_eq_true, if_true, if_false, ite_true, ite_false, Int32.reduceLT, ite_not, eq_self, or_true, true_or, ite_self, reduceIte, B_X9_friendsOf_L1, hT, hZ.1]
    exact hQ
def CLn (T : Tv) (n : Nat) : Nat := fld (fun _ a => a * (nH T + 1)) n 1
theorem nI_mul (a b : Nat) : nI a * nI b = nI (a * b) := (Int32.ofNat_mul a b).symm
theorem t_countOfLoads (hT : Told w T) (hZ : SZ T) (hQ : Q (some (.int (nI (CLn T (nL T))))) w) : Cl (d + 1) m_X9_countOfLoads [.ref 2] w Q := by
  have hz := hZ.2
  refine Cl_of k_X9_countOfLoads.1 (Nat.le_of_ble_eq_true rfl) (show Wp m_X9_countOfLoads _ 0 _ 0 [.ref 2, .null, .null] [] _ from S_X9_countOfLoads_0 _ _ _ ?_)
  simp +decide (disch := omega) only [↓EQA, CEA, LIA, NIA, Nat.lt_irrefl, Option.toList_some, Option.toList_none, List.cons_append, List.nil_append, true_and, and_true, Nat.reduceAdd, Nat.reduceLeDiff, not_true_eq_false, not_false_eq_true, if_true, if_false, ite_true, ite_false, Int32.reduceLT, ite_not, eq_self, or_true, true_or, ite_self, reduceIte, B_X9_countOfLoads_0]
  refine fld_loop (f := fun _ a => a * (nH T + 1)) (n := nL T) (a := 1) (fun j a => Wp m_X9_countOfLoads _ 0 Q 4 [.ref 2, .int (nI a), .int (nI j)] [] w) (fun j hj hd => ?_) ?_
  · refine S_X9_countOfLoads_L1 _ _ _ ?_
    simp +decide (disch := omega) only [↓EQA, CEA, LIA, NIA, Nat.lt_irrefl, Option.toList_some, Option.toList_none, List.cons_append, List.nil_append, true_and, and_true, Nat.reduceAdd, Nat.reduceLeDiff, not_true_eq_false, not_false_eq_true, if_true, if_false, ite_true, ite_false, Int32.reduceLT, ite_not, eq_self, or_true, true_or, ite_self, reduceIte, B_X9_countOfLoads_L1, hT, hZ.1, hj, nI_1, nI_mul]
    exact hd
  · refine S_X9_countOfLoads_L1 _ _ _ ?_
    simp +decide (disch := omega) only [↓EQA, CEA, LIA, NIA, Nat.lt_irrefl, Option.toList_some, Option.toList_none, List.cons_append, List.nil_append, true_and, and_true, Nat.reduceAdd, Nat.reduceLeDiff, not_true_eq_false, not_false_eq_true, if_true, if_false, ite_true, ite_false, Int32.reduceLT, ite_not, eq_self, or_true, true_or, ite_self, reduceIte, B_X9_countOfLoads_L1, hT, hZ.1]
    exact hQ
/-- the i-th that was seen is so -/
def SWs (T : Tv) (V : Vw) (i : Nat) : Bool := AH T V (T 10 i).toNatClampNeg (T 11 i).toNatClampNeg (T 12 i).toNatClampNeg
def FNi (T : Tv) (V : Vw) : Int32 := if frst (fun i => !SWs T V i) (nS T) < nS T then nI (frst (fun i => !SWs T V i) (nS T)) else -2
theorem t_firstNotSo (hk : RK k c) (hT : Told w T) (hZ : SZ T) (hO : TOK T) (hV : RV w k c V) (hQ : Q (some (.int (FNi T V))) w) : Cl (d + 5) m_X4_firstNotSo [.ref k] w Q := by
  have hk0 := hk
  obtain ⟨h1, h2, h3, h4, h5, h6⟩ := hk
  have hz := hZ.2
  obtain ⟨-, -, -, -, -, -, -, -, -, hS, -⟩ := hO
  unfold FNi at hQ
  refine Cl_of k_X4_firstNotSo.1 (Nat.le_of_ble_eq_true rfl) (show Wp m_X4_firstNotSo _ 0 _ 0 [.ref k, .null] [] _ from S_X4_firstNotSo_0 _ _ _ ?_)
  simp +decide (disch := omega) only [↓EQA, CEA, LIA, NIA, Nat.lt_irrefl, Option.toList_some, Option.toList_none, List.cons_append, List.nil_append, true_and, and_true, Nat.reduceAdd, Nat.reduceLeDiff, not_true_eq_false, not_false_eq_true, if_true, if_false, ite_true, ite_false, Int32.reduceLT, ite_not, eq_self, or_true, true_or, ite_self, reduceIte, B_X4_firstNotSo_0]
  refine frst_loop (p := fun i => !SWs T V i) (n := nS T) (fun j => Wp m_X4_firstNotSo _ 0 Q 2 [.ref k, .int (nI j)] [] w) ?_ ?_ ?_
  · intro i hi hp he
    obtain ⟨a, b, j, e1, e2, e3, ha, hb, hj⟩ := hS i hi
    have hp2 : AH T V a b j = false := by
      have : SWs T V i = false := by simpa using hp
      unfold SWs at this
      rw [e1, e2, e3, tn (by omega), tn (by omega), tn (by omega)] at this
      exact this
    refine S_X4_firstNotSo_L1 _ _ _ ?_
    simp +decide (disch := omega) only [↓EQA, CEA, LIA, NIA, Nat.lt_irrefl, Option.toList_some, Option.toList_none, List.cons_append, List.nil_append, true_and, and_true, Nat.reduceAdd, Nat.reduceLeDiff, not_true_eq_false, not_false_eq_true, if_true, if_false, ite_true, ite_false, Int32.reduceLT, ite_not, eq_self, or_true, true_or, ite_self, reduceIte, B_X4_firstNotSo_L1, h1, h2, h3, h4, hT, hZ.1, hi, e1, e2, e3]
    refine t_isAhead hk0 hT hZ hV (by omega) (by omega) hj ?_
    simp +decide (disch := omega) only [↓EQA, CEA, LIA, NIA, Nat.lt_irrefl, Option.toList_some, Option.toList_none, List.cons_append, List.nil_append, true_and, and_true, Nat.reduceAdd, Nat.reduceLeDiff, not_true_eq_false, not_false_eq_true, if_true, if_false, ite_true, ite_false, Int32.reduceLT, ite_not, eq_self, or_true, true_or, ite_self, reduceIte, hp2]
    rw [he, if_pos hi] at hQ
    exact hQ
  · intro i hi hp hd
    obtain ⟨a, b, j, e1, e2, e3, ha, hb, hj⟩ := hS i hi
    have hp2 : AH T V a b j = true := by
      have : SWs T V i = true := by simpa using hp
      unfold SWs at this
      rw [e1, e2, e3, tn (by omega), tn (by omega), tn (by omega)] at this
      exact this
    refine S_X4_firstNotSo_L1 _ _ _ ?_
    simp +decide (disch := omega) only [↓EQA, CEA, LIA, NIA, Nat.lt_irrefl, Option.toList_some, Option.toList_none, List.cons_append, List.nil_append, true_and, and_true, Nat.reduceAdd, Nat.reduceLeDiff, not_true_eq_false, not_false_eq_true, if_true, if_false, ite_true, ite_false, Int32.reduceLT, ite_not, eq_self, or_true, true_or, ite_self, reduceIte, B_X4_firstNotSo_L1, h1, h2, h3, h4, hT, hZ.1, hi, e1, e2, e3]
    refine t_isAhead hk0 hT hZ hV (by omega) (by omega) hj ?_
    simp +decide (disch := omega) only [↓EQA, CEA, LIA, NIA, Nat.lt_irrefl, Option.toList_some, Option.toList_none, List.cons_append, List.nil_append, true_and, and_true, Nat.reduceAdd, Nat.reduceLeDiff, not_true_eq_false, not_false_eq_true, if_true, if_false, ite_true, ite_false, Int32.reduceLT, ite_not, eq_self, or_true, true_or, ite_self, reduceIte, hp2]
    exact hd
  · intro he
    refine S_X4_firstNotSo_L1 _ _ _ ?_
    simp +decide (disch := omega) only [↓EQA, CEA, LIA, NIA, Nat.lt_irrefl, Option.toList_some, Option.toList_none, List.cons_append, List.nil_append, true_and, and_true, Nat.reduceAdd, Nat.reduceLeDiff, not_true_eq_false, not_false_eq_true, if_true, if_false, ite_true, ite_false, Int32.reduceLT, ite_not, eq_self, or_true, true_or, ite_self, reduceIte, B_X4_firstNotSo_L1, h1, h2, h3, h4, hT, hZ.1]
    rw [he, if_neg (Nat.lt_irrefl _)] at hQ
    exact hQ
end Told
section Kept
variable {d : Nat} {w : Mem} {Q : Option Value → Mem → Prop} {R : Rc} {n : Nat}
theorem t_keptClear (hQ : Q none (wI (wI w 56 3 0) 56 4 0)) : Cl (d + 1) m_X1_clear [.ref 56] w Q := by
  refine Cl_of k_X1_clear.1 (Nat.le_of_ble_eq_true rfl) (show Wp m_X1_clear _ 0 _ 0 [.ref 56] [] _ from S_X1_clear_0 _ _ _ ?_)
  simp +decide (disch := omega) only [↓EQA, CEA, LIA, NIA, Nat.lt_irrefl, Option.toList_some, Option.toList_none, List.cons_append, List.nil_append, true_and, and_true, Nat.reduceAdd, Nat.reduceLeDiff, not_true_eq_false, not_false_eq_true, if_true, if_false, ite_true, ite_false, Int32.reduceLT, ite_not, eq_self, or_true, true_or, ite_self, reduceIte, B_X1_clear_0]
  exact hQ
theorem t_keepAct1 (hn : w.1 56 3 = nI n) (h16 : n < 16) (hC : RC w 16 17 R) (hR : ROK R) (hQ : Q none (wI (wL w 57 n (lN (pkN R))) 56 3 (nI (n + 1)))) : Cl (d + 2) m_X1_keepAct [.ref 56] w Q := by
  refine Cl_of k_X1_keepAct.1 (Nat.le_of_ble_eq_true rfl) (show Wp m_X1_keepAct _ 0 _ 0 [.ref 56] [] _ from S_X1_keepAct_0 _ _ _ ?_)
  simp +decide (disch := omega) only [↓EQA, CEA, LIA, NIA, Nat.lt_irrefl, Option.toList_some, Option.toList_none, List.cons_append, List.nil_append, true_and, and_true, Nat.reduceAdd, Nat.reduceLeDiff, not_true_eq_false, not_false_eq_true, if_true, if_false, ite_true, ite_false, Int32.reduceLT, ite_not, eq_self, or_true, true_or, ite_self, reduceIte, B_X1_keepAct_0, hn, h16]
  simp +decide (disch := omega) only [↓EQA, CEA, LIA, NIA, Nat.lt_irrefl, Option.toList_some, Option.toList_none, List.cons_append, List.nil_append, true_and, and_true, Nat.reduceAdd, Nat.reduceLeDiff, not_true_eq_false, not_false_eq_true, if_true, if_false, ite_true, ite_false, Int32.reduceLT, ite_not, eq_self, or_true, true_or, ite_self, reduceIte, B_X1_keepAct_J1, hn]
  refine t_packed RK_now hC hR ?_
  have e : (wL w 57 n (lN (pkN R))).1 56 3 = nI n := hn
  simp +decide (disch := omega) only [↓EQA, CEA, LIA, NIA, Nat.lt_irrefl, Option.toList_some, Option.toList_none, List.cons_append, List.nil_append, true_and, and_true, Nat.reduceAdd, Nat.reduceLeDiff, not_true_eq_false, not_false_eq_true, if_true, if_false, ite_true, ite_false, Int32.reduceLT, ite_not, eq_self, or_true, true_or, ite_self, reduceIte, h16, hn, e, nI_1]
  exact hQ
theorem t_keepImage (hn : w.1 56 4 = nI n) (h3 : n < 3) (hC : RC w 16 17 R) (hR : ROK R) (hQ : Q (some (.int (nI n))) (wI (wL w 58 n (lN (pkN R))) 56 4 (nI (n + 1)))) : Cl (d + 2) m_X1_keepImage [.ref 56] w Q := by
  refine Cl_of k_X1_keepImage.1 (Nat.le_of_ble_eq_true rfl) (show Wp m_X1_keepImage _ 0 _ 0 [.ref 56] [] _ from S_X1_keepImage_0 _ _ _ ?_)
  simp +decide (disch := omega) only [↓EQA, CEA, LIA, NIA, Nat.lt_irrefl, Option.toList_some, Option.toList_none, List.cons_append, List.nil_append, true_and, and_true, Nat.reduceAdd, Nat.reduceLeDiff, not_true_eq_false, not_false_eq_true, if_true, if_false, ite_true, ite_false, Int32.reduceLT, ite_not, eq_self, or_true, true_or, ite_self, reduceIte, B_X1_keepImage_0, hn, h3]
  refine t_packed RK_now hC hR ?_
  have e : (wL w 58 n (lN (pkN R))).1 56 4 = nI n := hn
  simp +decide (disch := omega) only [↓EQA, CEA, LIA, NIA, Nat.lt_irrefl, Option.toList_some, Option.toList_none, List.cons_append, List.nil_append, true_and, and_true, Nat.reduceAdd, Nat.reduceLeDiff, not_true_eq_false, not_false_eq_true, if_true, if_false, ite_true, ite_false, Int32.reduceLT, ite_not, eq_self, or_true, true_or, ite_self, reduceIte, h3, hn, e, nI_1]
  have e2 : (wI (wL w 58 n (lN (pkN R))) 56 4 (nI (n + 1))).1 56 4 = nI (n + 1) := by simp [wI]
  simp +decide (disch := omega) only [↓EQA, CEA, LIA, NIA, Nat.lt_irrefl, Option.toList_some, Option.toList_none, List.cons_append, List.nil_append, true_and, and_true, Nat.reduceAdd, Nat.reduceLeDiff, not_true_eq_false, not_false_eq_true, if_true, if_false, ite_true, ite_false, Int32.reduceLT, ite_not, eq_self, or_true, true_or, ite_self, reduceIte, e2, nI_pred]
  exact hQ
end Kept
