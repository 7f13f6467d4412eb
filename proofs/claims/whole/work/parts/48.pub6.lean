/-! ===== the public calls, in pairs ===== -/
section Pub
variable {d : Nat} {w : Mem} {T : Tv} {D F : Nat → Nat}
theorem p_bestRank {x : Int32} (hI : IV w T D F) : PRI (d + 20) m_X10_bestRank m_X11_bestRank [.ref 0, .int x] [.ref 59, .int x] w := by
  obtain ⟨hZ, hP, ⟨c1, c2, c3⟩, -⟩ := id hI
  have hz := hZ.2
  by_cases g0 : inR x (nH T)
  · obtain ⟨k, hk, rfl⟩ := inR_k g0 (by omega)
    have hH : 1 ≤ nH T := by omega
    have hU := hP.pu hH
    obtain ⟨-, hO, hD, hDH, h0, h7, hFr⟩ := id hU
    refine askI (v := (bst T D (some k) (KK T ^ nL T)).1) (tr := 0) hI (by decide) (fun Q hQ => ?_) (fun w1 K hM hK => ?_)
    · refine Cl_of k_X10_bestRank.1 (Nat.le_of_ble_eq_true rfl) (show Wp m_X10_bestRank _ 0 _ 0 [.ref 0, .int (nI k)] [] _ from S_X10_bestRank_0 _ _ _ ?_)
      simp +decide (disch := omega) only [↓EQA, CEA, LIA, NIA, Nat.lt_irrefl, Option.toList_some, Option.toList_none, List.cons_append, List.nil_append, true_and, and_true, Nat.reduceAdd, Nat.reduceLeDiff, not_true_eq_false, not_false_eq_true, if_true, if_false, ite_true, ite_false, Int32.reduceLT, ite_not, eq_self, or_true, true_or, ite_self, reduceIte, B_X10_bestRank_0, mrg]
      refine t_isHouse c1 hZ ?_
      rw [show bI (inR _ (nH T)) = 1 from if_pos g0]
      simp +decide (disch := omega) only [↓EQA, CEA, LIA, NIA, Nat.lt_irrefl, Option.toList_some, Option.toList_none, List.cons_append, List.nil_append, true_and, and_true, Nat.reduceAdd, Nat.reduceLeDiff, not_true_eq_false, not_false_eq_true, if_true, if_false, ite_true, ite_false, Int32.reduceLT, ite_not, eq_self, or_true, true_or, ite_self, reduceIte, mrg]
      refine t_findBest c1 hZ hO c2 hD c3 hk fun w2 ha2 hR2 hC2 => ?_
      simp +decide (disch := omega) only [↓EQA, CEA, LIA, NIA, Nat.lt_irrefl, Option.toList_some, Option.toList_none, List.cons_append, List.nil_append, true_and, and_true, Nat.reduceAdd, Nat.reduceLeDiff, not_true_eq_false, not_false_eq_true, if_true, if_false, ite_true, ite_false, Int32.reduceLT, ite_not, eq_self, or_true, true_or, ite_self, reduceIte, hR2.1]
      refine t_grantedG ((ha2.wk fun j i z => by omega)) (hC2) fun w9 h9 => ?_
      simp +decide (disch := omega) only [↓EQA, CEA, LIA, NIA, Nat.lt_irrefl, Option.toList_some, Option.toList_none, List.cons_append, List.nil_append, true_and, and_true, Nat.reduceAdd, Nat.reduceLeDiff, not_true_eq_false, not_false_eq_true, if_true, if_false, ite_true, ite_false, Int32.reduceLT, ite_not, eq_self, or_true, true_or, ite_self, reduceIte, mrg]
      exact hQ _ h9
    · refine Cl_of k_X11_bestRank.1 (Nat.le_of_ble_eq_true rfl) (show Wp m_X11_bestRank _ 0 _ 0 [.ref 59, .int (nI k)] [] _ from S_X11_bestRank_0 _ _ _ ?_)
      simp +decide (disch := omega) only [↓EQA, CEA, LIA, NIA, Nat.lt_irrefl, Option.toList_some, Option.toList_none, List.cons_append, List.nil_append, true_and, and_true, Nat.reduceAdd, Nat.reduceLeDiff, not_true_eq_false, not_false_eq_true, if_true, if_false, ite_true, ite_false, Int32.reduceLT, ite_not, eq_self, or_true, true_or, ite_self, reduceIte, B_X11_bestRank_0]
      refine u_goodG hM fun wg hMg hA h11 => ?_
      simp +decide (disch := omega) only [↓EQA, CEA, LIA, NIA, Nat.lt_irrefl, Option.toList_some, Option.toList_none, List.cons_append, List.nil_append, true_and, and_true, Nat.reduceAdd, Nat.reduceLeDiff, not_true_eq_false, not_false_eq_true, if_true, if_false, ite_true, ite_false, Int32.reduceLT, ite_not, eq_self, or_true, true_or, ite_self, reduceIte]
      refine u_isHouse hMg hZ hP ?_
      rw [show bI (inR _ (nH T)) = 1 from if_pos g0]
      simp +decide (disch := omega) only [↓EQA, CEA, LIA, NIA, Nat.lt_irrefl, Option.toList_some, Option.toList_none, List.cons_append, List.nil_append, true_and, and_true, Nat.reduceAdd, Nat.reduceLeDiff, not_true_eq_false, not_false_eq_true, if_true, if_false, ite_true, ite_false, Int32.reduceLT, ite_not, eq_self, or_true, true_or, ite_self, reduceIte, mrg]
      refine u_seekLoads (qn := some k) hU (fun h e => by cases e; exact hk) hMg.1 hMg.2.1 hMg.2.2.1 fun w2 ha2 hB2 h22 => ?_
      simp +decide (disch := omega) only [↓EQA, CEA, LIA, NIA, Nat.lt_irrefl, Option.toList_some, Option.toList_none, List.cons_append, List.nil_append, true_and, and_true, Nat.reduceAdd, Nat.reduceLeDiff, not_true_eq_false, not_false_eq_true, if_true, if_false, ite_true, ite_false, Int32.reduceLT, ite_not, eq_self, or_true, true_or, ite_self, reduceIte, hB2.1]
      exact hK _ ⟨hA.tr (ha2.wk fun j i z => by omega), h22, by rw [(ha2 59 11 (by omega)).1]; exact h11⟩
  · refine askI (v := -1) (tr := 1) hI (by decide) (fun Q hQ => ?_) (fun w1 K hM hK => ?_)
    · refine Cl_of k_X10_bestRank.1 (Nat.le_of_ble_eq_true rfl) (show Wp m_X10_bestRank _ 0 _ 0 [.ref 0, .int x] [] _ from S_X10_bestRank_0 _ _ _ ?_)
      simp +decide (disch := omega) only [↓EQA, CEA, LIA, NIA, Nat.lt_irrefl, Option.toList_some, Option.toList_none, List.cons_append, List.nil_append, true_and, and_true, Nat.reduceAdd, Nat.reduceLeDiff, not_true_eq_false, not_false_eq_true, if_true, if_false, ite_true, ite_false, Int32.reduceLT, ite_not, eq_self, or_true, true_or, ite_self, reduceIte, B_X10_bestRank_0, mrg]
      refine t_isHouse c1 hZ ?_
      rw [show bI (inR _ (nH T)) = 0 from if_neg g0]
      simp +decide (disch := omega) only [↓EQA, CEA, LIA, NIA, Nat.lt_irrefl, Option.toList_some, Option.toList_none, List.cons_append, List.nil_append, true_and, and_true, Nat.reduceAdd, Nat.reduceLeDiff, not_true_eq_false, not_false_eq_true, if_true, if_false, ite_true, ite_false, Int32.reduceLT, ite_not, eq_self, or_true, true_or, ite_self, reduceIte, mrg]
      refine t_refusedG Ag.rf c3 fun w9 h9 => ?_
      simp +decide (disch := omega) only [↓EQA, CEA, LIA, NIA, Nat.lt_irrefl, Option.toList_some, Option.toList_none, List.cons_append, List.nil_append, true_and, and_true, Nat.reduceAdd, Nat.reduceLeDiff, not_true_eq_false, not_false_eq_true, if_true, if_false, ite_true, ite_false, Int32.reduceLT, ite_not, eq_self, or_true, true_or, ite_self, reduceIte, mrg]
      exact hQ _ h9
    · refine Cl_of k_X11_bestRank.1 (Nat.le_of_ble_eq_true rfl) (show Wp m_X11_bestRank _ 0 _ 0 [.ref 59, .int x] [] _ from S_X11_bestRank_0 _ _ _ ?_)
      simp +decide (disch := omega) only [↓EQA, CEA, LIA, NIA, Nat.lt_irrefl, Option.toList_some, Option.toList_none, List.cons_append, List.nil_append, true_and, and_true, Nat.reduceAdd, Nat.reduceLeDiff, not_true_eq_false, not_false_eq_true, if_true, if_false, ite_true, ite_false, Int32.reduceLT, ite_not, eq_self, or_true, true_or, ite_self, reduceIte, B_X11_bestRank_0]
      refine u_goodG hM fun wg hMg hA h11 => ?_
      simp +decide (disch := omega) only [↓EQA, CEA, LIA, NIA, Nat.lt_irrefl, Option.toList_some, Option.toList_none, List.cons_append, List.nil_append, true_and, and_true, Nat.reduceAdd, Nat.reduceLeDiff, not_true_eq_false, not_false_eq_true, if_true, if_false, ite_true, ite_false, Int32.reduceLT, ite_not, eq_self, or_true, true_or, ite_self, reduceIte]
      refine u_isHouse hMg hZ hP ?_
      rw [show bI (inR _ (nH T)) = 0 from if_neg g0]
      simp +decide (disch := omega) only [↓EQA, CEA, LIA, NIA, Nat.lt_irrefl, Option.toList_some, Option.toList_none, List.cons_append, List.nil_append, true_and, and_true, Nat.reduceAdd, Nat.reduceLeDiff, not_true_eq_false, not_false_eq_true, if_true, if_false, ite_true, ite_false, Int32.reduceLT, ite_not, eq_self, or_true, true_or, ite_self, reduceIte, mrg]
      refine u_noG hMg hA fun w9 h9 => ?_
      simp +decide (disch := omega) only [↓EQA, CEA, LIA, NIA, Nat.lt_irrefl, Option.toList_some, Option.toList_none, List.cons_append, List.nil_append, true_and, and_true, Nat.reduceAdd, Nat.reduceLeDiff, not_true_eq_false, not_false_eq_true, if_true, if_false, ite_true, ite_false, Int32.reduceLT, ite_not, eq_self, or_true, true_or, ite_self, reduceIte, mrg]
      exact hK _ h9
theorem p_loadMoves {x : Int32} (hI : IV w T D F) : PRI (d + 20) m_X10_loadMoves m_X11_loadMoves [.ref 0, .int x] [.ref 59, .int x] w := by
  obtain ⟨hZ, hP, ⟨c1, c2, c3⟩, -⟩ := id hI
  have hz := hZ.2
  by_cases g0 : inR x (nH T)
  · obtain ⟨k, hk, rfl⟩ := inR_k g0 (by omega)
    have hH : 1 ≤ nH T := by omega
    have hU := hP.pu hH
    obtain ⟨-, hO, hD, hDH, h0, h7, hFr⟩ := id hU
    refine askI (v := (bst T D (some k) (KK T ^ nL T)).2.1) (tr := 0) hI (by decide) (fun Q hQ => ?_) (fun w1 K hM hK => ?_)
    · refine Cl_of k_X10_loadMoves.1 (Nat.le_of_ble_eq_true rfl) (show Wp m_X10_loadMoves _ 0 _ 0 [.ref 0, .int (nI k)] [] _ from S_X10_loadMoves_0 _ _ _ ?_)
      simp +decide (disch := omega) only [↓EQA, CEA, LIA, NIA, Nat.lt_irrefl, Option.toList_some, Option.toList_none, List.cons_append, List.nil_append, true_and, and_true, Nat.reduceAdd, Nat.reduceLeDiff, not_true_eq_false, not_false_eq_true, if_true, if_false, ite_true, ite_false, Int32.reduceLT, ite_not, eq_self, or_true, true_or, ite_self, reduceIte, B_X10_loadMoves_0, mrg]
      refine t_isHouse c1 hZ ?_
      rw [show bI (inR _ (nH T)) = 1 from if_pos g0]
      simp +decide (disch := omega) only [↓EQA, CEA, LIA, NIA, Nat.lt_irrefl, Option.toList_some, Option.toList_none, List.cons_append, List.nil_append, true_and, and_true, Nat.reduceAdd, Nat.reduceLeDiff, not_true_eq_false, not_false_eq_true, if_true, if_false, ite_true, ite_false, Int32.reduceLT, ite_not, eq_self, or_true, true_or, ite_self, reduceIte, mrg]
      refine t_findBest c1 hZ hO c2 hD c3 hk fun w2 ha2 hR2 hC2 => ?_
      simp +decide (disch := omega) only [↓EQA, CEA, LIA, NIA, Nat.lt_irrefl, Option.toList_some, Option.toList_none, List.cons_append, List.nil_append, true_and, and_true, Nat.reduceAdd, Nat.reduceLeDiff, not_true_eq_false, not_false_eq_true, if_true, if_false, ite_true, ite_false, Int32.reduceLT, ite_not, eq_self, or_true, true_or, ite_self, reduceIte, hR2.2.1]
      refine t_grantedG ((ha2.wk fun j i z => by omega)) (hC2) fun w9 h9 => ?_
      simp +decide (disch := omega) only [↓EQA, CEA, LIA, NIA, Nat.lt_irrefl, Option.toList_some, Option.toList_none, List.cons_append, List.nil_append, true_and, and_true, Nat.reduceAdd, Nat.reduceLeDiff, not_true_eq_false, not_false_eq_true, if_true, if_false, ite_true, ite_false, Int32.reduceLT, ite_not, eq_self, or_true, true_or, ite_self, reduceIte, mrg]
      exact hQ _ h9
    · refine Cl_of k_X11_loadMoves.1 (Nat.le_of_ble_eq_true rfl) (show Wp m_X11_loadMoves _ 0 _ 0 [.ref 59, .int (nI k)] [] _ from S_X11_loadMoves_0 _ _ _ ?_)
      simp +decide (disch := omega) only [↓EQA, CEA, LIA, NIA, Nat.lt_irrefl, Option.toList_some, Option.toList_none, List.cons_append, List.nil_append, true_and, and_true, Nat.reduceAdd, Nat.reduceLeDiff, not_true_eq_false, not_false_eq_true, if_true, if_false, ite_true, ite_false, Int32.reduceLT, ite_not, eq_self, or_true, true_or, ite_self, reduceIte, B_X11_loadMoves_0]
      refine u_goodG hM fun wg hMg hA h11 => ?_
      simp +decide (disch := omega) only [↓EQA, CEA, LIA, NIA, Nat.lt_irrefl, Option.toList_some, Option.toList_none, List.cons_append, List.nil_append, true_and, and_true, Nat.reduceAdd, Nat.reduceLeDiff, not_true_eq_false, not_false_eq_true, if_true, if_false, ite_true, ite_false, Int32.reduceLT, ite_not, eq_self, or_true, true_or, ite_self, reduceIte]
      refine u_isHouse hMg hZ hP ?_
      rw [show bI (inR _ (nH T)) = 1 from if_pos g0]
      simp +decide (disch := omega) only [↓EQA, CEA, LIA, NIA, Nat.lt_irrefl, Option.toList_some, Option.toList_none, List.cons_append, List.nil_append, true_and, and_true, Nat.reduceAdd, Nat.reduceLeDiff, not_true_eq_false, not_false_eq_true, if_true, if_false, ite_true, ite_false, Int32.reduceLT, ite_not, eq_self, or_true, true_or, ite_self, reduceIte, mrg]
      refine u_seekLoads (qn := some k) hU (fun h e => by cases e; exact hk) hMg.1 hMg.2.1 hMg.2.2.1 fun w2 ha2 hB2 h22 => ?_
      simp +decide (disch := omega) only [↓EQA, CEA, LIA, NIA, Nat.lt_irrefl, Option.toList_some, Option.toList_none, List.cons_append, List.nil_append, true_and, and_true, Nat.reduceAdd, Nat.reduceLeDiff, not_true_eq_false, not_false_eq_true, if_true, if_false, ite_true, ite_false, Int32.reduceLT, ite_not, eq_self, or_true, true_or, ite_self, reduceIte, hB2.2.1]
      exact hK _ ⟨hA.tr (ha2.wk fun j i z => by omega), h22, by rw [(ha2 59 11 (by omega)).1]; exact h11⟩
  · refine askI (v := -1) (tr := 1) hI (by decide) (fun Q hQ => ?_) (fun w1 K hM hK => ?_)
    · refine Cl_of k_X10_loadMoves.1 (Nat.le_of_ble_eq_true rfl) (show Wp m_X10_loadMoves _ 0 _ 0 [.ref 0, .int x] [] _ from S_X10_loadMoves_0 _ _ _ ?_)
      simp +decide (disch := omega) only [↓EQA, CEA, LIA, NIA, Nat.lt_irrefl, Option.toList_some, Option.toList_none, List.cons_append, List.nil_append, true_and, and_true, Nat.reduceAdd, Nat.reduceLeDiff, not_true_eq_false, not_false_eq_true, if_true, if_false, ite_true, ite_false, Int32.reduceLT, ite_not, eq_self, or_true, true_or, ite_self, reduceIte, B_X10_loadMoves_0, mrg]
      refine t_isHouse c1 hZ ?_
      rw [show bI (inR _ (nH T)) = 0 from if_neg g0]
      simp +decide (disch := omega) only [↓EQA, CEA, LIA, NIA, Nat.lt_irrefl, Option.toList_some, Option.toList_none, List.cons_append, List.nil_append, true_and, and_true, Nat.reduceAdd, Nat.reduceLeDiff, not_true_eq_false, not_false_eq_true, if_true, if_false, ite_true, ite_false, Int32.reduceLT, ite_not, eq_self, or_true, true_or, ite_self, reduceIte, mrg]
      refine t_refusedG Ag.rf c3 fun w9 h9 => ?_
      simp +decide (disch := omega) only [↓EQA, CEA, LIA, NIA, Nat.lt_irrefl, Option.toList_some, Option.toList_none, List.cons_append, List.nil_append, true_and, and_true, Nat.reduceAdd, Nat.reduceLeDiff, not_true_eq_false, not_false_eq_true, if_true, if_false, ite_true, ite_false, Int32.reduceLT, ite_not, eq_self, or_true, true_or, ite_self, reduceIte, mrg]
      exact hQ _ h9
    · refine Cl_of k_X11_loadMoves.1 (Nat.le_of_ble_eq_true rfl) (show Wp m_X11_loadMoves _ 0 _ 0 [.ref 59, .int x] [] _ from S_X11_loadMoves_0 _ _ _ ?_)
      simp +decide (disch := omega) only [↓EQA, CEA, LIA, NIA, Nat.lt_irrefl, Option.toList_some, Option.toList_none, List.cons_append, List.nil_append, true_and, and_true, Nat.reduceAdd, Nat.reduceLeDiff, not_true_eq_false, not_false_eq_true, if_true, if_false, ite_true, ite_false, Int32.reduceLT, ite_not, eq_self, or_true, true_or, ite_self, reduceIte, B_X11_loadMoves_0]
      refine u_goodG hM fun wg hMg hA h11 => ?_
      simp +decide (disch := omega) only [↓EQA, CEA, LIA, NIA, Nat.lt_irrefl, Option.toList_some, Option.toList_none, List.cons_append, List.nil_append, true_and, and_true, Nat.reduceAdd, Nat.reduceLeDiff, not_true_eq_false, not_false_eq_true, if_true, if_false, ite_true, ite_false, Int32.reduceLT, ite_not, eq_self, or_true, true_or, ite_self, reduceIte]
      refine u_isHouse hMg hZ hP ?_
      rw [show bI (inR _ (nH T)) = 0 from if_neg g0]
      simp +decide (disch := omega) only [↓EQA, CEA, LIA, NIA, Nat.lt_irrefl, Option.toList_some, Option.toList_none, List.cons_append, List.nil_append, true_and, and_true, Nat.reduceAdd, Nat.reduceLeDiff, not_true_eq_false, not_false_eq_true, if_true, if_false, ite_true, ite_false, Int32.reduceLT, ite_not, eq_self, or_true, true_or, ite_self, reduceIte, mrg]
      refine u_noG hMg hA fun w9 h9 => ?_
      simp +decide (disch := omega) only [↓EQA, CEA, LIA, NIA, Nat.lt_irrefl, Option.toList_some, Option.toList_none, List.cons_append, List.nil_append, true_and, and_true, Nat.reduceAdd, Nat.reduceLeDiff, not_true_eq_false, not_false_eq_true, if_true, if_false, ite_true, ite_false, Int32.reduceLT, ite_not, eq_self, or_true, true_or, ite_self, reduceIte, mrg]
      exact hK _ h9
theorem p_loadOf {x y : Int32} (hI : IV w T D F) : PRI (d + 20) m_X10_loadOf m_X11_loadOf [.ref 0, .int x, .int y] [.ref 59, .int x, .int y] w := by
  obtain ⟨hZ, hP, ⟨c1, c2, c3⟩, -⟩ := id hI
  have hz := hZ.2
  by_cases g0 : inR x (nH T)
  · obtain ⟨k, hk, rfl⟩ := inR_k g0 (by omega)
    by_cases g1 : inR y (nL T)
    · obtain ⟨j, hj, rfl⟩ := inR_k g1 (by omega)
      have hH : 1 ≤ nH T := by omega
      have hU := hP.pu hH
      obtain ⟨-, hO, hD, hDH, h0, h7, hFr⟩ := id hU
      refine askI (v := plD (dg T (bst T D (some k) (KK T ^ nL T)).2.2 j)) (tr := 0) hI (by decide) (fun Q hQ => ?_) (fun w1 K hM hK => ?_)
      · refine Cl_of k_X10_loadOf.1 (Nat.le_of_ble_eq_true rfl) (show Wp m_X10_loadOf _ 0 _ 0 [.ref 0, .int (nI k), .int (nI j)] [] _ from S_X10_loadOf_0 _ _ _ ?_)
        simp +decide (disch := omega) only [↓EQA, CEA, LIA, NIA, Nat.lt_irrefl, Option.toList_some, Option.toList_none, List.cons_append, List.nil_append, true_and, and_true, Nat.reduceAdd, Nat.reduceLeDiff, not_true_eq_false, not_false_eq_true, if_true, if_false, ite_true, ite_false, Int32.reduceLT, ite_not, eq_self, or_true, true_or, ite_self, reduceIte, B_X10_loadOf_0, B_X10_loadOf_J1]
        refine t_isHouse c1 hZ ?_
        rw [show bI (inR _ (nH T)) = 1 from if_pos g0]
        simp +decide (disch := omega) only [↓EQA, CEA, LIA, NIA, Nat.lt_irrefl, Option.toList_some, Option.toList_none, List.cons_append, List.nil_append, true_and, and_true, Nat.reduceAdd, Nat.reduceLeDiff, not_true_eq_false, not_false_eq_true, if_true, if_false, ite_true, ite_false, Int32.reduceLT, ite_not, eq_self, or_true, true_or, ite_self, reduceIte, B_X10_loadOf_J1]
        refine t_isLodger c1 hZ ?_
        rw [show bI (inR _ (nL T)) = 1 from if_pos g1]
        simp +decide (disch := omega) only [↓EQA, CEA, LIA, NIA, Nat.lt_irrefl, Option.toList_some, Option.toList_none, List.cons_append, List.nil_append, true_and, and_true, Nat.reduceAdd, Nat.reduceLeDiff, not_true_eq_false, not_false_eq_true, if_true, if_false, ite_true, ite_false, Int32.reduceLT, ite_not, eq_self, or_true, true_or, ite_self, reduceIte, B_X10_loadOf_J1]
        refine t_findBest c1 hZ hO c2 hD c3 hk fun w2 ha2 hR2 hC2 => ?_
        have hj5 : j < 5 := by omega
        simp +decide (disch := omega) only [↓EQA, CEA, LIA, NIA, Nat.lt_irrefl, Option.toList_some, Option.toList_none, List.cons_append, List.nil_append, true_and, and_true, Nat.reduceAdd, Nat.reduceLeDiff, not_true_eq_false, not_false_eq_true, if_true, if_false, ite_true, ite_false, Int32.reduceLT, ite_not, eq_self, or_true, true_or, ite_self, reduceIte, hj5, hR2.2.2 j hj5]
        refine t_grantedG ((ha2.wk fun j i z => by omega)) (hC2) fun w9 h9 => ?_
        simp +decide (disch := omega) only [↓EQA, CEA, LIA, NIA, Nat.lt_irrefl, Option.toList_some, Option.toList_none, List.cons_append, List.nil_append, true_and, and_true, Nat.reduceAdd, Nat.reduceLeDiff, not_true_eq_false, not_false_eq_true, if_true, if_false, ite_true, ite_false, Int32.reduceLT, ite_not, eq_self, or_true, true_or, ite_self, reduceIte, B_X10_loadOf_J1]
        exact hQ _ h9
      · refine Cl_of k_X11_loadOf.1 (Nat.le_of_ble_eq_true rfl) (show Wp m_X11_loadOf _ 0 _ 0 [.ref 59, .int (nI k), .int (nI j)] [] _ from S_X11_loadOf_0 _ _ _ ?_)
        simp +decide (disch := omega) only [↓EQA, CEA, LIA, NIA, Nat.lt_irrefl, Option.toList_some, Option.toList_none, List.cons_append, List.nil_append, true_and, and_true, Nat.reduceAdd, Nat.reduceLeDiff, not_true_eq_false, not_false_eq_true, if_true, if_false, ite_true, ite_false, Int32.reduceLT, ite_not, eq_self, or_true, true_or, ite_self, reduceIte, B_X11_loadOf_0]
        refine u_goodG hM fun wg hMg hA h11 => ?_
        simp +decide (disch := omega) only [↓EQA, CEA, LIA, NIA, Nat.lt_irrefl, Option.toList_some, Option.toList_none, List.cons_append, List.nil_append, true_and, and_true, Nat.reduceAdd, Nat.reduceLeDiff, not_true_eq_false, not_false_eq_true, if_true, if_false, ite_true, ite_false, Int32.reduceLT, ite_not, eq_self, or_true, true_or, ite_self, reduceIte]
        refine u_isHouse hMg hZ hP ?_
        rw [show bI (inR _ (nH T)) = 1 from if_pos g0]
        simp +decide (disch := omega) only [↓EQA, CEA, LIA, NIA, Nat.lt_irrefl, Option.toList_some, Option.toList_none, List.cons_append, List.nil_append, true_and, and_true, Nat.reduceAdd, Nat.reduceLeDiff, not_true_eq_false, not_false_eq_true, if_true, if_false, ite_true, ite_false, Int32.reduceLT, ite_not, eq_self, or_true, true_or, ite_self, reduceIte, B_X11_loadOf_J1]
        refine u_isLodger hMg hZ hP ?_
        rw [show bI (inR _ (nL T)) = 1 from if_pos g1]
        simp +decide (disch := omega) only [↓EQA, CEA, LIA, NIA, Nat.lt_irrefl, Option.toList_some, Option.toList_none, List.cons_append, List.nil_append, true_and, and_true, Nat.reduceAdd, Nat.reduceLeDiff, not_true_eq_false, not_false_eq_true, if_true, if_false, ite_true, ite_false, Int32.reduceLT, ite_not, eq_self, or_true, true_or, ite_self, reduceIte, B_X11_loadOf_J1]
        refine u_seekLoads (qn := some k) hU (fun h e => by cases e; exact hk) hMg.1 hMg.2.1 hMg.2.2.1 fun w2 ha2 hB2 h22 => ?_
        simp +decide (disch := omega) only [↓EQA, CEA, LIA, NIA, Nat.lt_irrefl, Option.toList_some, Option.toList_none, List.cons_append, List.nil_append, true_and, and_true, Nat.reduceAdd, Nat.reduceLeDiff, not_true_eq_false, not_false_eq_true, if_true, if_false, ite_true, ite_false, Int32.reduceLT, ite_not, eq_self, or_true, true_or, ite_self, reduceIte]
        refine u_bestAt (show j < 5 by omega) (Nat.le_trans dg_le hz.2.1) (hB2.2.2.1 (Nat.pow_pos (Nat.succ_pos _)) j (by omega)) ?_
        simp +decide (disch := omega) only [↓EQA, CEA, LIA, NIA, Nat.lt_irrefl, Option.toList_some, Option.toList_none, List.cons_append, List.nil_append, true_and, and_true, Nat.reduceAdd, Nat.reduceLeDiff, not_true_eq_false, not_false_eq_true, if_true, if_false, ite_true, ite_false, Int32.reduceLT, ite_not, eq_self, or_true, true_or, ite_self, reduceIte]
        exact hK _ ⟨hA.tr (ha2.wk fun j i z => by omega), h22, by rw [(ha2 59 11 (by omega)).1]; exact h11⟩
    · refine askI (v := -1) (tr := 1) hI (by decide) (fun Q hQ => ?_) (fun w1 K hM hK => ?_)
      · refine Cl_of k_X10_loadOf.1 (Nat.le_of_ble_eq_true rfl) (show Wp m_X10_loadOf _ 0 _ 0 [.ref 0, .int (nI k), .int y] [] _ from S_X10_loadOf_0 _ _ _ ?_)
        simp +decide (disch := omega) only [↓EQA, CEA, LIA, NIA, Nat.lt_irrefl, Option.toList_some, Option.toList_none, List.cons_append, List.nil_append, true_and, and_true, Nat.reduceAdd, Nat.reduceLeDiff, not_true_eq_false, not_false_eq_true, if_true, if_false, ite_true, ite_false, Int32.reduceLT, ite_not, eq_self, or_true, true_or, ite_self, reduceIte, B_X10_loadOf_0, B_X10_loadOf_J1]
        refine t_isHouse c1 hZ ?_
        rw [show bI (inR _ (nH T)) = 1 from if_pos g0]
        simp +decide (disch := omega) only [↓EQA, CEA, LIA, NIA, Nat.lt_irrefl, Option.toList_some, Option.toList_none, List.cons_append, List.nil_append, true_and, and_true, Nat.reduceAdd, Nat.reduceLeDiff, not_true_eq_false, not_false_eq_true, if_true, if_false, ite_true, ite_false, Int32.reduceLT, ite_not, eq_self, or_true, true_or, ite_self, reduceIte, B_X10_loadOf_J1]
        refine t_isLodger c1 hZ ?_
        rw [show bI (inR _ (nL T)) = 0 from if_neg g1]
        simp +decide (disch := omega) only [↓EQA, CEA, LIA, NIA, Nat.lt_irrefl, Option.toList_some, Option.toList_none, List.cons_append, List.nil_append, true_and, and_true, Nat.reduceAdd, Nat.reduceLeDiff, not_true_eq_false, not_false_eq_true, if_true, if_false, ite_true, ite_false, Int32.reduceLT, ite_not, eq_self, or_true, true_or, ite_self, reduceIte, B_X10_loadOf_J1]
        refine t_refusedG Ag.rf c3 fun w9 h9 => ?_
        simp +decide (disch := omega) only [↓EQA, CEA, LIA, NIA, Nat.lt_irrefl, Option.toList_some, Option.toList_none, List.cons_append, List.nil_append, true_and, and_true, Nat.reduceAdd, Nat.reduceLeDiff, not_true_eq_false, not_false_eq_true, if_true, if_false, ite_true, ite_false, Int32.reduceLT, ite_not, eq_self, or_true, true_or, ite_self, reduceIte, B_X10_loadOf_J1]
        exact hQ _ h9
      · refine Cl_of k_X11_loadOf.1 (Nat.le_of_ble_eq_true rfl) (show Wp m_X11_loadOf _ 0 _ 0 [.ref 59, .int (nI k), .int y] [] _ from S_X11_loadOf_0 _ _ _ ?_)
        simp +decide (disch := omega) only [↓EQA, CEA, LIA, NIA, Nat.lt_irrefl, Option.toList_some, Option.toList_none, List.cons_append, List.nil_append, true_and, and_true, Nat.reduceAdd, Nat.reduceLeDiff, not_true_eq_false, not_false_eq_true, if_true, if_false, ite_true, ite_false, Int32.reduceLT, ite_not, eq_self, or_true, true_or, ite_self, reduceIte, B_X11_loadOf_0]
        refine u_goodG hM fun wg hMg hA h11 => ?_
        simp +decide (disch := omega) only [↓EQA, CEA, LIA, NIA, Nat.lt_irrefl, Option.toList_some, Option.toList_none, List.cons_append, List.nil_append, true_and, and_true, Nat.reduceAdd, Nat.reduceLeDiff, not_true_eq_false, not_false_eq_true, if_true, if_false, ite_true, ite_false, Int32.reduceLT, ite_not, eq_self, or_true, true_or, ite_self, reduceIte]
        refine u_isHouse hMg hZ hP ?_
        rw [show bI (inR _ (nH T)) = 1 from if_pos g0]
        simp +decide (disch := omega) only [↓EQA, CEA, LIA, NIA, Nat.lt_irrefl, Option.toList_some, Option.toList_none, List.cons_append, List.nil_append, true_and, and_true, Nat.reduceAdd, Nat.reduceLeDiff, not_true_eq_false, not_false_eq_true, if_true, if_false, ite_true, ite_false, Int32.reduceLT, ite_not, eq_self, or_true, true_or, ite_self, reduceIte, B_X11_loadOf_J1]
        refine u_isLodger hMg hZ hP ?_
        rw [show bI (inR _ (nL T)) = 0 from if_neg g1]
        simp +decide (disch := omega) only [↓EQA, CEA, LIA, NIA, Nat.lt_irrefl, Option.toList_some, Option.toList_none, List.cons_append, List.nil_append, true_and, and_true, Nat.reduceAdd, Nat.reduceLeDiff, not_true_eq_false, not_false_eq_true, if_true, if_false, ite_true, ite_false, Int32.reduceLT, ite_not, eq_self, or_true, true_or, ite_self, reduceIte, B_X11_loadOf_J1]
        refine u_noG hMg hA fun w9 h9 => ?_
        simp +decide (disch := omega) only [↓EQA, CEA, LIA, NIA, Nat.lt_irrefl, Option.toList_some, Option.toList_none, List.cons_append, List.nil_append, true_and, and_true, Nat.reduceAdd, Nat.reduceLeDiff, not_true_eq_false, not_false_eq_true, if_true, if_false, ite_true, ite_false, Int32.reduceLT, ite_not, eq_self, or_true, true_or, ite_self, reduceIte, B_X11_loadOf_J1]
        exact hK _ h9
  · refine askI (v := -1) (tr := 1) hI (by decide) (fun Q hQ => ?_) (fun w1 K hM hK => ?_)
    · refine Cl_of k_X10_loadOf.1 (Nat.le_of_ble_eq_true rfl) (show Wp m_X10_loadOf _ 0 _ 0 [.ref 0, .int x, .int y] [] _ from S_X10_loadOf_0 _ _ _ ?_)
      simp +decide (disch := omega) only [↓EQA, CEA, LIA, NIA, Nat.lt_irrefl, Option.toList_some, Option.toList_none, List.cons_append, List.nil_append, true_and, and_true, Nat.reduceAdd, Nat.reduceLeDiff, not_true_eq_false, not_false_eq_true, if_true, if_false, ite_true, ite_false, Int32.reduceLT, ite_not, eq_self, or_true, true_or, ite_self, reduceIte, B_X10_loadOf_0, B_X10_loadOf_J1]
      refine t_isHouse c1 hZ ?_
      rw [show bI (inR _ (nH T)) = 0 from if_neg g0]
      simp +decide (disch := omega) only [↓EQA, CEA, LIA, NIA, Nat.lt_irrefl, Option.toList_some, Option.toList_none, List.cons_append, List.nil_append, true_and, and_true, Nat.reduceAdd, Nat.reduceLeDiff, not_true_eq_false, not_false_eq_true, if_true, if_false, ite_true, ite_false, Int32.reduceLT, ite_not, eq_self, or_true, true_or, ite_self, reduceIte, B_X10_loadOf_J1]
      refine t_refusedG Ag.rf c3 fun w9 h9 => ?_
      simp +decide (disch := omega) only [↓EQA, CEA, LIA, NIA, Nat.lt_irrefl, Option.toList_some, Option.toList_none, List.cons_append, List.nil_append, true_and, and_true, Nat.reduceAdd, Nat.reduceLeDiff, not_true_eq_false, not_false_eq_true, if_true, if_false, ite_true, ite_false, Int32.reduceLT, ite_not, eq_self, or_true, true_or, ite_self, reduceIte, B_X10_loadOf_J1]
      exact hQ _ h9
    · refine Cl_of k_X11_loadOf.1 (Nat.le_of_ble_eq_true rfl) (show Wp m_X11_loadOf _ 0 _ 0 [.ref 59, .int x, .int y] [] _ from S_X11_loadOf_0 _ _ _ ?_)
      simp +decide (disch := omega) only [↓EQA, CEA, LIA, NIA, Nat.lt_irrefl, Option.toList_some, Option.toList_none, List.cons_append, List.nil_append, true_and, and_true, Nat.reduceAdd, Nat.reduceLeDiff, not_true_eq_false, not_false_eq_true, if_true, if_false, ite_true, ite_false, Int32.reduceLT, ite_not, eq_self, or_true, true_or, ite_self, reduceIte, B_X11_loadOf_0]
      refine u_goodG hM fun wg hMg hA h11 => ?_
      simp +decide (disch := omega) only [↓EQA, CEA, LIA, NIA, Nat.lt_irrefl, Option.toList_some, Option.toList_none, List.cons_append, List.nil_append, true_and, and_true, Nat.reduceAdd, Nat.reduceLeDiff, not_true_eq_false, not_false_eq_true, if_true, if_false, ite_true, ite_false, Int32.reduceLT, ite_not, eq_self, or_true, true_or, ite_self, reduceIte]
      refine u_isHouse hMg hZ hP ?_
      rw [show bI (inR _ (nH T)) = 0 from if_neg g0]
      simp +decide (disch := omega) only [↓EQA, CEA, LIA, NIA, Nat.lt_irrefl, Option.toList_some, Option.toList_none, List.cons_append, List.nil_append, true_and, and_true, Nat.reduceAdd, Nat.reduceLeDiff, not_true_eq_false, not_false_eq_true, if_true, if_false, ite_true, ite_false, Int32.reduceLT, ite_not, eq_self, or_true, true_or, ite_self, reduceIte, B_X11_loadOf_J1]
      refine u_noG hMg hA fun w9 h9 => ?_
      simp +decide (disch := omega) only [↓EQA, CEA, LIA, NIA, Nat.lt_irrefl, Option.toList_some, Option.toList_none, List.cons_append, List.nil_append, true_and, and_true, Nat.reduceAdd, Nat.reduceLeDiff, not_true_eq_false, not_false_eq_true, if_true, if_false, ite_true, ite_false, Int32.reduceLT, ite_not, eq_self, or_true, true_or, ite_self, reduceIte, B_X11_loadOf_J1]
      exact hK _ h9
theorem p_leastTotal {x : Int32} (hI : IV w T D F) : PRI (d + 20) m_X10_leastTotal m_X11_leastTotal [.ref 0, .int x] [.ref 59, .int x] w := by
  obtain ⟨hZ, hP, ⟨c1, c2, c3⟩, -⟩ := id hI
  have hz := hZ.2
  by_cases g0 : inR x (nH T)
  · obtain ⟨k, hk, rfl⟩ := inR_k g0 (by omega)
    have hH : 1 ≤ nH T := by omega
    have hU := hP.pu hH
    obtain ⟨-, hO, hD, hDH, h0, h7, hFr⟩ := id hU
    refine askI (v := lsN T D (some k) (KK T ^ nL T)) (tr := 0) hI (by decide) (fun Q hQ => ?_) (fun w1 K hM hK => ?_)
    · refine Cl_of k_X10_leastTotal.1 (Nat.le_of_ble_eq_true rfl) (show Wp m_X10_leastTotal _ 0 _ 0 [.ref 0, .int (nI k)] [] _ from S_X10_leastTotal_0 _ _ _ ?_)
      simp +decide (disch := omega) only [↓EQA, CEA, LIA, NIA, Nat.lt_irrefl, Option.toList_some, Option.toList_none, List.cons_append, List.nil_append, true_and, and_true, Nat.reduceAdd, Nat.reduceLeDiff, not_true_eq_false, not_false_eq_true, if_true, if_false, ite_true, ite_false, Int32.reduceLT, ite_not, eq_self, or_true, true_or, ite_self, reduceIte, B_X10_leastTotal_0, B_X10_leastTotal_J1]
      refine t_isHouse c1 hZ ?_
      rw [show bI (inR _ (nH T)) = 1 from if_pos g0]
      simp +decide (disch := omega) only [↓EQA, CEA, LIA, NIA, Nat.lt_irrefl, Option.toList_some, Option.toList_none, List.cons_append, List.nil_append, true_and, and_true, Nat.reduceAdd, Nat.reduceLeDiff, not_true_eq_false, not_false_eq_true, if_true, if_false, ite_true, ite_false, Int32.reduceLT, ite_not, eq_self, or_true, true_or, ite_self, reduceIte, B_X10_leastTotal_J1]
      refine t_leastTime c1 hZ c2 hD.rok (by omega) fun w2 ha2 => ?_
      rw [least_eq hU hk]
      simp +decide (disch := omega) only [↓EQA, CEA, LIA, NIA, Nat.lt_irrefl, Option.toList_some, Option.toList_none, List.cons_append, List.nil_append, true_and, and_true, Nat.reduceAdd, Nat.reduceLeDiff, not_true_eq_false, not_false_eq_true, if_true, if_false, ite_true, ite_false, Int32.reduceLT, ite_not, eq_self, or_true, true_or, ite_self, reduceIte]
      refine t_grantedG ((ha2.wk fun j i z => by omega)) ((CCHq c3 ha2 (fun i z => by omega) (fun i z => by omega))) fun w9 h9 => ?_
      simp +decide (disch := omega) only [↓EQA, CEA, LIA, NIA, Nat.lt_irrefl, Option.toList_some, Option.toList_none, List.cons_append, List.nil_append, true_and, and_true, Nat.reduceAdd, Nat.reduceLeDiff, not_true_eq_false, not_false_eq_true, if_true, if_false, ite_true, ite_false, Int32.reduceLT, ite_not, eq_self, or_true, true_or, ite_self, reduceIte, B_X10_leastTotal_J1]
      exact hQ _ h9
    · refine Cl_of k_X11_leastTotal.1 (Nat.le_of_ble_eq_true rfl) (show Wp m_X11_leastTotal _ 0 _ 0 [.ref 59, .int (nI k)] [] _ from S_X11_leastTotal_0 _ _ _ ?_)
      simp +decide (disch := omega) only [↓EQA, CEA, LIA, NIA, Nat.lt_irrefl, Option.toList_some, Option.toList_none, List.cons_append, List.nil_append, true_and, and_true, Nat.reduceAdd, Nat.reduceLeDiff, not_true_eq_false, not_false_eq_true, if_true, if_false, ite_true, ite_false, Int32.reduceLT, ite_not, eq_self, or_true, true_or, ite_self, reduceIte, B_X11_leastTotal_0]
      refine u_goodG hM fun wg hMg hA h11 => ?_
      simp +decide (disch := omega) only [↓EQA, CEA, LIA, NIA, Nat.lt_irrefl, Option.toList_some, Option.toList_none, List.cons_append, List.nil_append, true_and, and_true, Nat.reduceAdd, Nat.reduceLeDiff, not_true_eq_false, not_false_eq_true, if_true, if_false, ite_true, ite_false, Int32.reduceLT, ite_not, eq_self, or_true, true_or, ite_self, reduceIte]
      refine u_isHouse hMg hZ hP ?_
      rw [show bI (inR _ (nH T)) = 1 from if_pos g0]
      simp +decide (disch := omega) only [↓EQA, CEA, LIA, NIA, Nat.lt_irrefl, Option.toList_some, Option.toList_none, List.cons_append, List.nil_append, true_and, and_true, Nat.reduceAdd, Nat.reduceLeDiff, not_true_eq_false, not_false_eq_true, if_true, if_false, ite_true, ite_false, Int32.reduceLT, ite_not, eq_self, or_true, true_or, ite_self, reduceIte, mrg]
      refine u_seekLoads (qn := some k) hU (fun h e => by cases e; exact hk) hMg.1 hMg.2.1 hMg.2.2.1 fun w2 ha2 hB2 h22 => ?_
      simp +decide (disch := omega) only [↓EQA, CEA, LIA, NIA, Nat.lt_irrefl, Option.toList_some, Option.toList_none, List.cons_append, List.nil_append, true_and, and_true, Nat.reduceAdd, Nat.reduceLeDiff, not_true_eq_false, not_false_eq_true, if_true, if_false, ite_true, ite_false, Int32.reduceLT, ite_not, eq_self, or_true, true_or, ite_self, reduceIte, hB2.2.2.2]
      exact hK _ ⟨hA.tr (ha2.wk fun j i z => by omega), h22, by rw [(ha2 59 11 (by omega)).1]; exact h11⟩
  · refine askI (v := -1) (tr := 1) hI (by decide) (fun Q hQ => ?_) (fun w1 K hM hK => ?_)
    · refine Cl_of k_X10_leastTotal.1 (Nat.le_of_ble_eq_true rfl) (show Wp m_X10_leastTotal _ 0 _ 0 [.ref 0, .int x] [] _ from S_X10_leastTotal_0 _ _ _ ?_)
      simp +decide (disch := omega) only [↓EQA, CEA, LIA, NIA, Nat.lt_irrefl, Option.toList_some, Option.toList_none, List.cons_append, List.nil_append, true_and, and_true, Nat.reduceAdd, Nat.reduceLeDiff, not_true_eq_false, not_false_eq_true, if_true, if_false, ite_true, ite_false, Int32.reduceLT, ite_not, eq_self, or_true, true_or, ite_self, reduceIte, B_X10_leastTotal_0, B_X10_leastTotal_J1]
      refine t_isHouse c1 hZ ?_
      rw [show bI (inR _ (nH T)) = 0 from if_neg g0]
      simp +decide (disch := omega) only [↓EQA, CEA, LIA, NIA, Nat.lt_irrefl, Option.toList_some, Option.toList_none, List.cons_append, List.nil_append, true_and, and_true, Nat.reduceAdd, Nat.reduceLeDiff, not_true_eq_false, not_false_eq_true, if_true, if_false, ite_true, ite_false, Int32.reduceLT, ite_not, eq_self, or_true, true_or, ite_self, reduceIte, B_X10_leastTotal_J1]
      refine t_refusedG Ag.rf c3 fun w9 h9 => ?_
      simp +decide (disch := omega) only [↓EQA, CEA, LIA, NIA, Nat.lt_irrefl, Option.toList_some, Option.toList_none, List.cons_append, List.nil_append, true_and, and_true, Nat.reduceAdd, Nat.reduceLeDiff, not_true_eq_false, not_false_eq_true, if_true, if_false, ite_true, ite_false, Int32.reduceLT, ite_not, eq_self, or_true, true_or, ite_self, reduceIte, B_X10_leastTotal_J1]
      exact hQ _ h9
    · refine Cl_of k_X11_leastTotal.1 (Nat.le_of_ble_eq_true rfl) (show Wp m_X11_leastTotal _ 0 _ 0 [.ref 59, .int x] [] _ from S_X11_leastTotal_0 _ _ _ ?_)
      simp +decide (disch := omega) only [↓EQA, CEA, LIA, NIA, Nat.lt_irrefl, Option.toList_some, Option.toList_none, List.cons_append, List.nil_append, true_and, and_true, Nat.reduceAdd, Nat.reduceLeDiff, not_true_eq_false, not_false_eq_true, if_true, if_false, ite_true, ite_false, Int32.reduceLT, ite_not, eq_self, or_true, true_or, ite_self, reduceIte, B_X11_leastTotal_0]
      refine u_goodG hM fun wg hMg hA h11 => ?_
      simp +decide (disch := omega) only [↓EQA, CEA, LIA, NIA, Nat.lt_irrefl, Option.toList_some, Option.toList_none, List.cons_append, List.nil_append, true_and, and_true, Nat.reduceAdd, Nat.reduceLeDiff, not_true_eq_false, not_false_eq_true, if_true, if_false, ite_true, ite_false, Int32.reduceLT, ite_not, eq_self, or_true, true_or, ite_self, reduceIte]
      refine u_isHouse hMg hZ hP ?_
      rw [show bI (inR _ (nH T)) = 0 from if_neg g0]
      simp +decide (disch := omega) only [↓EQA, CEA, LIA, NIA, Nat.lt_irrefl, Option.toList_some, Option.toList_none, List.cons_append, List.nil_append, true_and, and_true, Nat.reduceAdd, Nat.reduceLeDiff, not_true_eq_false, not_false_eq_true, if_true, if_false, ite_true, ite_false, Int32.reduceLT, ite_not, eq_self, or_true, true_or, ite_self, reduceIte, mrg]
      refine u_noG hMg hA fun w9 h9 => ?_
      simp +decide (disch := omega) only [↓EQA, CEA, LIA, NIA, Nat.lt_irrefl, Option.toList_some, Option.toList_none, List.cons_append, List.nil_append, true_and, and_true, Nat.reduceAdd, Nat.reduceLeDiff, not_true_eq_false, not_false_eq_true, if_true, if_false, ite_true, ite_false, Int32.reduceLT, ite_not, eq_self, or_true, true_or, ite_self, reduceIte, mrg]
      exact hK _ h9
theorem p_friendly (hI : IV w T D F) : PRI (d + 20) m_X10_friendly m_X11_friendly [.ref 0] [.ref 59] w := by
  obtain ⟨hZ, hP, ⟨c1, c2, c3⟩, -⟩ := id hI
  have hz := hZ.2
  by_cases g0 : 1 ≤ nH T
  · have hH : 1 ≤ nH T := g0
    have hU := hP.pu hH
    obtain ⟨-, hO, hD, hDH, h0, h7, hFr⟩ := id hU
    refine askI (v := 0 - (bst T D none (KK T ^ nL T)).1) (tr := 0) hI (by decide) (fun Q hQ => ?_) (fun w1 K hM hK => ?_)
    · refine Cl_of k_X10_friendly.1 (Nat.le_of_ble_eq_true rfl) (show Wp m_X10_friendly _ 0 _ 0 [.ref 0] [] _ from S_X10_friendly_0 _ _ _ ?_)
      simp +decide (disch := omega) only [↓EQA, CEA, LIA, NIA, Nat.lt_irrefl, Option.toList_some, Option.toList_none, List.cons_append, List.nil_append, true_and, and_true, Nat.reduceAdd, Nat.reduceLeDiff, not_true_eq_false, not_false_eq_true, if_true, if_false, ite_true, ite_false, Int32.reduceLT, ite_not, eq_self, or_true, true_or, ite_self, reduceIte, B_X10_friendly_0, mrg]
      refine t_isTold c1 hZ ?_
      rw [show bI (1 ≤ nH T) = 1 from if_pos g0]
      simp +decide (disch := omega) only [↓EQA, CEA, LIA, NIA, Nat.lt_irrefl, Option.toList_some, Option.toList_none, List.cons_append, List.nil_append, true_and, and_true, Nat.reduceAdd, Nat.reduceLeDiff, not_true_eq_false, not_false_eq_true, if_true, if_false, ite_true, ite_false, Int32.reduceLT, ite_not, eq_self, or_true, true_or, ite_self, reduceIte, mrg]
      refine t_findFriendly c1 hZ hO c2 hD c3 fun w2 ha2 hR2 hC2 => ?_
      simp +decide (disch := omega) only [↓EQA, CEA, LIA, NIA, Nat.lt_irrefl, Option.toList_some, Option.toList_none, List.cons_append, List.nil_append, true_and, and_true, Nat.reduceAdd, Nat.reduceLeDiff, not_true_eq_false, not_false_eq_true, if_true, if_false, ite_true, ite_false, Int32.reduceLT, ite_not, eq_self, or_true, true_or, ite_self, reduceIte, hR2.1]
      refine t_grantedG ((ha2.wk fun j i z => by omega)) (hC2) fun w9 h9 => ?_
      simp +decide (disch := omega) only [↓EQA, CEA, LIA, NIA, Nat.lt_irrefl, Option.toList_some, Option.toList_none, List.cons_append, List.nil_append, true_and, and_true, Nat.reduceAdd, Nat.reduceLeDiff, not_true_eq_false, not_false_eq_true, if_true, if_false, ite_true, ite_false, Int32.reduceLT, ite_not, eq_self, or_true, true_or, ite_self, reduceIte, mrg]
      exact hQ _ h9
    · refine Cl_of k_X11_friendly.1 (Nat.le_of_ble_eq_true rfl) (show Wp m_X11_friendly _ 0 _ 0 [.ref 59] [] _ from S_X11_friendly_0 _ _ _ ?_)
      simp +decide (disch := omega) only [↓EQA, CEA, LIA, NIA, Nat.lt_irrefl, Option.toList_some, Option.toList_none, List.cons_append, List.nil_append, true_and, and_true, Nat.reduceAdd, Nat.reduceLeDiff, not_true_eq_false, not_false_eq_true, if_true, if_false, ite_true, ite_false, Int32.reduceLT, ite_not, eq_self, or_true, true_or, ite_self, reduceIte, B_X11_friendly_0]
      refine u_goodG hM fun wg hMg hA h11 => ?_
      simp +decide (disch := omega) only [↓EQA, CEA, LIA, NIA, Nat.lt_irrefl, Option.toList_some, Option.toList_none, List.cons_append, List.nil_append, true_and, and_true, Nat.reduceAdd, Nat.reduceLeDiff, not_true_eq_false, not_false_eq_true, if_true, if_false, ite_true, ite_false, Int32.reduceLT, ite_not, eq_self, or_true, true_or, ite_self, reduceIte, e14 hMg g0, mrg]
      refine u_seekLoads (qn := none) hU (fun h e => by cases e) hMg.1 hMg.2.1 hMg.2.2.1 fun w2 ha2 hB2 h22 => ?_
      simp +decide (disch := omega) only [↓EQA, CEA, LIA, NIA, Nat.lt_irrefl, Option.toList_some, Option.toList_none, List.cons_append, List.nil_append, true_and, and_true, Nat.reduceAdd, Nat.reduceLeDiff, not_true_eq_false, not_false_eq_true, if_true, if_false, ite_true, ite_false, Int32.reduceLT, ite_not, eq_self, or_true, true_or, ite_self, reduceIte, hB2.1]
      exact hK _ ⟨hA.tr (ha2.wk fun j i z => by omega), h22, by rw [(ha2 59 11 (by omega)).1]; exact h11⟩
  · refine askI (v := -1) (tr := 1) hI (by decide) (fun Q hQ => ?_) (fun w1 K hM hK => ?_)
    · refine Cl_of k_X10_friendly.1 (Nat.le_of_ble_eq_true rfl) (show Wp m_X10_friendly _ 0 _ 0 [.ref 0] [] _ from S_X10_friendly_0 _ _ _ ?_)
      simp +decide (disch := omega) only [↓EQA, CEA, LIA, NIA, Nat.lt_irrefl, Option.toList_some, Option.toList_none, List.cons_append, List.nil_append, true_and, and_true, Nat.reduceAdd, Nat.reduceLeDiff, not_true_eq_false, not_false_eq_true, if_true, if_false, ite_true, ite_false, Int32.reduceLT, ite_not, eq_self, or_true, true_or, ite_self, reduceIte, B_X10_friendly_0, mrg]
      refine t_isTold c1 hZ ?_
      rw [show bI (1 ≤ nH T) = 0 from if_neg g0]
      simp +decide (disch := omega) only [↓EQA, CEA, LIA, NIA, Nat.lt_irrefl, Option.toList_some, Option.toList_none, List.cons_append, List.nil_append, true_and, and_true, Nat.reduceAdd, Nat.reduceLeDiff, not_true_eq_false, not_false_eq_true, if_true, if_false, ite_true, ite_false, Int32.reduceLT, ite_not, eq_self, or_true, true_or, ite_self, reduceIte, mrg]
      refine t_refusedG Ag.rf c3 fun w9 h9 => ?_
      simp +decide (disch := omega) only [↓EQA, CEA, LIA, NIA, Nat.lt_irrefl, Option.toList_some, Option.toList_none, List.cons_append, List.nil_append, true_and, and_true, Nat.reduceAdd, Nat.reduceLeDiff, not_true_eq_false, not_false_eq_true, if_true, if_false, ite_true, ite_false, Int32.reduceLT, ite_not, eq_self, or_true, true_or, ite_self, reduceIte, mrg]
      exact hQ _ h9
    · refine Cl_of k_X11_friendly.1 (Nat.le_of_ble_eq_true rfl) (show Wp m_X11_friendly _ 0 _ 0 [.ref 59] [] _ from S_X11_friendly_0 _ _ _ ?_)
      simp +decide (disch := omega) only [↓EQA, CEA, LIA, NIA, Nat.lt_irrefl, Option.toList_some, Option.toList_none, List.cons_append, List.nil_append, true_and, and_true, Nat.reduceAdd, Nat.reduceLeDiff, not_true_eq_false, not_false_eq_true, if_true, if_false, ite_true, ite_false, Int32.reduceLT, ite_not, eq_self, or_true, true_or, ite_self, reduceIte, B_X11_friendly_0]
      refine u_goodG hM fun wg hMg hA h11 => ?_
      simp +decide (disch := omega) only [↓EQA, CEA, LIA, NIA, Nat.lt_irrefl, Option.toList_some, Option.toList_none, List.cons_append, List.nil_append, true_and, and_true, Nat.reduceAdd, Nat.reduceLeDiff, not_true_eq_false, not_false_eq_true, if_true, if_false, ite_true, ite_false, Int32.reduceLT, ite_not, eq_self, or_true, true_or, ite_self, reduceIte, e14n hMg g0, mrg]
      refine u_noG hMg hA fun w9 h9 => ?_
      simp +decide (disch := omega) only [↓EQA, CEA, LIA, NIA, Nat.lt_irrefl, Option.toList_some, Option.toList_none, List.cons_append, List.nil_append, true_and, and_true, Nat.reduceAdd, Nat.reduceLeDiff, not_true_eq_false, not_false_eq_true, if_true, if_false, ite_true, ite_false, Int32.reduceLT, ite_not, eq_self, or_true, true_or, ite_self, reduceIte, mrg]
      exact hK _ h9
theorem p_friendlyOf {x : Int32} (hI : IV w T D F) : PRI (d + 20) m_X10_friendlyOf m_X11_friendlyOf [.ref 0, .int x] [.ref 59, .int x] w := by
  obtain ⟨hZ, hP, ⟨c1, c2, c3⟩, -⟩ := id hI
  have hz := hZ.2
  by_cases g0 : inR x (nL T)
  · obtain ⟨k, hk, rfl⟩ := inR_k g0 (by omega)
    have hH : 1 ≤ nH T := hP.hL hk
    have hU := hP.pu hH
    obtain ⟨-, hO, hD, hDH, h0, h7, hFr⟩ := id hU
    refine askI (v := plD (dg T (bst T D none (KK T ^ nL T)).2.2 k)) (tr := 0) hI (by decide) (fun Q hQ => ?_) (fun w1 K hM hK => ?_)
    · refine Cl_of k_X10_friendlyOf.1 (Nat.le_of_ble_eq_true rfl) (show Wp m_X10_friendlyOf _ 0 _ 0 [.ref 0, .int (nI k)] [] _ from S_X10_friendlyOf_0 _ _ _ ?_)
      simp +decide (disch := omega) only [↓EQA, CEA, LIA, NIA, Nat.lt_irrefl, Option.toList_some, Option.toList_none, List.cons_append, List.nil_append, true_and, and_true, Nat.reduceAdd, Nat.reduceLeDiff, not_true_eq_false, not_false_eq_true, if_true, if_false, ite_true, ite_false, Int32.reduceLT, ite_not, eq_self, or_true, true_or, ite_self, reduceIte, B_X10_friendlyOf_0, mrg]
      refine t_isLodger c1 hZ ?_
      rw [show bI (inR _ (nL T)) = 1 from if_pos g0]
      simp +decide (disch := omega) only [↓EQA, CEA, LIA, NIA, Nat.lt_irrefl, Option.toList_some, Option.toList_none, List.cons_append, List.nil_append, true_and, and_true, Nat.reduceAdd, Nat.reduceLeDiff, not_true_eq_false, not_false_eq_true, if_true, if_false, ite_true, ite_false, Int32.reduceLT, ite_not, eq_self, or_true, true_or, ite_self, reduceIte, mrg]
      refine t_findFriendly c1 hZ hO c2 hD c3 fun w2 ha2 hR2 hC2 => ?_
      have hk5 : k < 5 := by omega
      simp +decide (disch := omega) only [↓EQA, CEA, LIA, NIA, Nat.lt_irrefl, Option.toList_some, Option.toList_none, List.cons_append, List.nil_append, true_and, and_true, Nat.reduceAdd, Nat.reduceLeDiff, not_true_eq_false, not_false_eq_true, if_true, if_false, ite_true, ite_false, Int32.reduceLT, ite_not, eq_self, or_true, true_or, ite_self, reduceIte, hk5, hR2.2.2 k hk5]
      refine t_grantedG ((ha2.wk fun j i z => by omega)) (hC2) fun w9 h9 => ?_
      simp +decide (disch := omega) only [↓EQA, CEA, LIA, NIA, Nat.lt_irrefl, Option.toList_some, Option.toList_none, List.cons_append, List.nil_append, true_and, and_true, Nat.reduceAdd, Nat.reduceLeDiff, not_true_eq_false, not_false_eq_true, if_true, if_false, ite_true, ite_false, Int32.reduceLT, ite_not, eq_self, or_true, true_or, ite_self, reduceIte, mrg]
      exact hQ _ h9
    · refine Cl_of k_X11_friendlyOf.1 (Nat.le_of_ble_eq_true rfl) (show Wp m_X11_friendlyOf _ 0 _ 0 [.ref 59, .int (nI k)] [] _ from S_X11_friendlyOf_0 _ _ _ ?_)
      simp +decide (disch := omega) only [↓EQA, CEA, LIA, NIA, Nat.lt_irrefl, Option.toList_some, Option.toList_none, List.cons_append, List.nil_append, true_and, and_true, Nat.reduceAdd, Nat.reduceLeDiff, not_true_eq_false, not_false_eq_true, if_true, if_false, ite_true, ite_false, Int32.reduceLT, ite_not, eq_self, or_true, true_or, ite_self, reduceIte, B_X11_friendlyOf_0]
      refine u_goodG hM fun wg hMg hA h11 => ?_
      simp +decide (disch := omega) only [↓EQA, CEA, LIA, NIA, Nat.lt_irrefl, Option.toList_some, Option.toList_none, List.cons_append, List.nil_append, true_and, and_true, Nat.reduceAdd, Nat.reduceLeDiff, not_true_eq_false, not_false_eq_true, if_true, if_false, ite_true, ite_false, Int32.reduceLT, ite_not, eq_self, or_true, true_or, ite_self, reduceIte]
      refine u_isLodger hMg hZ hP ?_
      rw [show bI (inR _ (nL T)) = 1 from if_pos g0]
      simp +decide (disch := omega) only [↓EQA, CEA, LIA, NIA, Nat.lt_irrefl, Option.toList_some, Option.toList_none, List.cons_append, List.nil_append, true_and, and_true, Nat.reduceAdd, Nat.reduceLeDiff, not_true_eq_false, not_false_eq_true, if_true, if_false, ite_true, ite_false, Int32.reduceLT, ite_not, eq_self, or_true, true_or, ite_self, reduceIte, mrg]
      refine u_seekLoads (qn := none) hU (fun h e => by cases e) hMg.1 hMg.2.1 hMg.2.2.1 fun w2 ha2 hB2 h22 => ?_
      simp +decide (disch := omega) only [↓EQA, CEA, LIA, NIA, Nat.lt_irrefl, Option.toList_some, Option.toList_none, List.cons_append, List.nil_append, true_and, and_true, Nat.reduceAdd, Nat.reduceLeDiff, not_true_eq_false, not_false_eq_true, if_true, if_false, ite_true, ite_false, Int32.reduceLT, ite_not, eq_self, or_true, true_or, ite_self, reduceIte]
      refine u_bestAt (show k < 5 by omega) (Nat.le_trans dg_le hz.2.1) (hB2.2.2.1 (Nat.pow_pos (Nat.succ_pos _)) k (by omega)) ?_
      simp +decide (disch := omega) only [↓EQA, CEA, LIA, NIA, Nat.lt_irrefl, Option.toList_some, Option.toList_none, List.cons_append, List.nil_append, true_and, and_true, Nat.reduceAdd, Nat.reduceLeDiff, not_true_eq_false, not_false_eq_true, if_true, if_false, ite_true, ite_false, Int32.reduceLT, ite_not, eq_self, or_true, true_or, ite_self, reduceIte]
      exact hK _ ⟨hA.tr (ha2.wk fun j i z => by omega), h22, by rw [(ha2 59 11 (by omega)).1]; exact h11⟩
  · refine askI (v := -1) (tr := 1) hI (by decide) (fun Q hQ => ?_) (fun w1 K hM hK => ?_)
    · refine Cl_of k_X10_friendlyOf.1 (Nat.le_of_ble_eq_true rfl) (show Wp m_X10_friendlyOf _ 0 _ 0 [.ref 0, .int x] [] _ from S_X10_friendlyOf_0 _ _ _ ?_)
      simp +decide (disch := omega) only [↓EQA, CEA, LIA, NIA, Nat.lt_irrefl, Option.toList_some, Option.toList_none, List.cons_append, List.nil_append, true_and, and_true, Nat.reduceAdd, Nat.reduceLeDiff, not_true_eq_false, not_false_eq_true, if_true, if_false, ite_true, ite_false, Int32.reduceLT, ite_not, eq_self, or_true, true_or, ite_self, reduceIte, B_X10_friendlyOf_0, mrg]
      refine t_isLodger c1 hZ ?_
      rw [show bI (inR _ (nL T)) = 0 from if_neg g0]
      simp +decide (disch := omega) only [↓EQA, CEA, LIA, NIA, Nat.lt_irrefl, Option.toList_some, Option.toList_none, List.cons_append, List.nil_append, true_and, and_true, Nat.reduceAdd, Nat.reduceLeDiff, not_true_eq_false, not_false_eq_true, if_true, if_false, ite_true, ite_false, Int32.reduceLT, ite_not, eq_self, or_true, true_or, ite_self, reduceIte, mrg]
      refine t_refusedG Ag.rf c3 fun w9 h9 => ?_
      simp +decide (disch := omega) only [↓EQA, CEA, LIA, NIA, Nat.lt_irrefl, Option.toList_some, Option.toList_none, List.cons_append, List.nil_append, true_and, and_true, Nat.reduceAdd, Nat.reduceLeDiff, not_true_eq_false, not_false_eq_true, if_true, if_false, ite_true, ite_false, Int32.reduceLT, ite_not, eq_self, or_true, true_or, ite_self, reduceIte, mrg]
      exact hQ _ h9
    · refine Cl_of k_X11_friendlyOf.1 (Nat.le_of_ble_eq_true rfl) (show Wp m_X11_friendlyOf _ 0 _ 0 [.ref 59, .int x] [] _ from S_X11_friendlyOf_0 _ _ _ ?_)
      simp +decide (disch := omega) only [↓EQA, CEA, LIA, NIA, Nat.lt_irrefl, Option.toList_some, Option.toList_none, List.cons_append, List.nil_append, true_and, and_true, Nat.reduceAdd, Nat.reduceLeDiff, not_true_eq_false, not_false_eq_true, if_true, if_false, ite_true, ite_false, Int32.reduceLT, ite_not, eq_self, or_true, true_or, ite_self, reduceIte, B_X11_friendlyOf_0]
      refine u_goodG hM fun wg hMg hA h11 => ?_
      simp +decide (disch := omega) only [↓EQA, CEA, LIA, NIA, Nat.lt_irrefl, Option.toList_some, Option.toList_none, List.cons_append, List.nil_append, true_and, and_true, Nat.reduceAdd, Nat.reduceLeDiff, not_true_eq_false, not_false_eq_true, if_true, if_false, ite_true, ite_false, Int32.reduceLT, ite_not, eq_self, or_true, true_or, ite_self, reduceIte]
      refine u_isLodger hMg hZ hP ?_
      rw [show bI (inR _ (nL T)) = 0 from if_neg g0]
      simp +decide (disch := omega) only [↓EQA, CEA, LIA, NIA, Nat.lt_irrefl, Option.toList_some, Option.toList_none, List.cons_append, List.nil_append, true_and, and_true, Nat.reduceAdd, Nat.reduceLeDiff, not_true_eq_false, not_false_eq_true, if_true, if_false, ite_true, ite_false, Int32.reduceLT, ite_not, eq_self, or_true, true_or, ite_self, reduceIte, mrg]
      refine u_noG hMg hA fun w9 h9 => ?_
      simp +decide (disch := omega) only [↓EQA, CEA, LIA, NIA, Nat.lt_irrefl, Option.toList_some, Option.toList_none, List.cons_append, List.nil_append, true_and, and_true, Nat.reduceAdd, Nat.reduceLeDiff, not_true_eq_false, not_false_eq_true, if_true, if_false, ite_true, ite_false, Int32.reduceLT, ite_not, eq_self, or_true, true_or, ite_self, reduceIte, mrg]
      exact hK _ h9
end Pub
