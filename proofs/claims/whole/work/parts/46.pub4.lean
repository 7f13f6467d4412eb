/-! ===== the public calls, in pairs ===== -/
section Pub
variable {d : Nat} {w : Mem} {T : Tv} {D F : Nat → Nat}
theorem p_passes (hI : IV w T D F) : PRI (d + 20) m_X10_passes m_X11_passes [.ref 0] [.ref 59] w := by
  obtain ⟨hZ, hP, ⟨c1, c2, c3⟩, -⟩ := id hI
  have hz := hZ.2
  by_cases g0 : 1 ≤ nH T
  · have hH : 1 ≤ nH T := g0
    have hU := hP.pu hH
    obtain ⟨-, hO, hD, hDH, h0, h7, hFr⟩ := id hU
    refine askI (v := nI (fld (fun i a => a + usN (fun h => cnt (fun g => AH T (VC (RS D)) g h i && AH T (VC (RS D)) h g (i + 1)) (nH T)) (nH T)) (nB T - 1) 0)) (tr := 0) hI (by decide) (fun Q hQ => ?_) (fun w1 K hM hK => ?_)
    · refine Cl_of k_X10_passes.1 (Nat.le_of_ble_eq_true rfl) (show Wp m_X10_passes _ 0 _ 0 [.ref 0, .null, .null, .null] [] _ from S_X10_passes_0 _ _ _ ?_)
      simp +decide (disch := omega) only [↓EQA, CEA, LIA, NIA, Nat.lt_irrefl, Option.toList_some, Option.toList_none, List.cons_append, List.nil_append, true_and, and_true, Nat.reduceAdd, Nat.reduceLeDiff, not_true_eq_false, not_false_eq_true, if_true, if_false, ite_true, ite_false, Int32.reduceLT, ite_not, eq_self, or_true, true_or, ite_self, reduceIte, B_X10_passes_0, mrg]
      refine t_isTold c1 hZ ?_
      rw [show bI (1 ≤ nH T) = 1 from if_pos g0]
      simp +decide (disch := omega) only [↓EQA, CEA, LIA, NIA, Nat.lt_irrefl, Option.toList_some, Option.toList_none, List.cons_append, List.nil_append, true_and, and_true, Nat.reduceAdd, Nat.reduceLeDiff, not_true_eq_false, not_false_eq_true, if_true, if_false, ite_true, ite_false, Int32.reduceLT, ite_not, eq_self, or_true, true_or, ite_self, reduceIte, mrg]
      have eq : ∀ i, usN (fun h => PBn T (VC (RS D)) h i) (nH T) = usN (fun h => cnt (fun g => AH T (VC (RS D)) g h i && AH T (VC (RS D)) h g (i + 1)) (nH T)) (nH T) := fun i => rfl
      have efl : (1 : Nat) = 0 + 1 := rfl
      suffices key : ∀ v : Value, Wp m_X10_passes (d + 19) 0 Q 17 [.ref 0, .int (nI 0), .int (nI (0 + 1)), v] [] w from key .null
      refine fld_loop (f := fun i a => a + usN (fun h => cnt (fun g => AH T (VC (RS D)) g h i && AH T (VC (RS D)) h g (i + 1)) (nH T)) (nH T)) (n := nB T - 1) (a := 0) (fun i a => ∀ v : Value, Wp m_X10_passes (d + 19) 0 Q 17 [.ref 0, .int (nI a), .int (nI (i + 1)), v] [] w) (fun i hi hd v => ?_) (fun v => ?_)
      · generalize fld (fun i a => a + usN (fun h => cnt (fun g => AH T (VC (RS D)) g h i && AH T (VC (RS D)) h g (i + 1)) (nH T)) (nH T)) i 0 = a0 at hd ⊢
        have hi1 : i + 1 < nB T := by omega
        refine S_X10_passes_L1 _ _ _ ?_
        simp +decide (disch := omega) only [↓EQA, CEA, LIA, NIA, Nat.lt_irrefl, Option.toList_some, Option.toList_none, List.cons_append, List.nil_append, true_and, and_true, Nat.reduceAdd, Nat.reduceLeDiff, not_true_eq_false, not_false_eq_true, if_true, if_false, ite_true, ite_false, Int32.reduceLT, ite_not, eq_self, or_true, true_or, ite_self, reduceIte, B_X10_passes_L1, c1, hZ.1, hi1]
        suffices key : Wp m_X10_passes (d + 19) 0 Q 32 [.ref 0, .int (nI (a0 + 0)), .int (nI (i + 1)), .int (nI 0)] [] w from key
        refine fld_loop (f := fun h a => a + PBn T (VC (RS D)) h i) (n := nH T) (a := 0) (fun h a => Wp m_X10_passes (d + 19) 0 Q 32 [.ref 0, .int (nI (a0 + a)), .int (nI (i + 1)), .int (nI h)] [] w) (fun h hh he => ?_) ?_
        · generalize fld (fun h a => a + PBn T (VC (RS D)) h i) h 0 = a1 at he ⊢
          refine S_X10_passes_L2 _ _ _ ?_
          simp +decide (disch := omega) only [↓EQA, CEA, LIA, NIA, Nat.lt_irrefl, Option.toList_some, Option.toList_none, List.cons_append, List.nil_append, true_and, and_true, Nat.reduceAdd, Nat.reduceLeDiff, not_true_eq_false, not_false_eq_true, if_true, if_false, ite_true, ite_false, Int32.reduceLT, ite_not, eq_self, or_true, true_or, ite_self, reduceIte, B_X10_passes_L2, c1, hZ.1, hh]
          refine t_passedBy RK_now c1 hZ (c2.rv hD.rok) (by omega) hi1 ?_
          simp +decide (disch := omega) only [↓EQA, CEA, LIA, NIA, Nat.lt_irrefl, Option.toList_some, Option.toList_none, List.cons_append, List.nil_append, true_and, and_true, Nat.reduceAdd, Nat.reduceLeDiff, not_true_eq_false, not_false_eq_true, if_true, if_false, ite_true, ite_false, Int32.reduceLT, ite_not, eq_self, or_true, true_or, ite_self, reduceIte, nI_add]
          rw [Nat.add_assoc]
          exact he
        · refine S_X10_passes_L2 _ _ _ ?_
          simp +decide (disch := omega) only [↓EQA, CEA, LIA, NIA, Nat.lt_irrefl, Option.toList_some, Option.toList_none, List.cons_append, List.nil_append, true_and, and_true, Nat.reduceAdd, Nat.reduceLeDiff, not_true_eq_false, not_false_eq_true, if_true, if_false, ite_true, ite_false, Int32.reduceLT, ite_not, eq_self, or_true, true_or, ite_self, reduceIte, B_X10_passes_L2, c1, hZ.1]
          exact hd _
      · refine S_X10_passes_L1 _ _ _ ?_
        have hn9 : ¬ nB T - 1 + 1 < nB T := by omega
        simp +decide (disch := omega) only [↓EQA, CEA, LIA, NIA, Nat.lt_irrefl, Option.toList_some, Option.toList_none, List.cons_append, List.nil_append, true_and, and_true, Nat.reduceAdd, Nat.reduceLeDiff, not_true_eq_false, not_false_eq_true, if_true, if_false, ite_true, ite_false, Int32.reduceLT, ite_not, eq_self, or_true, true_or, ite_self, reduceIte, B_X10_passes_L1, c1, hZ.1, hn9]
        refine t_grantedG Ag.rf c3 fun w9 h9 => ?_
        simp +decide (disch := omega) only [↓EQA, CEA, LIA, NIA, Nat.lt_irrefl, Option.toList_some, Option.toList_none, List.cons_append, List.nil_append, true_and, and_true, Nat.reduceAdd, Nat.reduceLeDiff, not_true_eq_false, not_false_eq_true, if_true, if_false, ite_true, ite_false, Int32.reduceLT, ite_not, eq_self, or_true, true_or, ite_self, reduceIte]
        exact hQ _ h9
    · refine Cl_of k_X11_passes.1 (Nat.le_of_ble_eq_true rfl) (show Wp m_X11_passes _ 0 _ 0 [.ref 59, .null, .null, .null, .null] [] _ from S_X11_passes_0 _ _ _ ?_)
      simp +decide (disch := omega) only [↓EQA, CEA, LIA, NIA, Nat.lt_irrefl, Option.toList_some, Option.toList_none, List.cons_append, List.nil_append, true_and, and_true, Nat.reduceAdd, Nat.reduceLeDiff, not_true_eq_false, not_false_eq_true, if_true, if_false, ite_true, ite_false, Int32.reduceLT, ite_not, eq_self, or_true, true_or, ite_self, reduceIte, B_X11_passes_0]
      refine u_goodG hM fun wg hMg hA h11 => ?_
      simp +decide (disch := omega) only [↓EQA, CEA, LIA, NIA, Nat.lt_irrefl, Option.toList_some, Option.toList_none, List.cons_append, List.nil_append, true_and, and_true, Nat.reduceAdd, Nat.reduceLeDiff, not_true_eq_false, not_false_eq_true, if_true, if_false, ite_true, ite_false, Int32.reduceLT, ite_not, eq_self, or_true, true_or, ite_self, reduceIte]
      refine u_dryG hMg hA h11 fun wg hMg hA h11 => ?_
      simp +decide (disch := omega) only [↓EQA, CEA, LIA, NIA, Nat.lt_irrefl, Option.toList_some, Option.toList_none, List.cons_append, List.nil_append, true_and, and_true, Nat.reduceAdd, Nat.reduceLeDiff, not_true_eq_false, not_false_eq_true, if_true, if_false, ite_true, ite_false, Int32.reduceLT, ite_not, eq_self, or_true, true_or, ite_self, reduceIte, e14 hMg g0, B_X11_passes_J1, B_X11_passes_J2]
      have eq : ∀ i, usN (fun h => cnt (fun g => AH T (VC (RS D)) h g i && AH T (VC (RS D)) g h (i + 1)) (nH T)) (nH T) = usN (fun h => cnt (fun g => AH T (VC (RS D)) g h i && AH T (VC (RS D)) h g (i + 1)) (nH T)) (nH T) := fun i => (us_swap (P := fun g h => AH T (VC (RS D)) g h i && AH T (VC (RS D)) h g (i + 1)) (n := nH T) (nH T)).symm
      suffices key : ∀ v v' : Value, Wp m_X11_passes (d + 19) 0 K 25 [.ref 59, .int (nI 0), .int (nI (0 + 1)), v, v'] [] wg from key .null .null
      refine fld_loop (f := fun i a => a + usN (fun h => cnt (fun g => AH T (VC (RS D)) g h i && AH T (VC (RS D)) h g (i + 1)) (nH T)) (nH T)) (n := nB T - 1) (a := 0) (fun i a => ∀ v v' : Value, Wp m_X11_passes (d + 19) 0 K 25 [.ref 59, .int (nI a), .int (nI (i + 1)), v, v'] [] wg) (fun i hi hd v v' => ?_) (fun v v' => ?_)
      · generalize fld (fun i a => a + usN (fun h => cnt (fun g => AH T (VC (RS D)) g h i && AH T (VC (RS D)) h g (i + 1)) (nH T)) (nH T)) i 0 = a0 at hd ⊢
        have hi1 : i + 1 < nB T := by omega
        rw [← eq] at hd
        refine S_X11_passes_L1 _ _ _ ?_
        simp +decide (disch := omega) only [↓EQA, CEA, LIA, NIA, Nat.lt_irrefl, Option.toList_some, Option.toList_none, List.cons_append, List.nil_append, true_and, and_true, Nat.reduceAdd, Nat.reduceLeDiff, not_true_eq_false, not_false_eq_true, if_true, if_false, ite_true, ite_false, Int32.reduceLT, ite_not, eq_self, or_true, true_or, ite_self, reduceIte, B_X11_passes_L1, hMg.1.1, hZ.1, hi1]
        suffices key : ∀ v : Value, Wp m_X11_passes (d + 19) 0 K 37 [.ref 59, .int (nI (a0 + 0)), .int (nI (i + 1)), .int (nI 0), v] [] wg from key _
        refine fld_loop (f := fun h a => a + cnt (fun g => AH T (VC (RS D)) h g i && AH T (VC (RS D)) g h (i + 1)) (nH T)) (n := nH T) (a := 0) (fun h a => ∀ v : Value, Wp m_X11_passes (d + 19) 0 K 37 [.ref 59, .int (nI (a0 + a)), .int (nI (i + 1)), .int (nI h), v] [] wg) (fun h hh he v => ?_) (fun v => ?_)
        · generalize fld (fun h a => a + cnt (fun g => AH T (VC (RS D)) h g i && AH T (VC (RS D)) g h (i + 1)) (nH T)) h 0 = a1 at he ⊢
          refine S_X11_passes_L2 _ _ _ ?_
          simp +decide (disch := omega) only [↓EQA, CEA, LIA, NIA, Nat.lt_irrefl, Option.toList_some, Option.toList_none, List.cons_append, List.nil_append, true_and, and_true, Nat.reduceAdd, Nat.reduceLeDiff, not_true_eq_false, not_false_eq_true, if_true, if_false, ite_true, ite_false, Int32.reduceLT, ite_not, eq_self, or_true, true_or, ite_self, reduceIte, B_X11_passes_L2, hMg.1.1, hZ.1, hh]
          refine cnt_loopA (p := fun g => AH T (VC (RS D)) h g i && AH T (VC (RS D)) g h (i + 1)) (n := nH T) (a := a0 + a1) (fun g a => Wp m_X11_passes (d + 19) 0 K 51 [.ref 59, .int a, .int (nI (i + 1)), .int (nI h), .int (nI g)] [] wg) (fun g hg hf => ?_) ?_
          · refine S_X11_passes_L3 _ _ _ ?_
            simp +decide (disch := omega) only [↓EQA, CEA, LIA, NIA, Nat.lt_irrefl, Option.toList_some, Option.toList_none, List.cons_append, List.nil_append, true_and, and_true, Nat.reduceAdd, Nat.reduceLeDiff, not_true_eq_false, not_false_eq_true, if_true, if_false, ite_true, ite_false, Int32.reduceLT, ite_not, eq_self, or_true, true_or, ite_self, reduceIte, B_X11_passes_L3, hMg.1.1, hZ.1, hg, nI_pred]
            refine u_isAhead hMg.1 hZ hO (RM64 hU hMg) rfl (POS0 hU) hh hg (show i < nB T by omega) ?_
            cases q1 : AH T (VC (RS D)) h g i
            · simp +decide (disch := omega) only [↓EQA, CEA, LIA, NIA, Nat.lt_irrefl, Option.toList_some, Option.toList_none, List.cons_append, List.nil_append, true_and, and_true, Nat.reduceAdd, Nat.reduceLeDiff, not_true_eq_false, not_false_eq_true, if_true, if_false, ite_true, ite_false, Int32.reduceLT, ite_not, eq_self, or_true, true_or, ite_self, reduceIte, B_X11_passes_J1, B_X11_passes_J2, Int32.add_zero]
              simp only [q1, Bool.false_and, Bool.false_eq_true, if_false] at hf
              exact hf
            · simp +decide (disch := omega) only [↓EQA, CEA, LIA, NIA, Nat.lt_irrefl, Option.toList_some, Option.toList_none, List.cons_append, List.nil_append, true_and, and_true, Nat.reduceAdd, Nat.reduceLeDiff, not_true_eq_false, not_false_eq_true, if_true, if_false, ite_true, ite_false, Int32.reduceLT, ite_not, eq_self, or_true, true_or, ite_self, reduceIte]
              refine u_isAhead hMg.1 hZ hO (RM64 hU hMg) rfl (POS0 hU) hg hh hi1 ?_
              cases q2 : AH T (VC (RS D)) g h (i + 1)
              · simp +decide (disch := omega) only [↓EQA, CEA, LIA, NIA, Nat.lt_irrefl, Option.toList_some, Option.toList_none, List.cons_append, List.nil_append, true_and, and_true, Nat.reduceAdd, Nat.reduceLeDiff, not_true_eq_false, not_false_eq_true, if_true, if_false, ite_true, ite_false, Int32.reduceLT, ite_not, eq_self, or_true, true_or, ite_self, reduceIte, B_X11_passes_J1, B_X11_passes_J2, Int32.add_zero]
                simp only [q1, q2, Bool.and_false, Bool.false_eq_true, if_false] at hf
                exact hf
              · simp +decide (disch := omega) only [↓EQA, CEA, LIA, NIA, Nat.lt_irrefl, Option.toList_some, Option.toList_none, List.cons_append, List.nil_append, true_and, and_true, Nat.reduceAdd, Nat.reduceLeDiff, not_true_eq_false, not_false_eq_true, if_true, if_false, ite_true, ite_false, Int32.reduceLT, ite_not, eq_self, or_true, true_or, ite_self, reduceIte, B_X11_passes_J1, B_X11_passes_J2]
                simp only [q1, q2, Bool.and_self, if_true] at hf
                exact hf
          · refine S_X11_passes_L3 _ _ _ ?_
            simp +decide (disch := omega) only [↓EQA, CEA, LIA, NIA, Nat.lt_irrefl, Option.toList_some, Option.toList_none, List.cons_append, List.nil_append, true_and, and_true, Nat.reduceAdd, Nat.reduceLeDiff, not_true_eq_false, not_false_eq_true, if_true, if_false, ite_true, ite_false, Int32.reduceLT, ite_not, eq_self, or_true, true_or, ite_self, reduceIte, B_X11_passes_L3, hMg.1.1, hZ.1]
            rw [Nat.add_assoc]
            exact he _
        · refine S_X11_passes_L2 _ _ _ ?_
          simp +decide (disch := omega) only [↓EQA, CEA, LIA, NIA, Nat.lt_irrefl, Option.toList_some, Option.toList_none, List.cons_append, List.nil_append, true_and, and_true, Nat.reduceAdd, Nat.reduceLeDiff, not_true_eq_false, not_false_eq_true, if_true, if_false, ite_true, ite_false, Int32.reduceLT, ite_not, eq_self, or_true, true_or, ite_self, reduceIte, B_X11_passes_L2, hMg.1.1, hZ.1]
          exact hd _ _
      · refine S_X11_passes_L1 _ _ _ ?_
        have hn9 : ¬ nB T - 1 + 1 < nB T := by omega
        simp +decide (disch := omega) only [↓EQA, CEA, LIA, NIA, Nat.lt_irrefl, Option.toList_some, Option.toList_none, List.cons_append, List.nil_append, true_and, and_true, Nat.reduceAdd, Nat.reduceLeDiff, not_true_eq_false, not_false_eq_true, if_true, if_false, ite_true, ite_false, Int32.reduceLT, ite_not, eq_self, or_true, true_or, ite_self, reduceIte, B_X11_passes_L1, hMg.1.1, hZ.1, hn9]
        exact hK _ ⟨hA, hMg.2.2.2.1, h11⟩
  · refine askI (v := -1) (tr := 1) hI (by decide) (fun Q hQ => ?_) (fun w1 K hM hK => ?_)
    · refine Cl_of k_X10_passes.1 (Nat.le_of_ble_eq_true rfl) (show Wp m_X10_passes _ 0 _ 0 [.ref 0, .null, .null, .null] [] _ from S_X10_passes_0 _ _ _ ?_)
      simp +decide (disch := omega) only [↓EQA, CEA, LIA, NIA, Nat.lt_irrefl, Option.toList_some, Option.toList_none, List.cons_append, List.nil_append, true_and, and_true, Nat.reduceAdd, Nat.reduceLeDiff, not_true_eq_false, not_false_eq_true, if_true, if_false, ite_true, ite_false, Int32.reduceLT, ite_not, eq_self, or_true, true_or, ite_self, reduceIte, B_X10_passes_0, mrg]
      refine t_isTold c1 hZ ?_
      rw [show bI (1 ≤ nH T) = 0 from if_neg g0]
      simp +decide (disch := omega) only [↓EQA, CEA, LIA, NIA, Nat.lt_irrefl, Option.toList_some, Option.toList_none, List.cons_append, List.nil_append, true_and, and_true, Nat.reduceAdd, Nat.reduceLeDiff, not_true_eq_false, not_false_eq_true, if_true, if_false, ite_true, ite_false, Int32.reduceLT, ite_not, eq_self, or_true, true_or, ite_self, reduceIte, mrg]
      refine t_refusedG Ag.rf c3 fun w9 h9 => ?_
      simp +decide (disch := omega) only [↓EQA, CEA, LIA, NIA, Nat.lt_irrefl, Option.toList_some, Option.toList_none, List.cons_append, List.nil_append, true_and, and_true, Nat.reduceAdd, Nat.reduceLeDiff, not_true_eq_false, not_false_eq_true, if_true, if_false, ite_true, ite_false, Int32.reduceLT, ite_not, eq_self, or_true, true_or, ite_self, reduceIte, mrg]
      exact hQ _ h9
    · refine Cl_of k_X11_passes.1 (Nat.le_of_ble_eq_true rfl) (show Wp m_X11_passes _ 0 _ 0 [.ref 59, .null, .null, .null, .null] [] _ from S_X11_passes_0 _ _ _ ?_)
      simp +decide (disch := omega) only [↓EQA, CEA, LIA, NIA, Nat.lt_irrefl, Option.toList_some, Option.toList_none, List.cons_append, List.nil_append, true_and, and_true, Nat.reduceAdd, Nat.reduceLeDiff, not_true_eq_false, not_false_eq_true, if_true, if_false, ite_true, ite_false, Int32.reduceLT, ite_not, eq_self, or_true, true_or, ite_self, reduceIte, B_X11_passes_0]
      refine u_goodG hM fun wg hMg hA h11 => ?_
      simp +decide (disch := omega) only [↓EQA, CEA, LIA, NIA, Nat.lt_irrefl, Option.toList_some, Option.toList_none, List.cons_append, List.nil_append, true_and, and_true, Nat.reduceAdd, Nat.reduceLeDiff, not_true_eq_false, not_false_eq_true, if_true, if_false, ite_true, ite_false, Int32.reduceLT, ite_not, eq_self, or_true, true_or, ite_self, reduceIte]
      refine u_dryG hMg hA h11 fun wg hMg hA h11 => ?_
      simp +decide (disch := omega) only [↓EQA, CEA, LIA, NIA, Nat.lt_irrefl, Option.toList_some, Option.toList_none, List.cons_append, List.nil_append, true_and, and_true, Nat.reduceAdd, Nat.reduceLeDiff, not_true_eq_false, not_false_eq_true, if_true, if_false, ite_true, ite_false, Int32.reduceLT, ite_not, eq_self, or_true, true_or, ite_self, reduceIte, e14n hMg g0, B_X11_passes_J1, B_X11_passes_J2]
      refine u_noG hMg hA fun w9 h9 => ?_
      simp +decide (disch := omega) only [↓EQA, CEA, LIA, NIA, Nat.lt_irrefl, Option.toList_some, Option.toList_none, List.cons_append, List.nil_append, true_and, and_true, Nat.reduceAdd, Nat.reduceLeDiff, not_true_eq_false, not_false_eq_true, if_true, if_false, ite_true, ite_false, Int32.reduceLT, ite_not, eq_self, or_true, true_or, ite_self, reduceIte, B_X11_passes_J1, B_X11_passes_J2]
      exact hK _ h9
end Pub
