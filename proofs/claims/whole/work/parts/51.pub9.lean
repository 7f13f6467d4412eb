/-! ===== fireAt; two at a weir; what is told ===== -/
def wvI (s : Int32) (b o : Bool) : Int32 := if b then (if o then 0 - s else 5) else if o then 1 else 3
def irB (s : Int32) (b o : Bool) : Bool := decide (¬ wvI s b o < wvI s (!b) o) && decide (¬ wvI s o b < wvI s (!o) b)
section Pub9
variable {d : Nat} {w : Mem} {Q : Option Value → Mem → Prop} {T : Tv} {D F : Nat → Nat} {x y : Int32}
theorem p_fireAt (hI : IV w T D F) : PRI (d + 20) m_X10_fireAt m_X11_fireAt [.ref 0, .int x] [.ref 59, .int x] w := by
  obtain ⟨hZ, hP, ⟨c1, c2, c3⟩, -⟩ := id hI
  have hz := hZ.2
  have hp16 := p4 hz.2.1
  have hcn := cnt_le (fsP T (RS D)) (2 ^ nH T)
  by_cases g0 : 1 ≤ nH T
  · have hU := hP.pu g0
    obtain ⟨-, hO, hD, hDH, h0, h7, hFr⟩ := id hU
    by_cases g1 : x < 0
    · refine askI (v := -1) (tr := 1) hI (by decide) (fun Q hQ => ?_) (fun w1 K hM hK => ?_)
      · refine Cl_of k_X10_fireAt.1 (Nat.le_of_ble_eq_true rfl) (show Wp m_X10_fireAt _ 0 _ 0 [.ref 0, .int x] [] _ from S_X10_fireAt_0 _ _ _ ?_)
        simp +decide (disch := omega) only [↓EQA, CEA, LIA, NIA, Nat.lt_irrefl, Option.toList_some, Option.toList_none, List.cons_append, List.nil_append, true_and, and_true, Nat.reduceAdd, Nat.reduceLeDiff, not_true_eq_false, not_false_eq_true, if_true, if_false, ite_true, ite_false, Int32.reduceLT, ite_not, eq_self, or_true, true_or, ite_self, reduceIte, B_X10_fireAt_0]
        refine t_isTold c1 hZ ?_
        rw [show bI (1 ≤ nH T) = 1 from if_pos g0]
        simp +decide (disch := omega) only [↓EQA, CEA, LIA, NIA, Nat.lt_irrefl, Option.toList_some, Option.toList_none, List.cons_append, List.nil_append, true_and, and_true, Nat.reduceAdd, Nat.reduceLeDiff, not_true_eq_false, not_false_eq_true, if_true, if_false, ite_true, ite_false, Int32.reduceLT, ite_not, eq_self, or_true, true_or, ite_self, reduceIte]
        refine t_find c1 hZ hO c2 hD.rok fun w2 ha2 hF2 => ?_
        simp +decide (disch := omega) only [↓EQA, CEA, LIA, NIA, Nat.lt_irrefl, Option.toList_some, Option.toList_none, List.cons_append, List.nil_append, true_and, and_true, Nat.reduceAdd, Nat.reduceLeDiff, not_true_eq_false, not_false_eq_true, if_true, if_false, ite_true, ite_false, Int32.reduceLT, ite_not, eq_self, or_true, true_or, ite_self, reduceIte, g1, B_X10_fireAt_J1, B_X10_fireAt_J2]
        refine t_refusedG (ha2.wk fun j i z => by omega) (CCHq c3 ha2 (fun i z => by omega) (fun i z => by omega)) fun w9 h9 => ?_
        simp +decide (disch := omega) only [↓EQA, CEA, LIA, NIA, Nat.lt_irrefl, Option.toList_some, Option.toList_none, List.cons_append, List.nil_append, true_and, and_true, Nat.reduceAdd, Nat.reduceLeDiff, not_true_eq_false, not_false_eq_true, if_true, if_false, ite_true, ite_false, Int32.reduceLT, ite_not, eq_self, or_true, true_or, ite_self, reduceIte, B_X10_fireAt_J1, B_X10_fireAt_J2]
        exact hQ _ h9
      · refine Cl_of k_X11_fireAt.1 (Nat.le_of_ble_eq_true rfl) (show Wp m_X11_fireAt _ 0 _ 0 [.ref 59, .int x, .null] [] _ from S_X11_fireAt_0 _ _ _ ?_)
        simp +decide (disch := omega) only [↓EQA, CEA, LIA, NIA, Nat.lt_irrefl, Option.toList_some, Option.toList_none, List.cons_append, List.nil_append, true_and, and_true, Nat.reduceAdd, Nat.reduceLeDiff, not_true_eq_false, not_false_eq_true, if_true, if_false, ite_true, ite_false, Int32.reduceLT, ite_not, eq_self, or_true, true_or, ite_self, reduceIte, B_X11_fireAt_0]
        refine u_goodG hM fun wg hMg hA h11 => ?_
        simp +decide (disch := omega) only [↓EQA, CEA, LIA, NIA, Nat.lt_irrefl, Option.toList_some, Option.toList_none, List.cons_append, List.nil_append, true_and, and_true, Nat.reduceAdd, Nat.reduceLeDiff, not_true_eq_false, not_false_eq_true, if_true, if_false, ite_true, ite_false, Int32.reduceLT, ite_not, eq_self, or_true, true_or, ite_self, reduceIte, e14 hMg g0, g1, B_X11_fireAt_J1, B_X11_fireAt_J2]
        refine u_noG hMg hA fun w9 h9 => ?_
        simp +decide (disch := omega) only [↓EQA, CEA, LIA, NIA, Nat.lt_irrefl, Option.toList_some, Option.toList_none, List.cons_append, List.nil_append, true_and, and_true, Nat.reduceAdd, Nat.reduceLeDiff, not_true_eq_false, not_false_eq_true, if_true, if_false, ite_true, ite_false, Int32.reduceLT, ite_not, eq_self, or_true, true_or, ite_self, reduceIte]
        exact hK _ h9
    · obtain ⟨j, hj, rfl⟩ := nI_of g1
      obtain ⟨f1, f2⟩ := fd_some (p := fsP T (RS D)) (j := j) (2 ^ nH T) hp16
      by_cases g2 : j < cnt (fsP T (RS D)) (2 ^ nH T)
      · obtain ⟨s, s1, s2, s3, s4⟩ := f1 g2
        have hj16 : j < 16 := by omega
        refine askI (v := nI s) (tr := 0) hI (by decide) (fun Q hQ => ?_) (fun w1 K hM hK => ?_)
        · refine Cl_of k_X10_fireAt.1 (Nat.le_of_ble_eq_true rfl) (show Wp m_X10_fireAt _ 0 _ 0 [.ref 0, .int (nI j)] [] _ from S_X10_fireAt_0 _ _ _ ?_)
          simp +decide (disch := omega) only [↓EQA, CEA, LIA, NIA, Nat.lt_irrefl, Option.toList_some, Option.toList_none, List.cons_append, List.nil_append, true_and, and_true, Nat.reduceAdd, Nat.reduceLeDiff, not_true_eq_false, not_false_eq_true, if_true, if_false, ite_true, ite_false, Int32.reduceLT, ite_not, eq_self, or_true, true_or, ite_self, reduceIte, B_X10_fireAt_0]
          refine t_isTold c1 hZ ?_
          rw [show bI (1 ≤ nH T) = 1 from if_pos g0]
          simp +decide (disch := omega) only [↓EQA, CEA, LIA, NIA, Nat.lt_irrefl, Option.toList_some, Option.toList_none, List.cons_append, List.nil_append, true_and, and_true, Nat.reduceAdd, Nat.reduceLeDiff, not_true_eq_false, not_false_eq_true, if_true, if_false, ite_true, ite_false, Int32.reduceLT, ite_not, eq_self, or_true, true_or, ite_self, reduceIte]
          refine t_find c1 hZ hO c2 hD.rok fun w2 ha2 hF2 => ?_
          have e54 : w2.1 54 j = nI s := by rw [← s3]; exact hF2.2 s s1 s2
          simp +decide (disch := omega) only [↓EQA, CEA, LIA, NIA, Nat.lt_irrefl, Option.toList_some, Option.toList_none, List.cons_append, List.nil_append, true_and, and_true, Nat.reduceAdd, Nat.reduceLeDiff, not_true_eq_false, not_false_eq_true, if_true, if_false, ite_true, ite_false, Int32.reduceLT, ite_not, eq_self, or_true, true_or, ite_self, reduceIte, g1, hF2.1, g2, hj16, e54]
          refine t_grantedG (ha2.wk fun j i z => by omega) (CCHq c3 ha2 (fun i z => by omega) (fun i z => by omega)) fun w9 h9 => ?_
          simp +decide (disch := omega) only [↓EQA, CEA, LIA, NIA, Nat.lt_irrefl, Option.toList_some, Option.toList_none, List.cons_append, List.nil_append, true_and, and_true, Nat.reduceAdd, Nat.reduceLeDiff, not_true_eq_false, not_false_eq_true, if_true, if_false, ite_true, ite_false, Int32.reduceLT, ite_not, eq_self, or_true, true_or, ite_self, reduceIte, B_X10_fireAt_J1, B_X10_fireAt_J2]
          exact hQ _ h9
        · refine Cl_of k_X11_fireAt.1 (Nat.le_of_ble_eq_true rfl) (show Wp m_X11_fireAt _ 0 _ 0 [.ref 59, .int (nI j), .null] [] _ from S_X11_fireAt_0 _ _ _ ?_)
          simp +decide (disch := omega) only [↓EQA, CEA, LIA, NIA, Nat.lt_irrefl, Option.toList_some, Option.toList_none, List.cons_append, List.nil_append, true_and, and_true, Nat.reduceAdd, Nat.reduceLeDiff, not_true_eq_false, not_false_eq_true, if_true, if_false, ite_true, ite_false, Int32.reduceLT, ite_not, eq_self, or_true, true_or, ite_self, reduceIte, B_X11_fireAt_0]
          refine u_goodG hM fun wg hMg hA h11 => ?_
          simp +decide (disch := omega) only [↓EQA, CEA, LIA, NIA, Nat.lt_irrefl, Option.toList_some, Option.toList_none, List.cons_append, List.nil_append, true_and, and_true, Nat.reduceAdd, Nat.reduceLeDiff, not_true_eq_false, not_false_eq_true, if_true, if_false, ite_true, ite_false, Int32.reduceLT, ite_not, eq_self, or_true, true_or, ite_self, reduceIte, e14 hMg g0, g1]
          refine u_seekFires hU hMg.1 hMg.2.2.1 fun w2 ha2 h22 h33 h34 h35 h71 => ?_
          have es : (nI s < 0) = False := neg_f (by omega)
          simp +decide (disch := omega) only [↓EQA, CEA, LIA, NIA, Nat.lt_irrefl, Option.toList_some, Option.toList_none, List.cons_append, List.nil_append, true_and, and_true, Nat.reduceAdd, Nat.reduceLeDiff, not_true_eq_false, not_false_eq_true, if_true, if_false, ite_true, ite_false, Int32.reduceLT, ite_not, eq_self, or_true, true_or, ite_self, reduceIte, s4, es, B_X11_fireAt_J1, B_X11_fireAt_J2]
          exact hK _ ⟨hA.tr (ha2.wk fun j i z => by omega), h22, by rw [(ha2 59 11 (by omega)).1]; exact h11⟩
      · have f3 := f2 (by omega) hj
        refine askI (v := -1) (tr := 1) hI (by decide) (fun Q hQ => ?_) (fun w1 K hM hK => ?_)
        · refine Cl_of k_X10_fireAt.1 (Nat.le_of_ble_eq_true rfl) (show Wp m_X10_fireAt _ 0 _ 0 [.ref 0, .int (nI j)] [] _ from S_X10_fireAt_0 _ _ _ ?_)
          simp +decide (disch := omega) only [↓EQA, CEA, LIA, NIA, Nat.lt_irrefl, Option.toList_some, Option.toList_none, List.cons_append, List.nil_append, true_and, and_true, Nat.reduceAdd, Nat.reduceLeDiff, not_true_eq_false, not_false_eq_true, if_true, if_false, ite_true, ite_false, Int32.reduceLT, ite_not, eq_self, or_true, true_or, ite_self, reduceIte, B_X10_fireAt_0]
          refine t_isTold c1 hZ ?_
          rw [show bI (1 ≤ nH T) = 1 from if_pos g0]
          simp +decide (disch := omega) only [↓EQA, CEA, LIA, NIA, Nat.lt_irrefl, Option.toList_some, Option.toList_none, List.cons_append, List.nil_append, true_and, and_true, Nat.reduceAdd, Nat.reduceLeDiff, not_true_eq_false, not_false_eq_true, if_true, if_false, ite_true, ite_false, Int32.reduceLT, ite_not, eq_self, or_true, true_or, ite_self, reduceIte]
          refine t_find c1 hZ hO c2 hD.rok fun w2 ha2 hF2 => ?_
          simp +decide (disch := omega) only [↓EQA, CEA, LIA, NIA, Nat.lt_irrefl, Option.toList_some, Option.toList_none, List.cons_append, List.nil_append, true_and, and_true, Nat.reduceAdd, Nat.reduceLeDiff, not_true_eq_false, not_false_eq_true, if_true, if_false, ite_true, ite_false, Int32.reduceLT, ite_not, eq_self, or_true, true_or, ite_self, reduceIte, g1, hF2.1, g2, B_X10_fireAt_J1, B_X10_fireAt_J2]
          refine t_refusedG (ha2.wk fun j i z => by omega) (CCHq c3 ha2 (fun i z => by omega) (fun i z => by omega)) fun w9 h9 => ?_
          simp +decide (disch := omega) only [↓EQA, CEA, LIA, NIA, Nat.lt_irrefl, Option.toList_some, Option.toList_none, List.cons_append, List.nil_append, true_and, and_true, Nat.reduceAdd, Nat.reduceLeDiff, not_true_eq_false, not_false_eq_true, if_true, if_false, ite_true, ite_false, Int32.reduceLT, ite_not, eq_self, or_true, true_or, ite_self, reduceIte, B_X10_fireAt_J1, B_X10_fireAt_J2]
          exact hQ _ h9
        · refine Cl_of k_X11_fireAt.1 (Nat.le_of_ble_eq_true rfl) (show Wp m_X11_fireAt _ 0 _ 0 [.ref 59, .int (nI j), .null] [] _ from S_X11_fireAt_0 _ _ _ ?_)
          simp +decide (disch := omega) only [↓EQA, CEA, LIA, NIA, Nat.lt_irrefl, Option.toList_some, Option.toList_none, List.cons_append, List.nil_append, true_and, and_true, Nat.reduceAdd, Nat.reduceLeDiff, not_true_eq_false, not_false_eq_true, if_true, if_false, ite_true, ite_false, Int32.reduceLT, ite_not, eq_self, or_true, true_or, ite_self, reduceIte, B_X11_fireAt_0]
          refine u_goodG hM fun wg hMg hA h11 => ?_
          simp +decide (disch := omega) only [↓EQA, CEA, LIA, NIA, Nat.lt_irrefl, Option.toList_some, Option.toList_none, List.cons_append, List.nil_append, true_and, and_true, Nat.reduceAdd, Nat.reduceLeDiff, not_true_eq_false, not_false_eq_true, if_true, if_false, ite_true, ite_false, Int32.reduceLT, ite_not, eq_self, or_true, true_or, ite_self, reduceIte, e14 hMg g0, g1]
          refine u_seekFires hU hMg.1 hMg.2.2.1 fun w2 ha2 h22 h33 h34 h35 h71 => ?_
          have hM2 : IMd w2 T D F := hMg.ag ha2 (fun i z => by omega) (fun i z => by omega) (by omega) h22
          simp +decide (disch := omega) only [↓EQA, CEA, LIA, NIA, Nat.lt_irrefl, Option.toList_some, Option.toList_none, List.cons_append, List.nil_append, true_and, and_true, Nat.reduceAdd, Nat.reduceLeDiff, not_true_eq_false, not_false_eq_true, if_true, if_false, ite_true, ite_false, Int32.reduceLT, ite_not, eq_self, or_true, true_or, ite_self, reduceIte, f3]
          refine u_noG hM2 (hA.tr (ha2.wk fun j i z => by omega)) fun w9 h9 => ?_
          simp +decide (disch := omega) only [↓EQA, CEA, LIA, NIA, Nat.lt_irrefl, Option.toList_some, Option.toList_none, List.cons_append, List.nil_append, true_and, and_true, Nat.reduceAdd, Nat.reduceLeDiff, not_true_eq_false, not_false_eq_true, if_true, if_false, ite_true, ite_false, Int32.reduceLT, ite_not, eq_self, or_true, true_or, ite_self, reduceIte, B_X11_fireAt_J1, B_X11_fireAt_J2]
          exact hK _ h9
  · refine askI (v := -1) (tr := 1) hI (by decide) (fun Q hQ => ?_) (fun w1 K hM hK => ?_)
    · refine Cl_of k_X10_fireAt.1 (Nat.le_of_ble_eq_true rfl) (show Wp m_X10_fireAt _ 0 _ 0 [.ref 0, .int x] [] _ from S_X10_fireAt_0 _ _ _ ?_)
      simp +decide (disch := omega) only [↓EQA, CEA, LIA, NIA, Nat.lt_irrefl, Option.toList_some, Option.toList_none, List.cons_append, List.nil_append, true_and, and_true, Nat.reduceAdd, Nat.reduceLeDiff, not_true_eq_false, not_false_eq_true, if_true, if_false, ite_true, ite_false, Int32.reduceLT, ite_not, eq_self, or_true, true_or, ite_self, reduceIte, B_X10_fireAt_0]
      refine t_isTold c1 hZ ?_
      rw [show bI (1 ≤ nH T) = 0 from if_neg g0]
      simp +decide (disch := omega) only [↓EQA, CEA, LIA, NIA, Nat.lt_irrefl, Option.toList_some, Option.toList_none, List.cons_append, List.nil_append, true_and, and_true, Nat.reduceAdd, Nat.reduceLeDiff, not_true_eq_false, not_false_eq_true, if_true, if_false, ite_true, ite_false, Int32.reduceLT, ite_not, eq_self, or_true, true_or, ite_self, reduceIte]
      refine t_refusedG Ag.rf c3 fun w9 h9 => ?_
      simp +decide (disch := omega) only [↓EQA, CEA, LIA, NIA, Nat.lt_irrefl, Option.toList_some, Option.toList_none, List.cons_append, List.nil_append, true_and, and_true, Nat.reduceAdd, Nat.reduceLeDiff, not_true_eq_false, not_false_eq_true, if_true, if_false, ite_true, ite_false, Int32.reduceLT, ite_not, eq_self, or_true, true_or, ite_self, reduceIte]
      exact hQ _ h9
    · refine Cl_of k_X11_fireAt.1 (Nat.le_of_ble_eq_true rfl) (show Wp m_X11_fireAt _ 0 _ 0 [.ref 59, .int x, .null] [] _ from S_X11_fireAt_0 _ _ _ ?_)
      simp +decide (disch := omega) only [↓EQA, CEA, LIA, NIA, Nat.lt_irrefl, Option.toList_some, Option.toList_none, List.cons_append, List.nil_append, true_and, and_true, Nat.reduceAdd, Nat.reduceLeDiff, not_true_eq_false, not_false_eq_true, if_true, if_false, ite_true, ite_false, Int32.reduceLT, ite_not, eq_self, or_true, true_or, ite_self, reduceIte, B_X11_fireAt_0]
      refine u_goodG hM fun wg hMg hA h11 => ?_
      simp +decide (disch := omega) only [↓EQA, CEA, LIA, NIA, Nat.lt_irrefl, Option.toList_some, Option.toList_none, List.cons_append, List.nil_append, true_and, and_true, Nat.reduceAdd, Nat.reduceLeDiff, not_true_eq_false, not_false_eq_true, if_true, if_false, ite_true, ite_false, Int32.reduceLT, ite_not, eq_self, or_true, true_or, ite_self, reduceIte, e14n hMg g0, B_X11_fireAt_J1, B_X11_fireAt_J2]
      refine u_noG hMg hA fun w9 h9 => ?_
      simp +decide (disch := omega) only [↓EQA, CEA, LIA, NIA, Nat.lt_irrefl, Option.toList_some, Option.toList_none, List.cons_append, List.nil_append, true_and, and_true, Nat.reduceAdd, Nat.reduceLeDiff, not_true_eq_false, not_false_eq_true, if_true, if_false, ite_true, ite_false, Int32.reduceLT, ite_not, eq_self, or_true, true_or, ite_self, reduceIte]
      exact hK _ h9
/-! the weir -/
theorem t_payoff {s : Int32} {b o : Bool} (hQ : Q (some (.int (wvI s b o))) w) : Cl (d + 1) m_X10_payoff [.int s, .int (bI (b = true)), .int (bI (o = true))] w Q := by
  refine Cl_of k_X10_payoff.1 (Nat.le_of_ble_eq_true rfl) (show Wp m_X10_payoff _ 0 _ 0 [.int s, .int (bI (b = true)), .int (bI (o = true))] [] _ from S_X10_payoff_0 _ _ _ ?_)
  cases b <;> cases o <;> (simp +decide (disch := omega) only [↓EQA, CEA, LIA, NIA, Nat.lt_irrefl, Option.toList_some, Option.toList_none, List.cons_append, List.nil_append, true_and, and_true, Nat.reduceAdd, Nat.reduceLeDiff, not_true_eq_false, not_false_eq_true, if_true, if_false, ite_true, ite_false, Int32.reduceLT, ite_not, eq_self, or_true, true_or, ite_self, reduceIte, B_X10_payoff_0, B_X10_payoff_J1, B_X10_payoff_J2]; exact hQ)
theorem u_weirOf {s : Int32} {b o : Bool} (hQ : Q (some (.int (wvI s b o))) w) : Cl (d + 1) m_X11_weirOf [.int s, .int (bI (b = true)), .int (bI (o = true))] w Q := by
  refine Cl_of k_X11_weirOf.1 (Nat.le_of_ble_eq_true rfl) (show Wp m_X11_weirOf _ 0 _ 0 [.int s, .int (bI (b = true)), .int (bI (o = true))] [] _ from S_X11_weirOf_0 _ _ _ ?_)
  cases b <;> cases o <;> (simp +decide (disch := omega) only [↓EQA, CEA, LIA, NIA, Nat.lt_irrefl, Option.toList_some, Option.toList_none, List.cons_append, List.nil_append, true_and, and_true, Nat.reduceAdd, Nat.reduceLeDiff, not_true_eq_false, not_false_eq_true, if_true, if_false, ite_true, ite_false, Int32.reduceLT, ite_not, eq_self, or_true, true_or, ite_self, reduceIte, B_X11_weirOf_0, B_X11_weirOf_J1]; exact hQ)
theorem t_isRest {s : Int32} {b o : Bool} (hQ : Q (some (.int (bI (irB s b o = true)))) w) : Cl (d + 2) m_X10_isRest [.int s, .int (bI (b = true)), .int (bI (o = true))] w Q := by
  have two : ¬ wvI s b o < wvI s (!b) o → B_X10_isRest_J2 (d + 1) 0 Q [.int s, .int (bI (b = true)), .int (bI (o = true))] [.int (bI ((!o) = true)), .int s] w := by
    intro h1
    simp +decide (disch := omega) only [↓EQA, CEA, LIA, NIA, Nat.lt_irrefl, Option.toList_some, Option.toList_none, List.cons_append, List.nil_append, true_and, and_true, Nat.reduceAdd, Nat.reduceLeDiff, not_true_eq_false, not_false_eq_true, if_true, if_false, ite_true, ite_false, Int32.reduceLT, ite_not, eq_self, or_true, true_or, ite_self, reduceIte, B_X10_isRest_J2]
    refine t_payoff ?_
    simp +decide (disch := omega) only [↓EQA, CEA, LIA, NIA, Nat.lt_irrefl, Option.toList_some, Option.toList_none, List.cons_append, List.nil_append, true_and, and_true, Nat.reduceAdd, Nat.reduceLeDiff, not_true_eq_false, not_false_eq_true, if_true, if_false, ite_true, ite_false, Int32.reduceLT, ite_not, eq_self, or_true, true_or, ite_self, reduceIte]
    refine t_payoff ?_
    simp +decide (disch := omega) only [↓EQA, CEA, LIA, NIA, Nat.lt_irrefl, Option.toList_some, Option.toList_none, List.cons_append, List.nil_append, true_and, and_true, Nat.reduceAdd, Nat.reduceLeDiff, not_true_eq_false, not_false_eq_true, if_true, if_false, ite_true, ite_false, Int32.reduceLT, ite_not, eq_self, or_true, true_or, ite_self, reduceIte, B_X10_isRest_J1, B_X10_isRest_J2, B_X10_isRest_J3, B_X10_isRest_J4]
    by_cases q : wvI s o b < wvI s (!o) b
    · rw [show irB s b o = false by simp [irB, q]] at hQ
      rw [if_pos q]; exact hQ
    · rw [show irB s b o = true by simp [irB, q, h1]] at hQ
      rw [if_neg q]; exact hQ
  have one : B_X10_isRest_J1 (d + 1) 0 Q [.int s, .int (bI (b = true)), .int (bI (o = true))] [.int (bI ((!b) = true)), .int s] w := by
    simp +decide (disch := omega) only [↓EQA, CEA, LIA, NIA, Nat.lt_irrefl, Option.toList_some, Option.toList_none, List.cons_append, List.nil_append, true_and, and_true, Nat.reduceAdd, Nat.reduceLeDiff, not_true_eq_false, not_false_eq_true, if_true, if_false, ite_true, ite_false, Int32.reduceLT, ite_not, eq_self, or_true, true_or, ite_self, reduceIte, B_X10_isRest_J1]
    refine t_payoff ?_
    simp +decide (disch := omega) only [↓EQA, CEA, LIA, NIA, Nat.lt_irrefl, Option.toList_some, Option.toList_none, List.cons_append, List.nil_append, true_and, and_true, Nat.reduceAdd, Nat.reduceLeDiff, not_true_eq_false, not_false_eq_true, if_true, if_false, ite_true, ite_false, Int32.reduceLT, ite_not, eq_self, or_true, true_or, ite_self, reduceIte]
    refine t_payoff ?_
    simp +decide (disch := omega) only [↓EQA, CEA, LIA, NIA, Nat.lt_irrefl, Option.toList_some, Option.toList_none, List.cons_append, List.nil_append, true_and, and_true, Nat.reduceAdd, Nat.reduceLeDiff, not_true_eq_false, not_false_eq_true, if_true, if_false, ite_true, ite_false, Int32.reduceLT, ite_not, eq_self, or_true, true_or, ite_self, reduceIte]
    by_cases q : wvI s b o < wvI s (!b) o
    · rw [show irB s b o = false by simp [irB, q]] at hQ
      rw [if_pos q]
      simp +decide (disch := omega) only [↓EQA, CEA, LIA, NIA, Nat.lt_irrefl, Option.toList_some, Option.toList_none, List.cons_append, List.nil_append, true_and, and_true, Nat.reduceAdd, Nat.reduceLeDiff, not_true_eq_false, not_false_eq_true, if_true, if_false, ite_true, ite_false, Int32.reduceLT, ite_not, eq_self, or_true, true_or, ite_self, reduceIte, B_X10_isRest_J1, B_X10_isRest_J2, B_X10_isRest_J3, B_X10_isRest_J4]; exact hQ
    · rw [if_neg q]
      have t2 := two q
      cases o <;> (simp +decide (disch := omega) only [↓EQA, CEA, LIA, NIA, Nat.lt_irrefl, Option.toList_some, Option.toList_none, List.cons_append, List.nil_append, true_and, and_true, Nat.reduceAdd, Nat.reduceLeDiff, not_true_eq_false, not_false_eq_true, if_true, if_false, ite_true, ite_false, Int32.reduceLT, ite_not, eq_self, or_true, true_or, ite_self, reduceIte]; exact t2)
  refine Cl_of k_X10_isRest.1 (Nat.le_of_ble_eq_true rfl) (show Wp m_X10_isRest _ 0 _ 0 [.int s, .int (bI (b = true)), .int (bI (o = true))] [] _ from S_X10_isRest_0 _ _ _ ?_)
  simp +decide (disch := omega) only [↓EQA, CEA, LIA, NIA, Nat.lt_irrefl, Option.toList_some, Option.toList_none, List.cons_append, List.nil_append, true_and, and_true, Nat.reduceAdd, Nat.reduceLeDiff, not_true_eq_false, not_false_eq_true, if_true, if_false, ite_true, ite_false, Int32.reduceLT, ite_not, eq_self, or_true, true_or, ite_self, reduceIte, B_X10_isRest_0]
  cases b <;> (simp +decide (disch := omega) only [↓EQA, CEA, LIA, NIA, Nat.lt_irrefl, Option.toList_some, Option.toList_none, List.cons_append, List.nil_append, true_and, and_true, Nat.reduceAdd, Nat.reduceLeDiff, not_true_eq_false, not_false_eq_true, if_true, if_false, ite_true, ite_false, Int32.reduceLT, ite_not, eq_self, or_true, true_or, ite_self, reduceIte]; exact one)
theorem u_isRest {s : Int32} {b o : Bool} (hQ : Q (some (.int (bI (irB s b o = true)))) w) : Cl (d + 2) m_X11_isRest [.int s, .int (bI (b = true)), .int (bI (o = true))] w Q := by
  have two : ¬ wvI s b o < wvI s (!b) o → B_X11_isRest_J2 (d + 1) 0 Q [.int s, .int (bI (b = true)), .int (bI (o = true))] [.int (bI ((!o) = true)), .int s] w := by
    intro h1
    simp +decide (disch := omega) only [↓EQA, CEA, LIA, NIA, Nat.lt_irrefl, Option.toList_some, Option.toList_none, List.cons_append, List.nil_append, true_and, and_true, Nat.reduceAdd, Nat.reduceLeDiff, not_true_eq_false, not_false_eq_true, if_true, if_false, ite_true, ite_false, Int32.reduceLT, ite_not, eq_self, or_true, true_or, ite_self, reduceIte, B_X11_isRest_J2]
    refine u_weirOf ?_
    simp +decide (disch := omega) only [↓EQA, CEA, LIA, NIA, Nat.lt_irrefl, Option.toList_some, Option.toList_none, List.cons_append, List.nil_append, true_and, and_true, Nat.reduceAdd, Nat.reduceLeDiff, not_true_eq_false, not_false_eq_true, if_true, if_false, ite_true, ite_false, Int32.reduceLT, ite_not, eq_self, or_true, true_or, ite_self, reduceIte]
    refine u_weirOf ?_
    simp +decide (disch := omega) only [↓EQA, CEA, LIA, NIA, Nat.lt_irrefl, Option.toList_some, Option.toList_none, List.cons_append, List.nil_append, true_and, and_true, Nat.reduceAdd, Nat.reduceLeDiff, not_true_eq_false, not_false_eq_true, if_true, if_false, ite_true, ite_false, Int32.reduceLT, ite_not, eq_self, or_true, true_or, ite_self, reduceIte, B_X11_isRest_J1, B_X11_isRest_J2, B_X11_isRest_J3, B_X11_isRest_J4]
    by_cases q : wvI s o b < wvI s (!o) b
    · rw [show irB s b o = false by simp [irB, q]] at hQ
      rw [if_pos q]; exact hQ
    · rw [show irB s b o = true by simp [irB, q, h1]] at hQ
      rw [if_neg q]; exact hQ
  have one : B_X11_isRest_J1 (d + 1) 0 Q [.int s, .int (bI (b = true)), .int (bI (o = true))] [.int (bI ((!b) = true)), .int s] w := by
    simp +decide (disch := omega) only [↓EQA, CEA, LIA, NIA, Nat.lt_irrefl, Option.toList_some, Option.toList_none, List.cons_append, List.nil_append, true_and, and_true, Nat.reduceAdd, Nat.reduceLeDiff, not_true_eq_false, not_false_eq_true, if_true, if_false, ite_true, ite_false, Int32.reduceLT, ite_not, eq_self, or_true, true_or, ite_self, reduceIte, B_X11_isRest_J1]
    refine u_weirOf ?_
    simp +decide (disch := omega) only [↓EQA, CEA, LIA, NIA, Nat.lt_irrefl, Option.toList_some, Option.toList_none, List.cons_append, List.nil_append, true_and, and_true, Nat.reduceAdd, Nat.reduceLeDiff, not_true_eq_false, not_false_eq_true, if_true, if_false, ite_true, ite_false, Int32.reduceLT, ite_not, eq_self, or_true, true_or, ite_self, reduceIte]
    refine u_weirOf ?_
    simp +decide (disch := omega) only [↓EQA, CEA, LIA, NIA, Nat.lt_irrefl, Option.toList_some, Option.toList_none, List.cons_append, List.nil_append, true_and, and_true, Nat.reduceAdd, Nat.reduceLeDiff, not_true_eq_false, not_false_eq_true, if_true, if_false, ite_true, ite_false, Int32.reduceLT, ite_not, eq_self, or_true, true_or, ite_self, reduceIte]
    by_cases q : wvI s b o < wvI s (!b) o
    · rw [show irB s b o = false by simp [irB, q]] at hQ
      rw [if_pos q]
      simp +decide (disch := omega) only [↓EQA, CEA, LIA, NIA, Nat.lt_irrefl, Option.toList_some, Option.toList_none, List.cons_append, List.nil_append, true_and, and_true, Nat.reduceAdd, Nat.reduceLeDiff, not_true_eq_false, not_false_eq_true, if_true, if_false, ite_true, ite_false, Int32.reduceLT, ite_not, eq_self, or_true, true_or, ite_self, reduceIte, B_X11_isRest_J1, B_X11_isRest_J2, B_X11_isRest_J3, B_X11_isRest_J4]; exact hQ
    · rw [if_neg q]
      have t2 := two q
      cases o <;> (simp +decide (disch := omega) only [↓EQA, CEA, LIA, NIA, Nat.lt_irrefl, Option.toList_some, Option.toList_none, List.cons_append, List.nil_append, true_and, and_true, Nat.reduceAdd, Nat.reduceLeDiff, not_true_eq_false, not_false_eq_true, if_true, if_false, ite_true, ite_false, Int32.reduceLT, ite_not, eq_self, or_true, true_or, ite_self, reduceIte]; exact t2)
  refine Cl_of k_X11_isRest.1 (Nat.le_of_ble_eq_true rfl) (show Wp m_X11_isRest _ 0 _ 0 [.int s, .int (bI (b = true)), .int (bI (o = true))] [] _ from S_X11_isRest_0 _ _ _ ?_)
  simp +decide (disch := omega) only [↓EQA, CEA, LIA, NIA, Nat.lt_irrefl, Option.toList_some, Option.toList_none, List.cons_append, List.nil_append, true_and, and_true, Nat.reduceAdd, Nat.reduceLeDiff, not_true_eq_false, not_false_eq_true, if_true, if_false, ite_true, ite_false, Int32.reduceLT, ite_not, eq_self, or_true, true_or, ite_self, reduceIte, B_X11_isRest_0]
  cases b <;> (simp +decide (disch := omega) only [↓EQA, CEA, LIA, NIA, Nat.lt_irrefl, Option.toList_some, Option.toList_none, List.cons_append, List.nil_append, true_and, and_true, Nat.reduceAdd, Nat.reduceLeDiff, not_true_eq_false, not_false_eq_true, if_true, if_false, ite_true, ite_false, Int32.reduceLT, ite_not, eq_self, or_true, true_or, ite_self, reduceIte]; exact one)
theorem u_why {a b : Bool} (hQ : Q (some (.int (if a = false then 1 else if b = true then 0 else 2))) w) : Cl (d + 1) m_X11_why [.ref 59, .int (bI (a = true)), .int (bI (b = true))] w Q := by
  refine Cl_of k_X11_why.1 (Nat.le_of_ble_eq_true rfl) (show Wp m_X11_why _ 0 _ 0 [.ref 59, .int (bI (a = true)), .int (bI (b = true))] [] _ from S_X11_why_0 _ _ _ ?_)
  cases a <;> cases b <;> (simp +decide (disch := omega) only [↓EQA, CEA, LIA, NIA, Nat.lt_irrefl, Option.toList_some, Option.toList_none, List.cons_append, List.nil_append, true_and, and_true, Nat.reduceAdd, Nat.reduceLeDiff, not_true_eq_false, not_false_eq_true, if_true, if_false, ite_true, ite_false, Int32.reduceLT, ite_not, eq_self, or_true, true_or, ite_self, reduceIte, B_X11_why_0, B_X11_why_J1]; exact hQ)
theorem t_whyNoWeir (hT : Told w T) (hZ : SZ T) (hQ : Q (some (.int (if decide (1 ≤ nH T) = false then 1 else if decide (¬ x < 0 ∧ ¬ 9 < x) = true then 0 else 2))) w) : Cl (d + 2) m_X10_whyNoWeir [.ref 0, .int x] w Q := by
  refine Cl_of k_X10_whyNoWeir.1 (Nat.le_of_ble_eq_true rfl) (show Wp m_X10_whyNoWeir _ 0 _ 0 [.ref 0, .int x] [] _ from S_X10_whyNoWeir_0 _ _ _ ?_)
  simp +decide (disch := omega) only [↓EQA, CEA, LIA, NIA, Nat.lt_irrefl, Option.toList_some, Option.toList_none, List.cons_append, List.nil_append, true_and, and_true, Nat.reduceAdd, Nat.reduceLeDiff, not_true_eq_false, not_false_eq_true, if_true, if_false, ite_true, ite_false, Int32.reduceLT, ite_not, eq_self, or_true, true_or, ite_self, reduceIte, B_X10_whyNoWeir_0]
  refine t_isTold hT hZ ?_
  by_cases g : 1 ≤ nH T
  · rw [show bI (1 ≤ nH T) = 1 from if_pos g]
    rw [if_neg (by rw [decide_eq_false_iff_not]; exact fun z => z g)] at hQ
    simp +decide (disch := omega) only [↓EQA, CEA, LIA, NIA, Nat.lt_irrefl, Option.toList_some, Option.toList_none, List.cons_append, List.nil_append, true_and, and_true, Nat.reduceAdd, Nat.reduceLeDiff, not_true_eq_false, not_false_eq_true, if_true, if_false, ite_true, ite_false, Int32.reduceLT, ite_not, eq_self, or_true, true_or, ite_self, reduceIte]
    refine t_isWithin ?_
    by_cases g2 : ¬ x < 0 ∧ ¬ 9 < x
    · rw [show bI (¬ x < 0 ∧ ¬ 9 < x) = 1 from if_pos g2]
      rw [if_pos (decide_eq_true g2)] at hQ
      simp +decide (disch := omega) only [↓EQA, CEA, LIA, NIA, Nat.lt_irrefl, Option.toList_some, Option.toList_none, List.cons_append, List.nil_append, true_and, and_true, Nat.reduceAdd, Nat.reduceLeDiff, not_true_eq_false, not_false_eq_true, if_true, if_false, ite_true, ite_false, Int32.reduceLT, ite_not, eq_self, or_true, true_or, ite_self, reduceIte, B_X10_whyNoWeir_J1]; exact hQ
    · rw [show bI (¬ x < 0 ∧ ¬ 9 < x) = 0 from if_neg g2]
      rw [if_neg (fun z => g2 (of_decide_eq_true z))] at hQ
      simp +decide (disch := omega) only [↓EQA, CEA, LIA, NIA, Nat.lt_irrefl, Option.toList_some, Option.toList_none, List.cons_append, List.nil_append, true_and, and_true, Nat.reduceAdd, Nat.reduceLeDiff, not_true_eq_false, not_false_eq_true, if_true, if_false, ite_true, ite_false, Int32.reduceLT, ite_not, eq_self, or_true, true_or, ite_self, reduceIte, B_X10_whyNoWeir_J1]; exact hQ
  · rw [show bI (1 ≤ nH T) = 0 from if_neg g]
    rw [if_pos (decide_eq_false g)] at hQ
    simp +decide (disch := omega) only [↓EQA, CEA, LIA, NIA, Nat.lt_irrefl, Option.toList_some, Option.toList_none, List.cons_append, List.nil_append, true_and, and_true, Nat.reduceAdd, Nat.reduceLeDiff, not_true_eq_false, not_false_eq_true, if_true, if_false, ite_true, ite_false, Int32.reduceLT, ite_not, eq_self, or_true, true_or, ite_self, reduceIte]
    exact hQ
end Pub9
