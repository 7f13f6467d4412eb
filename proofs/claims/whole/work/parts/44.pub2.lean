/-! ===== the public calls, in pairs ===== -/
theorem best_lt {p : Nat → Nat → Bool} : ∀ j, 1 ≤ j → fld (fun h f => if p h f = true then h else f) j 0 < j := by
  intro j
  induction j with
  | zero => intro h; omega
  | succ j ih =>
    intro _
    show (if p j _ = true then j else fld _ j 0) < j + 1
    split
    · omega
    · rcases Nat.eq_zero_or_pos j with z | z
      · subst z; show 0 < 1; decide
      · have := ih z; omega
theorem CN_pc5 {T : Tv} {D F : Nat → Nat} {h : Nat} (hU : PU T D F) : CN T (VC (RS D)) h = pc5 (cw D h) := by
  have hz := hU.1.2
  unfold CN pc5
  refine (cnt_ext hz.2.2.1 fun j a b => ?_).symm
  show (cw D h).testBit j = false
  rw [cw_bit D h b, hU.2.2.2.2.1 j a b]; simp
section Pub
variable {d : Nat} {w : Mem} {T : Tv} {D F : Nat → Nat}
theorem p_loses {x : Int32} (hI : IV w T D F) : PRI (d + 20) m_X10_loses m_X11_loses [.ref 0, .int x] [.ref 59, .int x] w := by
  obtain ⟨hZ, hP, ⟨c1, c2, c3⟩, -⟩ := id hI
  have hz := hZ.2
  by_cases g0 : inR x (nH T)
  · obtain ⟨k, hk, rfl⟩ := inR_k g0 (by omega)
    have hH : 1 ≤ nH T := by omega
    have hU := hP.pu hH
    obtain ⟨-, hO, hD, hDH, h0, h7, hFr⟩ := id hU
    refine askI (v := LO T k) (tr := 0) hI (by decide) (fun Q hQ => ?_) (fun w1 K hM hK => ?_)
    · refine Cl_of k_X10_loses.1 (Nat.le_of_ble_eq_true rfl) (show Wp m_X10_loses _ 0 _ 0 [.ref 0, .int (nI k)] [] _ from S_X10_loses_0 _ _ _ ?_)
      simp +decide (disch := omega) only [↓EQA, CEA, LIA, NIA, Nat.lt_irrefl, Option.toList_some, Option.toList_none, List.cons_append, List.nil_append, true_and, and_true, Nat.reduceAdd, Nat.reduceLeDiff, not_true_eq_false, not_false_eq_true, if_true, if_false, ite_true, ite_false, Int32.reduceLT, ite_not, eq_self, or_true, true_or, ite_self, reduceIte, B_X10_loses_0, B_X10_loses_J1]
      refine t_isHouse c1 hZ ?_
      rw [show bI (inR _ (nH T)) = 1 from if_pos g0]
      simp +decide (disch := omega) only [↓EQA, CEA, LIA, NIA, Nat.lt_irrefl, Option.toList_some, Option.toList_none, List.cons_append, List.nil_append, true_and, and_true, Nat.reduceAdd, Nat.reduceLeDiff, not_true_eq_false, not_false_eq_true, if_true, if_false, ite_true, ite_false, Int32.reduceLT, ite_not, eq_self, or_true, true_or, ite_self, reduceIte, B_X10_loses_J1]
      refine t_storeysLost c1 (by omega) ?_
      simp +decide (disch := omega) only [↓EQA, CEA, LIA, NIA, Nat.lt_irrefl, Option.toList_some, Option.toList_none, List.cons_append, List.nil_append, true_and, and_true, Nat.reduceAdd, Nat.reduceLeDiff, not_true_eq_false, not_false_eq_true, if_true, if_false, ite_true, ite_false, Int32.reduceLT, ite_not, eq_self, or_true, true_or, ite_self, reduceIte]
      refine t_grantedG (Ag.rf) (c3) fun w9 h9 => ?_
      simp +decide (disch := omega) only [↓EQA, CEA, LIA, NIA, Nat.lt_irrefl, Option.toList_some, Option.toList_none, List.cons_append, List.nil_append, true_and, and_true, Nat.reduceAdd, Nat.reduceLeDiff, not_true_eq_false, not_false_eq_true, if_true, if_false, ite_true, ite_false, Int32.reduceLT, ite_not, eq_self, or_true, true_or, ite_self, reduceIte, B_X10_loses_J1]
      exact hQ _ h9
    · refine Cl_of k_X11_loses.1 (Nat.le_of_ble_eq_true rfl) (show Wp m_X11_loses _ 0 _ 0 [.ref 59, .int (nI k), .null] [] _ from S_X11_loses_0 _ _ _ ?_)
      simp +decide (disch := omega) only [↓EQA, CEA, LIA, NIA, Nat.lt_irrefl, Option.toList_some, Option.toList_none, List.cons_append, List.nil_append, true_and, and_true, Nat.reduceAdd, Nat.reduceLeDiff, not_true_eq_false, not_false_eq_true, if_true, if_false, ite_true, ite_false, Int32.reduceLT, ite_not, eq_self, or_true, true_or, ite_self, reduceIte, B_X11_loses_0]
      refine u_goodG hM fun wg hMg hA h11 => ?_
      simp +decide (disch := omega) only [↓EQA, CEA, LIA, NIA, Nat.lt_irrefl, Option.toList_some, Option.toList_none, List.cons_append, List.nil_append, true_and, and_true, Nat.reduceAdd, Nat.reduceLeDiff, not_true_eq_false, not_false_eq_true, if_true, if_false, ite_true, ite_false, Int32.reduceLT, ite_not, eq_self, or_true, true_or, ite_self, reduceIte]
      refine u_isHouse hMg hZ hP ?_
      rw [show bI (inR _ (nH T)) = 1 from if_pos g0]
      simp +decide (disch := omega) only [↓EQA, CEA, LIA, NIA, Nat.lt_irrefl, Option.toList_some, Option.toList_none, List.cons_append, List.nil_append, true_and, and_true, Nat.reduceAdd, Nat.reduceLeDiff, not_true_eq_false, not_false_eq_true, if_true, if_false, ite_true, ite_false, Int32.reduceLT, ite_not, eq_self, or_true, true_or, ite_self, reduceIte, B_X11_loses_J1, B_X11_loses_J2]
      refine u_storeysOf hMg.1 hz.2.1 hk ?_
      obtain ⟨s, hs1, hs2, hs3⟩ := (hO.2.2.2.2.2.2.1 k hk).2.2
      obtain ⟨b, hb1, hb2, hb3⟩ := hO.2.1
      have e9 : (T 5 k - T 0 1 < 0) = (T 5 k < T 0 1) := by
        rw [hs1, hb1]
        apply propext
        have := pk_sub_toInt (a := s) (b := b) (by omega) (by omega)
        rw [nI_ltI (by omega) (by omega), Int32.lt_iff_toInt_lt, this]
        show _ < (0 : Int) ↔ _
        omega
      have hK' := hK _ ⟨hA, hMg.2.2.2.1, h11⟩
      unfold LO at hK'
      simp +decide (disch := omega) only [↓EQA, CEA, LIA, NIA, Nat.lt_irrefl, Option.toList_some, Option.toList_none, List.cons_append, List.nil_append, true_and, and_true, Nat.reduceAdd, Nat.reduceLeDiff, not_true_eq_false, not_false_eq_true, if_true, if_false, ite_true, ite_false, Int32.reduceLT, ite_not, eq_self, or_true, true_or, ite_self, reduceIte, hMg.1.1, hZ.1, e9, B_X11_loses_J1, B_X11_loses_J2]
      by_cases q : nB T = 0
      · rw [if_neg (by rw [hZ.1.1, q]; decide)] at hK'
        rw [if_pos q]; exact hK'
      · rw [if_pos (by rw [hZ.1.1]; exact nI_lt (a := 0) (by omega) (by omega))] at hK'
        rw [if_neg q]
        have e10 : (T 5 k < T 0 1) = (s < b) := by rw [hs1, hb1]; exact lt_n (by omega) (by omega)
        have e11 : (T 0 1 < T 5 k) = (b < s) := by rw [hs1, hb1]; exact lt_n (by omega) (by omega)
        simp only [e10, e11] at hK' ⊢
        by_cases q2 : s < b
        · rw [if_pos q2]; rw [if_neg (by omega)] at hK'; exact hK'
        · rw [if_neg q2]
          by_cases q3 : b < s
          · rw [if_pos q3] at hK'; exact hK'
          · rw [if_neg q3] at hK'
            have e : s = b := by omega
            rw [hs1, hb1, e, Int32.sub_self]; exact hK'
  · refine askI (v := -1) (tr := 1) hI (by decide) (fun Q hQ => ?_) (fun w1 K hM hK => ?_)
    · refine Cl_of k_X10_loses.1 (Nat.le_of_ble_eq_true rfl) (show Wp m_X10_loses _ 0 _ 0 [.ref 0, .int x] [] _ from S_X10_loses_0 _ _ _ ?_)
      simp +decide (disch := omega) only [↓EQA, CEA, LIA, NIA, Nat.lt_irrefl, Option.toList_some, Option.toList_none, List.cons_append, List.nil_append, true_and, and_true, Nat.reduceAdd, Nat.reduceLeDiff, not_true_eq_false, not_false_eq_true, if_true, if_false, ite_true, ite_false, Int32.reduceLT, ite_not, eq_self, or_true, true_or, ite_self, reduceIte, B_X10_loses_0, B_X10_loses_J1]
      refine t_isHouse c1 hZ ?_
      rw [show bI (inR _ (nH T)) = 0 from if_neg g0]
      simp +decide (disch := omega) only [↓EQA, CEA, LIA, NIA, Nat.lt_irrefl, Option.toList_some, Option.toList_none, List.cons_append, List.nil_append, true_and, and_true, Nat.reduceAdd, Nat.reduceLeDiff, not_true_eq_false, not_false_eq_true, if_true, if_false, ite_true, ite_false, Int32.reduceLT, ite_not, eq_self, or_true, true_or, ite_self, reduceIte, B_X10_loses_J1]
      refine t_refusedG Ag.rf c3 fun w9 h9 => ?_
      simp +decide (disch := omega) only [↓EQA, CEA, LIA, NIA, Nat.lt_irrefl, Option.toList_some, Option.toList_none, List.cons_append, List.nil_append, true_and, and_true, Nat.reduceAdd, Nat.reduceLeDiff, not_true_eq_false, not_false_eq_true, if_true, if_false, ite_true, ite_false, Int32.reduceLT, ite_not, eq_self, or_true, true_or, ite_self, reduceIte, B_X10_loses_J1]
      exact hQ _ h9
    · refine Cl_of k_X11_loses.1 (Nat.le_of_ble_eq_true rfl) (show Wp m_X11_loses _ 0 _ 0 [.ref 59, .int x, .null] [] _ from S_X11_loses_0 _ _ _ ?_)
      simp +decide (disch := omega) only [↓EQA, CEA, LIA, NIA, Nat.lt_irrefl, Option.toList_some, Option.toList_none, List.cons_append, List.nil_append, true_and, and_true, Nat.reduceAdd, Nat.reduceLeDiff, not_true_eq_false, not_false_eq_true, if_true, if_false, ite_true, ite_false, Int32.reduceLT, ite_not, eq_self, or_true, true_or, ite_self, reduceIte, B_X11_loses_0]
      refine u_goodG hM fun wg hMg hA h11 => ?_
      simp +decide (disch := omega) only [↓EQA, CEA, LIA, NIA, Nat.lt_irrefl, Option.toList_some, Option.toList_none, List.cons_append, List.nil_append, true_and, and_true, Nat.reduceAdd, Nat.reduceLeDiff, not_true_eq_false, not_false_eq_true, if_true, if_false, ite_true, ite_false, Int32.reduceLT, ite_not, eq_self, or_true, true_or, ite_self, reduceIte]
      refine u_isHouse hMg hZ hP ?_
      rw [show bI (inR _ (nH T)) = 0 from if_neg g0]
      simp +decide (disch := omega) only [↓EQA, CEA, LIA, NIA, Nat.lt_irrefl, Option.toList_some, Option.toList_none, List.cons_append, List.nil_append, true_and, and_true, Nat.reduceAdd, Nat.reduceLeDiff, not_true_eq_false, not_false_eq_true, if_true, if_false, ite_true, ite_false, Int32.reduceLT, ite_not, eq_self, or_true, true_or, ite_self, reduceIte, B_X11_loses_J1, B_X11_loses_J2]
      refine u_noG hMg hA fun w9 h9 => ?_
      simp +decide (disch := omega) only [↓EQA, CEA, LIA, NIA, Nat.lt_irrefl, Option.toList_some, Option.toList_none, List.cons_append, List.nil_append, true_and, and_true, Nat.reduceAdd, Nat.reduceLeDiff, not_true_eq_false, not_false_eq_true, if_true, if_false, ite_true, ite_false, Int32.reduceLT, ite_not, eq_self, or_true, true_or, ite_self, reduceIte, B_X11_loses_J1, B_X11_loses_J2]
      exact hK _ h9
theorem p_storey {x : Int32} (hI : IV w T D F) : PRI (d + 20) m_X10_storey m_X11_storey [.ref 0, .int x] [.ref 59, .int x] w := by
  obtain ⟨hZ, hP, ⟨c1, c2, c3⟩, -⟩ := id hI
  have hz := hZ.2
  by_cases g0 : inR x (nH T)
  · obtain ⟨k, hk, rfl⟩ := inR_k g0 (by omega)
    have hH : 1 ≤ nH T := by omega
    have hU := hP.pu hH
    obtain ⟨-, hO, hD, hDH, h0, h7, hFr⟩ := id hU
    refine askI (v := if 0 < LO T k then T 0 2 else 0) (tr := 0) hI (by decide) (fun Q hQ => ?_) (fun w1 K hM hK => ?_)
    · refine Cl_of k_X10_storey.1 (Nat.le_of_ble_eq_true rfl) (show Wp m_X10_storey _ 0 _ 0 [.ref 0, .int (nI k)] [] _ from S_X10_storey_0 _ _ _ ?_)
      simp +decide (disch := omega) only [↓EQA, CEA, LIA, NIA, Nat.lt_irrefl, Option.toList_some, Option.toList_none, List.cons_append, List.nil_append, true_and, and_true, Nat.reduceAdd, Nat.reduceLeDiff, not_true_eq_false, not_false_eq_true, if_true, if_false, ite_true, ite_false, Int32.reduceLT, ite_not, eq_self, or_true, true_or, ite_self, reduceIte, B_X10_storey_0, B_X10_storey_J1]
      refine t_isHouse c1 hZ ?_
      rw [show bI (inR _ (nH T)) = 1 from if_pos g0]
      simp +decide (disch := omega) only [↓EQA, CEA, LIA, NIA, Nat.lt_irrefl, Option.toList_some, Option.toList_none, List.cons_append, List.nil_append, true_and, and_true, Nat.reduceAdd, Nat.reduceLeDiff, not_true_eq_false, not_false_eq_true, if_true, if_false, ite_true, ite_false, Int32.reduceLT, ite_not, eq_self, or_true, true_or, ite_self, reduceIte, B_X10_storey_J1]
      refine t_storeysLost c1 (by omega) ?_
      simp +decide (disch := omega) only [↓EQA, CEA, LIA, NIA, Nat.lt_irrefl, Option.toList_some, Option.toList_none, List.cons_append, List.nil_append, true_and, and_true, Nat.reduceAdd, Nat.reduceLeDiff, not_true_eq_false, not_false_eq_true, if_true, if_false, ite_true, ite_false, Int32.reduceLT, ite_not, eq_self, or_true, true_or, ite_self, reduceIte, c1, B_X10_storey_J1]
      by_cases q : 0 < LO T k
      · rw [if_pos q] at hQ ⊢
        refine t_grantedG Ag.rf c3 fun w9 h9 => ?_
        simp +decide (disch := omega) only [↓EQA, CEA, LIA, NIA, Nat.lt_irrefl, Option.toList_some, Option.toList_none, List.cons_append, List.nil_append, true_and, and_true, Nat.reduceAdd, Nat.reduceLeDiff, not_true_eq_false, not_false_eq_true, if_true, if_false, ite_true, ite_false, Int32.reduceLT, ite_not, eq_self, or_true, true_or, ite_self, reduceIte]
        exact hQ _ h9
      · rw [if_neg q] at hQ ⊢
        refine t_grantedG Ag.rf c3 fun w9 h9 => ?_
        simp +decide (disch := omega) only [↓EQA, CEA, LIA, NIA, Nat.lt_irrefl, Option.toList_some, Option.toList_none, List.cons_append, List.nil_append, true_and, and_true, Nat.reduceAdd, Nat.reduceLeDiff, not_true_eq_false, not_false_eq_true, if_true, if_false, ite_true, ite_false, Int32.reduceLT, ite_not, eq_self, or_true, true_or, ite_self, reduceIte]
        exact hQ _ h9
    · refine Cl_of k_X11_storey.1 (Nat.le_of_ble_eq_true rfl) (show Wp m_X11_storey _ 0 _ 0 [.ref 59, .int (nI k)] [] _ from S_X11_storey_0 _ _ _ ?_)
      simp +decide (disch := omega) only [↓EQA, CEA, LIA, NIA, Nat.lt_irrefl, Option.toList_some, Option.toList_none, List.cons_append, List.nil_append, true_and, and_true, Nat.reduceAdd, Nat.reduceLeDiff, not_true_eq_false, not_false_eq_true, if_true, if_false, ite_true, ite_false, Int32.reduceLT, ite_not, eq_self, or_true, true_or, ite_self, reduceIte, B_X11_storey_0]
      refine u_goodG hM fun wg hMg hA h11 => ?_
      simp +decide (disch := omega) only [↓EQA, CEA, LIA, NIA, Nat.lt_irrefl, Option.toList_some, Option.toList_none, List.cons_append, List.nil_append, true_and, and_true, Nat.reduceAdd, Nat.reduceLeDiff, not_true_eq_false, not_false_eq_true, if_true, if_false, ite_true, ite_false, Int32.reduceLT, ite_not, eq_self, or_true, true_or, ite_self, reduceIte]
      refine u_isHouse hMg hZ hP ?_
      rw [show bI (inR _ (nH T)) = 1 from if_pos g0]
      simp +decide (disch := omega) only [↓EQA, CEA, LIA, NIA, Nat.lt_irrefl, Option.toList_some, Option.toList_none, List.cons_append, List.nil_append, true_and, and_true, Nat.reduceAdd, Nat.reduceLeDiff, not_true_eq_false, not_false_eq_true, if_true, if_false, ite_true, ite_false, Int32.reduceLT, ite_not, eq_self, or_true, true_or, ite_self, reduceIte, B_X11_storey_J1, B_X11_storey_J2]
      obtain ⟨s, hs1, hs2, hs3⟩ := (hO.2.2.2.2.2.2.1 k hk).2.2
      obtain ⟨b, hb1, hb2, hb3⟩ := hO.2.1
      have hK' := hK _ ⟨hA, hMg.2.2.2.1, h11⟩
      have e0 : (0 < nI (nB T)) = (0 < nB T) := lt_n (a := 0) (by decide) (by omega)
      have eL : (0 < LO T k) = (0 < nB T ∧ b < s) := by
        unfold LO
        have e11 : (T 0 1 < T 5 k) = (b < s) := by rw [hs1, hb1]; exact lt_n (by omega) (by omega)
        simp only [hZ.1.1, e0, e11]
        by_cases q : 0 < nB T
        · rw [if_pos q]
          by_cases q2 : b < s
          · rw [if_pos q2, hs1, hb1, nI_sub (by omega)]
            exact propext ⟨fun _ => ⟨q, q2⟩, fun _ => nI_lt (a := 0) (by omega) (by omega)⟩
          · rw [if_neg q2]
            exact propext ⟨fun z => absurd z (by decide), fun z => absurd z.2 q2⟩
        · rw [if_neg q]
          exact propext ⟨fun z => absurd z (by decide), fun z => absurd z.1 q⟩
      simp only [eL] at hK'
      simp +decide (disch := omega) only [↓EQA, CEA, LIA, NIA, Nat.lt_irrefl, Option.toList_some, Option.toList_none, List.cons_append, List.nil_append, true_and, and_true, Nat.reduceAdd, Nat.reduceLeDiff, not_true_eq_false, not_false_eq_true, if_true, if_false, ite_true, ite_false, Int32.reduceLT, ite_not, eq_self, or_true, true_or, ite_self, reduceIte, hMg.1.1, hZ.1, e0, B_X11_storey_J1, B_X11_storey_J2]
      by_cases q : 0 < nB T
      · rw [if_pos q]
        refine u_storeysOf hMg.1 hz.2.1 hk ?_
        simp +decide (disch := omega) only [↓EQA, CEA, LIA, NIA, Nat.lt_irrefl, Option.toList_some, Option.toList_none, List.cons_append, List.nil_append, true_and, and_true, Nat.reduceAdd, Nat.reduceLeDiff, not_true_eq_false, not_false_eq_true, if_true, if_false, ite_true, ite_false, Int32.reduceLT, ite_not, eq_self, or_true, true_or, ite_self, reduceIte, hMg.1.1, hs1, hb1, B_X11_storey_J1, B_X11_storey_J2]
        by_cases q2 : b < s
        · rw [if_pos ⟨q, q2⟩] at hK'; rw [if_pos q2]; exact hK'
        · rw [if_neg (fun z => q2 z.2)] at hK'; rw [if_neg q2]; exact hK'
      · rw [if_neg q]; rw [if_neg (fun z => q z.1)] at hK'; exact hK'
  · refine askI (v := -1) (tr := 1) hI (by decide) (fun Q hQ => ?_) (fun w1 K hM hK => ?_)
    · refine Cl_of k_X10_storey.1 (Nat.le_of_ble_eq_true rfl) (show Wp m_X10_storey _ 0 _ 0 [.ref 0, .int x] [] _ from S_X10_storey_0 _ _ _ ?_)
      simp +decide (disch := omega) only [↓EQA, CEA, LIA, NIA, Nat.lt_irrefl, Option.toList_some, Option.toList_none, List.cons_append, List.nil_append, true_and, and_true, Nat.reduceAdd, Nat.reduceLeDiff, not_true_eq_false, not_false_eq_true, if_true, if_false, ite_true, ite_false, Int32.reduceLT, ite_not, eq_self, or_true, true_or, ite_self, reduceIte, B_X10_storey_0, B_X10_storey_J1]
      refine t_isHouse c1 hZ ?_
      rw [show bI (inR _ (nH T)) = 0 from if_neg g0]
      simp +decide (disch := omega) only [↓EQA, CEA, LIA, NIA, Nat.lt_irrefl, Option.toList_some, Option.toList_none, List.cons_append, List.nil_append, true_and, and_true, Nat.reduceAdd, Nat.reduceLeDiff, not_true_eq_false, not_false_eq_true, if_true, if_false, ite_true, ite_false, Int32.reduceLT, ite_not, eq_self, or_true, true_or, ite_self, reduceIte, B_X10_storey_J1]
      refine t_refusedG Ag.rf c3 fun w9 h9 => ?_
      simp +decide (disch := omega) only [↓EQA, CEA, LIA, NIA, Nat.lt_irrefl, Option.toList_some, Option.toList_none, List.cons_append, List.nil_append, true_and, and_true, Nat.reduceAdd, Nat.reduceLeDiff, not_true_eq_false, not_false_eq_true, if_true, if_false, ite_true, ite_false, Int32.reduceLT, ite_not, eq_self, or_true, true_or, ite_self, reduceIte, B_X10_storey_J1]
      exact hQ _ h9
    · refine Cl_of k_X11_storey.1 (Nat.le_of_ble_eq_true rfl) (show Wp m_X11_storey _ 0 _ 0 [.ref 59, .int x] [] _ from S_X11_storey_0 _ _ _ ?_)
      simp +decide (disch := omega) only [↓EQA, CEA, LIA, NIA, Nat.lt_irrefl, Option.toList_some, Option.toList_none, List.cons_append, List.nil_append, true_and, and_true, Nat.reduceAdd, Nat.reduceLeDiff, not_true_eq_false, not_false_eq_true, if_true, if_false, ite_true, ite_false, Int32.reduceLT, ite_not, eq_self, or_true, true_or, ite_self, reduceIte, B_X11_storey_0]
      refine u_goodG hM fun wg hMg hA h11 => ?_
      simp +decide (disch := omega) only [↓EQA, CEA, LIA, NIA, Nat.lt_irrefl, Option.toList_some, Option.toList_none, List.cons_append, List.nil_append, true_and, and_true, Nat.reduceAdd, Nat.reduceLeDiff, not_true_eq_false, not_false_eq_true, if_true, if_false, ite_true, ite_false, Int32.reduceLT, ite_not, eq_self, or_true, true_or, ite_self, reduceIte]
      refine u_isHouse hMg hZ hP ?_
      rw [show bI (inR _ (nH T)) = 0 from if_neg g0]
      simp +decide (disch := omega) only [↓EQA, CEA, LIA, NIA, Nat.lt_irrefl, Option.toList_some, Option.toList_none, List.cons_append, List.nil_append, true_and, and_true, Nat.reduceAdd, Nat.reduceLeDiff, not_true_eq_false, not_false_eq_true, if_true, if_false, ite_true, ite_false, Int32.reduceLT, ite_not, eq_self, or_true, true_or, ite_self, reduceIte, B_X11_storey_J1, B_X11_storey_J2]
      refine u_noG hMg hA fun w9 h9 => ?_
      simp +decide (disch := omega) only [↓EQA, CEA, LIA, NIA, Nat.lt_irrefl, Option.toList_some, Option.toList_none, List.cons_append, List.nil_append, true_and, and_true, Nat.reduceAdd, Nat.reduceLeDiff, not_true_eq_false, not_false_eq_true, if_true, if_false, ite_true, ite_false, Int32.reduceLT, ite_not, eq_self, or_true, true_or, ite_self, reduceIte, B_X11_storey_J1, B_X11_storey_J2]
      exact hK _ h9
theorem p_together (hI : IV w T D F) : PRI (d + 20) m_X10_together m_X11_together [.ref 0] [.ref 59] w := by
  obtain ⟨hZ, hP, ⟨c1, c2, c3⟩, -⟩ := id hI
  have hz := hZ.2
  by_cases g0 : 1 ≤ nH T
  · have hH : 1 ≤ nH T := g0
    have hU := hP.pu hH
    obtain ⟨-, hO, hD, hDH, h0, h7, hFr⟩ := id hU
    refine askI (v := nI (TGn D F (nL T))) (tr := 0) hI (by decide) (fun Q hQ => ?_) (fun w1 K hM hK => ?_)
    · refine Cl_of k_X10_together.1 (Nat.le_of_ble_eq_true rfl) (show Wp m_X10_together _ 0 _ 0 [.ref 0] [] _ from S_X10_together_0 _ _ _ ?_)
      simp +decide (disch := omega) only [↓EQA, CEA, LIA, NIA, Nat.lt_irrefl, Option.toList_some, Option.toList_none, List.cons_append, List.nil_append, true_and, and_true, Nat.reduceAdd, Nat.reduceLeDiff, not_true_eq_false, not_false_eq_true, if_true, if_false, ite_true, ite_false, Int32.reduceLT, ite_not, eq_self, or_true, true_or, ite_self, reduceIte, B_X10_together_0, B_X10_together_J1]
      refine t_isTold c1 hZ ?_
      rw [show bI (1 ≤ nH T) = 1 from if_pos g0]
      simp +decide (disch := omega) only [↓EQA, CEA, LIA, NIA, Nat.lt_irrefl, Option.toList_some, Option.toList_none, List.cons_append, List.nil_append, true_and, and_true, Nat.reduceAdd, Nat.reduceLeDiff, not_true_eq_false, not_false_eq_true, if_true, if_false, ite_true, ite_false, Int32.reduceLT, ite_not, eq_self, or_true, true_or, ite_self, reduceIte, B_X10_together_J1]
      refine t_friendsTogether RK_now c1 hZ c2 ?_
      rw [show frN T (RS D) (nF T) = TGn D F (nL T) from TG_eq hZ hDH hFr]
      simp +decide (disch := omega) only [↓EQA, CEA, LIA, NIA, Nat.lt_irrefl, Option.toList_some, Option.toList_none, List.cons_append, List.nil_append, true_and, and_true, Nat.reduceAdd, Nat.reduceLeDiff, not_true_eq_false, not_false_eq_true, if_true, if_false, ite_true, ite_false, Int32.reduceLT, ite_not, eq_self, or_true, true_or, ite_self, reduceIte]
      refine t_grantedG (Ag.rf) (c3) fun w9 h9 => ?_
      simp +decide (disch := omega) only [↓EQA, CEA, LIA, NIA, Nat.lt_irrefl, Option.toList_some, Option.toList_none, List.cons_append, List.nil_append, true_and, and_true, Nat.reduceAdd, Nat.reduceLeDiff, not_true_eq_false, not_false_eq_true, if_true, if_false, ite_true, ite_false, Int32.reduceLT, ite_not, eq_self, or_true, true_or, ite_self, reduceIte, B_X10_together_J1]
      exact hQ _ h9
    · refine Cl_of k_X11_together.1 (Nat.le_of_ble_eq_true rfl) (show Wp m_X11_together _ 0 _ 0 [.ref 59] [] _ from S_X11_together_0 _ _ _ ?_)
      simp +decide (disch := omega) only [↓EQA, CEA, LIA, NIA, Nat.lt_irrefl, Option.toList_some, Option.toList_none, List.cons_append, List.nil_append, true_and, and_true, Nat.reduceAdd, Nat.reduceLeDiff, not_true_eq_false, not_false_eq_true, if_true, if_false, ite_true, ite_false, Int32.reduceLT, ite_not, eq_self, or_true, true_or, ite_self, reduceIte, B_X11_together_0]
      refine u_goodG hM fun wg hMg hA h11 => ?_
      simp +decide (disch := omega) only [↓EQA, CEA, LIA, NIA, Nat.lt_irrefl, Option.toList_some, Option.toList_none, List.cons_append, List.nil_append, true_and, and_true, Nat.reduceAdd, Nat.reduceLeDiff, not_true_eq_false, not_false_eq_true, if_true, if_false, ite_true, ite_false, Int32.reduceLT, ite_not, eq_self, or_true, true_or, ite_self, reduceIte, e14 hMg g0, B_X11_together_J1]
      refine u_togetherOf (row := 64) (D := D) hMg.1 hZ hMg.2.1 rfl (fun l hl => hMg.2.2.1 l (by omega)) hD.1 ?_
      simp +decide (disch := omega) only [↓EQA, CEA, LIA, NIA, Nat.lt_irrefl, Option.toList_some, Option.toList_none, List.cons_append, List.nil_append, true_and, and_true, Nat.reduceAdd, Nat.reduceLeDiff, not_true_eq_false, not_false_eq_true, if_true, if_false, ite_true, ite_false, Int32.reduceLT, ite_not, eq_self, or_true, true_or, ite_self, reduceIte, B_X11_together_J1]
      exact hK _ ⟨hA, hMg.2.2.2.1, h11⟩
  · refine askI (v := -1) (tr := 1) hI (by decide) (fun Q hQ => ?_) (fun w1 K hM hK => ?_)
    · refine Cl_of k_X10_together.1 (Nat.le_of_ble_eq_true rfl) (show Wp m_X10_together _ 0 _ 0 [.ref 0] [] _ from S_X10_together_0 _ _ _ ?_)
      simp +decide (disch := omega) only [↓EQA, CEA, LIA, NIA, Nat.lt_irrefl, Option.toList_some, Option.toList_none, List.cons_append, List.nil_append, true_and, and_true, Nat.reduceAdd, Nat.reduceLeDiff, not_true_eq_false, not_false_eq_true, if_true, if_false, ite_true, ite_false, Int32.reduceLT, ite_not, eq_self, or_true, true_or, ite_self, reduceIte, B_X10_together_0, B_X10_together_J1]
      refine t_isTold c1 hZ ?_
      rw [show bI (1 ≤ nH T) = 0 from if_neg g0]
      simp +decide (disch := omega) only [↓EQA, CEA, LIA, NIA, Nat.lt_irrefl, Option.toList_some, Option.toList_none, List.cons_append, List.nil_append, true_and, and_true, Nat.reduceAdd, Nat.reduceLeDiff, not_true_eq_false, not_false_eq_true, if_true, if_false, ite_true, ite_false, Int32.reduceLT, ite_not, eq_self, or_true, true_or, ite_self, reduceIte, B_X10_together_J1]
      refine t_refusedG Ag.rf c3 fun w9 h9 => ?_
      simp +decide (disch := omega) only [↓EQA, CEA, LIA, NIA, Nat.lt_irrefl, Option.toList_some, Option.toList_none, List.cons_append, List.nil_append, true_and, and_true, Nat.reduceAdd, Nat.reduceLeDiff, not_true_eq_false, not_false_eq_true, if_true, if_false, ite_true, ite_false, Int32.reduceLT, ite_not, eq_self, or_true, true_or, ite_self, reduceIte, B_X10_together_J1]
      exact hQ _ h9
    · refine Cl_of k_X11_together.1 (Nat.le_of_ble_eq_true rfl) (show Wp m_X11_together _ 0 _ 0 [.ref 59] [] _ from S_X11_together_0 _ _ _ ?_)
      simp +decide (disch := omega) only [↓EQA, CEA, LIA, NIA, Nat.lt_irrefl, Option.toList_some, Option.toList_none, List.cons_append, List.nil_append, true_and, and_true, Nat.reduceAdd, Nat.reduceLeDiff, not_true_eq_false, not_false_eq_true, if_true, if_false, ite_true, ite_false, Int32.reduceLT, ite_not, eq_self, or_true, true_or, ite_self, reduceIte, B_X11_together_0]
      refine u_goodG hM fun wg hMg hA h11 => ?_
      simp +decide (disch := omega) only [↓EQA, CEA, LIA, NIA, Nat.lt_irrefl, Option.toList_some, Option.toList_none, List.cons_append, List.nil_append, true_and, and_true, Nat.reduceAdd, Nat.reduceLeDiff, not_true_eq_false, not_false_eq_true, if_true, if_false, ite_true, ite_false, Int32.reduceLT, ite_not, eq_self, or_true, true_or, ite_self, reduceIte, e14n hMg g0, B_X11_together_J1]
      refine u_noG hMg hA fun w9 h9 => ?_
      simp +decide (disch := omega) only [↓EQA, CEA, LIA, NIA, Nat.lt_irrefl, Option.toList_some, Option.toList_none, List.cons_append, List.nil_append, true_and, and_true, Nat.reduceAdd, Nat.reduceLeDiff, not_true_eq_false, not_false_eq_true, if_true, if_false, ite_true, ite_false, Int32.reduceLT, ite_not, eq_self, or_true, true_or, ite_self, reduceIte, B_X11_together_J1]
      exact hK _ h9
theorem p_leader {x : Int32} (hI : IV w T D F) : PRI (d + 20) m_X10_leader m_X11_leader [.ref 0, .int x] [.ref 59, .int x] w := by
  obtain ⟨hZ, hP, ⟨c1, c2, c3⟩, -⟩ := id hI
  have hz := hZ.2
  by_cases g0 : inR x (nB T)
  · obtain ⟨k, hk, rfl⟩ := inR_k g0 (by omega)
    have hH : 1 ≤ nH T := hP.hB hk
    have hU := hP.pu hH
    obtain ⟨-, hO, hD, hDH, h0, h7, hFr⟩ := id hU
    refine askI (v := nI (fld (fun h f => if AH T (VC (RS D)) h f k = true then h else f) (nH T) 0)) (tr := 0) hI (by decide) (fun Q hQ => ?_) (fun w1 K hM hK => ?_)
    · refine Cl_of k_X10_leader.1 (Nat.le_of_ble_eq_true rfl) (show Wp m_X10_leader _ 0 _ 0 [.ref 0, .int (nI k), .null, .null] [] _ from S_X10_leader_0 _ _ _ ?_)
      simp +decide (disch := omega) only [↓EQA, CEA, LIA, NIA, Nat.lt_irrefl, Option.toList_some, Option.toList_none, List.cons_append, List.nil_append, true_and, and_true, Nat.reduceAdd, Nat.reduceLeDiff, not_true_eq_false, not_false_eq_true, if_true, if_false, ite_true, ite_false, Int32.reduceLT, ite_not, eq_self, or_true, true_or, ite_self, reduceIte, B_X10_leader_0, B_X10_leader_J1]
      refine t_isBend c1 hZ ?_
      rw [show bI (inR _ (nB T)) = 1 from if_pos g0]
      simp +decide (disch := omega) only [↓EQA, CEA, LIA, NIA, Nat.lt_irrefl, Option.toList_some, Option.toList_none, List.cons_append, List.nil_append, true_and, and_true, Nat.reduceAdd, Nat.reduceLeDiff, not_true_eq_false, not_false_eq_true, if_true, if_false, ite_true, ite_false, Int32.reduceLT, ite_not, eq_self, or_true, true_or, ite_self, reduceIte, B_X10_leader_J1]
      have e1 : fld (fun h f => if AH T (VC (RS D)) h f k = true then h else f) 1 0 = 0 := by show (if _ then 0 else 0) = 0; split <;> rfl
      suffices hh : Wp m_X10_leader (d + 19) 0 Q 18 [.ref 0, .int (nI k), .int (nI (fld (fun h f => if AH T (VC (RS D)) h f k = true then h else f) 1 0)), .int (nI 1)] [] w by rw [e1] at hh; exact hh
      refine fld_loopS (f := fun h f => if AH T (VC (RS D)) h f k = true then h else f) (s := 1) (n := nH T) (a := 0) hH (fun j f => Wp m_X10_leader (d + 19) 0 Q 18 [.ref 0, .int (nI k), .int (nI f), .int (nI j)] [] w) (fun j hj1 hj hd => ?_) ?_
      · have hf : fld (fun h f => if AH T (VC (RS D)) h f k = true then h else f) j 0 < j := best_lt j hj1
        generalize fld (fun h f => if AH T (VC (RS D)) h f k = true then h else f) j 0 = f at hd hf ⊢
        refine S_X10_leader_L1 _ _ _ ?_
        simp +decide (disch := omega) only [↓EQA, CEA, LIA, NIA, Nat.lt_irrefl, Option.toList_some, Option.toList_none, List.cons_append, List.nil_append, true_and, and_true, Nat.reduceAdd, Nat.reduceLeDiff, not_true_eq_false, not_false_eq_true, if_true, if_false, ite_true, ite_false, Int32.reduceLT, ite_not, eq_self, or_true, true_or, ite_self, reduceIte, B_X10_leader_L1, c1, hZ.1, hj]
        refine t_isAhead RK_now c1 hZ (c2.rv hD.rok) (by omega) (by omega) hk ?_
        simp +decide (disch := omega) only [↓EQA, CEA, LIA, NIA, Nat.lt_irrefl, Option.toList_some, Option.toList_none, List.cons_append, List.nil_append, true_and, and_true, Nat.reduceAdd, Nat.reduceLeDiff, not_true_eq_false, not_false_eq_true, if_true, if_false, ite_true, ite_false, Int32.reduceLT, ite_not, eq_self, or_true, true_or, ite_self, reduceIte, B_X10_leader_J1, ite_not]
        (try dsimp only at hd); split <;> rename_i hb <;> simp only [hb, decide_true, decide_false, if_true, if_false, Bool.false_eq_true, decide_not, Bool.not_true, Bool.not_false] at hd <;> exact hd
      · refine S_X10_leader_L1 _ _ _ ?_
        simp +decide (disch := omega) only [↓EQA, CEA, LIA, NIA, Nat.lt_irrefl, Option.toList_some, Option.toList_none, List.cons_append, List.nil_append, true_and, and_true, Nat.reduceAdd, Nat.reduceLeDiff, not_true_eq_false, not_false_eq_true, if_true, if_false, ite_true, ite_false, Int32.reduceLT, ite_not, eq_self, or_true, true_or, ite_self, reduceIte, B_X10_leader_L1, c1, hZ.1]
        refine t_grantedG Ag.rf c3 fun w9 h9 => ?_
        simp +decide (disch := omega) only [↓EQA, CEA, LIA, NIA, Nat.lt_irrefl, Option.toList_some, Option.toList_none, List.cons_append, List.nil_append, true_and, and_true, Nat.reduceAdd, Nat.reduceLeDiff, not_true_eq_false, not_false_eq_true, if_true, if_false, ite_true, ite_false, Int32.reduceLT, ite_not, eq_self, or_true, true_or, ite_self, reduceIte]
        exact hQ _ h9
    · refine Cl_of k_X11_leader.1 (Nat.le_of_ble_eq_true rfl) (show Wp m_X11_leader _ 0 _ 0 [.ref 59, .int (nI k), .null, .null] [] _ from S_X11_leader_0 _ _ _ ?_)
      simp +decide (disch := omega) only [↓EQA, CEA, LIA, NIA, Nat.lt_irrefl, Option.toList_some, Option.toList_none, List.cons_append, List.nil_append, true_and, and_true, Nat.reduceAdd, Nat.reduceLeDiff, not_true_eq_false, not_false_eq_true, if_true, if_false, ite_true, ite_false, Int32.reduceLT, ite_not, eq_self, or_true, true_or, ite_self, reduceIte, B_X11_leader_0]
      refine u_goodG hM fun wg hMg hA h11 => ?_
      simp +decide (disch := omega) only [↓EQA, CEA, LIA, NIA, Nat.lt_irrefl, Option.toList_some, Option.toList_none, List.cons_append, List.nil_append, true_and, and_true, Nat.reduceAdd, Nat.reduceLeDiff, not_true_eq_false, not_false_eq_true, if_true, if_false, ite_true, ite_false, Int32.reduceLT, ite_not, eq_self, or_true, true_or, ite_self, reduceIte]
      refine u_dryG hMg hA h11 fun wg hMg hA h11 => ?_
      simp +decide (disch := omega) only [↓EQA, CEA, LIA, NIA, Nat.lt_irrefl, Option.toList_some, Option.toList_none, List.cons_append, List.nil_append, true_and, and_true, Nat.reduceAdd, Nat.reduceLeDiff, not_true_eq_false, not_false_eq_true, if_true, if_false, ite_true, ite_false, Int32.reduceLT, ite_not, eq_self, or_true, true_or, ite_self, reduceIte]
      refine u_isBend hMg hZ hP ?_
      rw [show bI (inR _ (nB T)) = 1 from if_pos g0]
      simp +decide (disch := omega) only [↓EQA, CEA, LIA, NIA, Nat.lt_irrefl, Option.toList_some, Option.toList_none, List.cons_append, List.nil_append, true_and, and_true, Nat.reduceAdd, Nat.reduceLeDiff, not_true_eq_false, not_false_eq_true, if_true, if_false, ite_true, ite_false, Int32.reduceLT, ite_not, eq_self, or_true, true_or, ite_self, reduceIte, B_X11_leader_J1]
      have e1 : fld (fun h f => if AH T (VC (RS D)) h f k = true then h else f) 1 0 = 0 := by show (if _ then 0 else 0) = 0; split <;> rfl
      suffices hh : Wp m_X11_leader (d + 19) 0 K 26 [.ref 59, .int (nI k), .int (nI (fld (fun h f => if AH T (VC (RS D)) h f k = true then h else f) 1 0)), .int (nI 1)] [] wg by rw [e1] at hh; exact hh
      refine fld_loopS (f := fun h f => if AH T (VC (RS D)) h f k = true then h else f) (s := 1) (n := nH T) (a := 0) hH (fun j f => Wp m_X11_leader (d + 19) 0 K 26 [.ref 59, .int (nI k), .int (nI f), .int (nI j)] [] wg) (fun j hj1 hj hd => ?_) ?_
      · have hf : fld (fun h f => if AH T (VC (RS D)) h f k = true then h else f) j 0 < j := best_lt j hj1
        generalize fld (fun h f => if AH T (VC (RS D)) h f k = true then h else f) j 0 = f at hd hf ⊢
        refine S_X11_leader_L1 _ _ _ ?_
        simp +decide (disch := omega) only [↓EQA, CEA, LIA, NIA, Nat.lt_irrefl, Option.toList_some, Option.toList_none, List.cons_append, List.nil_append, true_and, and_true, Nat.reduceAdd, Nat.reduceLeDiff, not_true_eq_false, not_false_eq_true, if_true, if_false, ite_true, ite_false, Int32.reduceLT, ite_not, eq_self, or_true, true_or, ite_self, reduceIte, B_X11_leader_L1, hMg.1.1, hZ.1, hj]
        refine u_isAhead hMg.1 hZ hO (RM64 hU hMg) rfl (POS0 hU) hj (by omega) hk ?_
        simp +decide (disch := omega) only [↓EQA, CEA, LIA, NIA, Nat.lt_irrefl, Option.toList_some, Option.toList_none, List.cons_append, List.nil_append, true_and, and_true, Nat.reduceAdd, Nat.reduceLeDiff, not_true_eq_false, not_false_eq_true, if_true, if_false, ite_true, ite_false, Int32.reduceLT, ite_not, eq_self, or_true, true_or, ite_self, reduceIte, B_X11_leader_J1, ite_not]
        (try dsimp only at hd); split <;> rename_i hb <;> simp only [hb, decide_true, decide_false, if_true, if_false, Bool.false_eq_true, decide_not, Bool.not_true, Bool.not_false] at hd <;> exact hd
      · refine S_X11_leader_L1 _ _ _ ?_
        simp +decide (disch := omega) only [↓EQA, CEA, LIA, NIA, Nat.lt_irrefl, Option.toList_some, Option.toList_none, List.cons_append, List.nil_append, true_and, and_true, Nat.reduceAdd, Nat.reduceLeDiff, not_true_eq_false, not_false_eq_true, if_true, if_false, ite_true, ite_false, Int32.reduceLT, ite_not, eq_self, or_true, true_or, ite_self, reduceIte, B_X11_leader_L1, hMg.1.1, hZ.1]
        exact hK _ ⟨hA, hMg.2.2.2.1, h11⟩
  · refine askI (v := -1) (tr := 1) hI (by decide) (fun Q hQ => ?_) (fun w1 K hM hK => ?_)
    · refine Cl_of k_X10_leader.1 (Nat.le_of_ble_eq_true rfl) (show Wp m_X10_leader _ 0 _ 0 [.ref 0, .int x, .null, .null] [] _ from S_X10_leader_0 _ _ _ ?_)
      simp +decide (disch := omega) only [↓EQA, CEA, LIA, NIA, Nat.lt_irrefl, Option.toList_some, Option.toList_none, List.cons_append, List.nil_append, true_and, and_true, Nat.reduceAdd, Nat.reduceLeDiff, not_true_eq_false, not_false_eq_true, if_true, if_false, ite_true, ite_false, Int32.reduceLT, ite_not, eq_self, or_true, true_or, ite_self, reduceIte, B_X10_leader_0, B_X10_leader_J1]
      refine t_isBend c1 hZ ?_
      rw [show bI (inR _ (nB T)) = 0 from if_neg g0]
      simp +decide (disch := omega) only [↓EQA, CEA, LIA, NIA, Nat.lt_irrefl, Option.toList_some, Option.toList_none, List.cons_append, List.nil_append, true_and, and_true, Nat.reduceAdd, Nat.reduceLeDiff, not_true_eq_false, not_false_eq_true, if_true, if_false, ite_true, ite_false, Int32.reduceLT, ite_not, eq_self, or_true, true_or, ite_self, reduceIte, B_X10_leader_J1]
      refine t_refusedG Ag.rf c3 fun w9 h9 => ?_
      simp +decide (disch := omega) only [↓EQA, CEA, LIA, NIA, Nat.lt_irrefl, Option.toList_some, Option.toList_none, List.cons_append, List.nil_append, true_and, and_true, Nat.reduceAdd, Nat.reduceLeDiff, not_true_eq_false, not_false_eq_true, if_true, if_false, ite_true, ite_false, Int32.reduceLT, ite_not, eq_self, or_true, true_or, ite_self, reduceIte, B_X10_leader_J1]
      exact hQ _ h9
    · refine Cl_of k_X11_leader.1 (Nat.le_of_ble_eq_true rfl) (show Wp m_X11_leader _ 0 _ 0 [.ref 59, .int x, .null, .null] [] _ from S_X11_leader_0 _ _ _ ?_)
      simp +decide (disch := omega) only [↓EQA, CEA, LIA, NIA, Nat.lt_irrefl, Option.toList_some, Option.toList_none, List.cons_append, List.nil_append, true_and, and_true, Nat.reduceAdd, Nat.reduceLeDiff, not_true_eq_false, not_false_eq_true, if_true, if_false, ite_true, ite_false, Int32.reduceLT, ite_not, eq_self, or_true, true_or, ite_self, reduceIte, B_X11_leader_0]
      refine u_goodG hM fun wg hMg hA h11 => ?_
      simp +decide (disch := omega) only [↓EQA, CEA, LIA, NIA, Nat.lt_irrefl, Option.toList_some, Option.toList_none, List.cons_append, List.nil_append, true_and, and_true, Nat.reduceAdd, Nat.reduceLeDiff, not_true_eq_false, not_false_eq_true, if_true, if_false, ite_true, ite_false, Int32.reduceLT, ite_not, eq_self, or_true, true_or, ite_self, reduceIte]
      refine u_dryG hMg hA h11 fun wg hMg hA h11 => ?_
      simp +decide (disch := omega) only [↓EQA, CEA, LIA, NIA, Nat.lt_irrefl, Option.toList_some, Option.toList_none, List.cons_append, List.nil_append, true_and, and_true, Nat.reduceAdd, Nat.reduceLeDiff, not_true_eq_false, not_false_eq_true, if_true, if_false, ite_true, ite_false, Int32.reduceLT, ite_not, eq_self, or_true, true_or, ite_self, reduceIte]
      refine u_isBend hMg hZ hP ?_
      rw [show bI (inR _ (nB T)) = 0 from if_neg g0]
      simp +decide (disch := omega) only [↓EQA, CEA, LIA, NIA, Nat.lt_irrefl, Option.toList_some, Option.toList_none, List.cons_append, List.nil_append, true_and, and_true, Nat.reduceAdd, Nat.reduceLeDiff, not_true_eq_false, not_false_eq_true, if_true, if_false, ite_true, ite_false, Int32.reduceLT, ite_not, eq_self, or_true, true_or, ite_self, reduceIte, B_X11_leader_J1]
      refine u_noG hMg hA fun w9 h9 => ?_
      simp +decide (disch := omega) only [↓EQA, CEA, LIA, NIA, Nat.lt_irrefl, Option.toList_some, Option.toList_none, List.cons_append, List.nil_append, true_and, and_true, Nat.reduceAdd, Nat.reduceLeDiff, not_true_eq_false, not_false_eq_true, if_true, if_false, ite_true, ite_false, Int32.reduceLT, ite_not, eq_self, or_true, true_or, ite_self, reduceIte, B_X11_leader_J1]
      exact hK _ h9
theorem p_fastest {x : Int32} (hI : IV w T D F) : PRI (d + 20) m_X10_fastest m_X11_fastest [.ref 0, .int x] [.ref 59, .int x] w := by
  obtain ⟨hZ, hP, ⟨c1, c2, c3⟩, -⟩ := id hI
  have hz := hZ.2
  by_cases g0 : inR x (nB T)
  · obtain ⟨k, hk, rfl⟩ := inR_k g0 (by omega)
    have hH : 1 ≤ nH T := hP.hB hk
    have hU := hP.pu hH
    obtain ⟨-, hO, hD, hDH, h0, h7, hFr⟩ := id hU
    refine askI (v := nI (fld (fun h f => if decide (TM T (VC (RS D)) h k < TM T (VC (RS D)) f k) = true then h else f) (nH T) 0)) (tr := 0) hI (by decide) (fun Q hQ => ?_) (fun w1 K hM hK => ?_)
    · refine Cl_of k_X10_fastest.1 (Nat.le_of_ble_eq_true rfl) (show Wp m_X10_fastest _ 0 _ 0 [.ref 0, .int (nI k), .null, .null] [] _ from S_X10_fastest_0 _ _ _ ?_)
      simp +decide (disch := omega) only [↓EQA, CEA, LIA, NIA, Nat.lt_irrefl, Option.toList_some, Option.toList_none, List.cons_append, List.nil_append, true_and, and_true, Nat.reduceAdd, Nat.reduceLeDiff, not_true_eq_false, not_false_eq_true, if_true, if_false, ite_true, ite_false, Int32.reduceLT, ite_not, eq_self, or_true, true_or, ite_self, reduceIte, B_X10_fastest_0, B_X10_fastest_J1]
      refine t_isBend c1 hZ ?_
      rw [show bI (inR _ (nB T)) = 1 from if_pos g0]
      simp +decide (disch := omega) only [↓EQA, CEA, LIA, NIA, Nat.lt_irrefl, Option.toList_some, Option.toList_none, List.cons_append, List.nil_append, true_and, and_true, Nat.reduceAdd, Nat.reduceLeDiff, not_true_eq_false, not_false_eq_true, if_true, if_false, ite_true, ite_false, Int32.reduceLT, ite_not, eq_self, or_true, true_or, ite_self, reduceIte, B_X10_fastest_J1]
      have e1 : fld (fun h f => if decide (TM T (VC (RS D)) h k < TM T (VC (RS D)) f k) = true then h else f) 1 0 = 0 := by show (if _ then 0 else 0) = 0; split <;> rfl
      suffices hh : Wp m_X10_fastest (d + 19) 0 Q 18 [.ref 0, .int (nI k), .int (nI (fld (fun h f => if decide (TM T (VC (RS D)) h k < TM T (VC (RS D)) f k) = true then h else f) 1 0)), .int (nI 1)] [] w by rw [e1] at hh; exact hh
      refine fld_loopS (f := fun h f => if decide (TM T (VC (RS D)) h k < TM T (VC (RS D)) f k) = true then h else f) (s := 1) (n := nH T) (a := 0) hH (fun j f => Wp m_X10_fastest (d + 19) 0 Q 18 [.ref 0, .int (nI k), .int (nI f), .int (nI j)] [] w) (fun j hj1 hj hd => ?_) ?_
      · have hf : fld (fun h f => if decide (TM T (VC (RS D)) h k < TM T (VC (RS D)) f k) = true then h else f) j 0 < j := best_lt j hj1
        generalize fld (fun h f => if decide (TM T (VC (RS D)) h k < TM T (VC (RS D)) f k) = true then h else f) j 0 = f at hd hf ⊢
        refine S_X10_fastest_L1 _ _ _ ?_
        simp +decide (disch := omega) only [↓EQA, CEA, LIA, NIA, Nat.lt_irrefl, Option.toList_some, Option.toList_none, List.cons_append, List.nil_append, true_and, and_true, Nat.reduceAdd, Nat.reduceLeDiff, not_true_eq_false, not_false_eq_true, if_true, if_false, ite_true, ite_false, Int32.reduceLT, ite_not, eq_self, or_true, true_or, ite_self, reduceIte, B_X10_fastest_L1, c1, hZ.1, hj]
        refine t_timeOn RK_now c1 hZ (c2.rv hD.rok) (by omega) (by omega) ?_
        simp +decide (disch := omega) only [↓EQA, CEA, LIA, NIA, Nat.lt_irrefl, Option.toList_some, Option.toList_none, List.cons_append, List.nil_append, true_and, and_true, Nat.reduceAdd, Nat.reduceLeDiff, not_true_eq_false, not_false_eq_true, if_true, if_false, ite_true, ite_false, Int32.reduceLT, ite_not, eq_self, or_true, true_or, ite_self, reduceIte]
        refine t_timeOn RK_now c1 hZ (c2.rv hD.rok) (by omega) (by omega) ?_
        simp +decide (disch := omega) only [↓EQA, CEA, LIA, NIA, Nat.lt_irrefl, Option.toList_some, Option.toList_none, List.cons_append, List.nil_append, true_and, and_true, Nat.reduceAdd, Nat.reduceLeDiff, not_true_eq_false, not_false_eq_true, if_true, if_false, ite_true, ite_false, Int32.reduceLT, ite_not, eq_self, or_true, true_or, ite_self, reduceIte, B_X10_fastest_J1]
        simp only [decide_eq_true_eq] at hd
        (try dsimp only at hd); split <;> rename_i hb <;> simp only [hb, decide_true, decide_false, if_true, if_false, Bool.false_eq_true, decide_not, Bool.not_true, Bool.not_false] at hd <;> exact hd
      · refine S_X10_fastest_L1 _ _ _ ?_
        simp +decide (disch := omega) only [↓EQA, CEA, LIA, NIA, Nat.lt_irrefl, Option.toList_some, Option.toList_none, List.cons_append, List.nil_append, true_and, and_true, Nat.reduceAdd, Nat.reduceLeDiff, not_true_eq_false, not_false_eq_true, if_true, if_false, ite_true, ite_false, Int32.reduceLT, ite_not, eq_self, or_true, true_or, ite_self, reduceIte, B_X10_fastest_L1, c1, hZ.1]
        refine t_grantedG Ag.rf c3 fun w9 h9 => ?_
        simp +decide (disch := omega) only [↓EQA, CEA, LIA, NIA, Nat.lt_irrefl, Option.toList_some, Option.toList_none, List.cons_append, List.nil_append, true_and, and_true, Nat.reduceAdd, Nat.reduceLeDiff, not_true_eq_false, not_false_eq_true, if_true, if_false, ite_true, ite_false, Int32.reduceLT, ite_not, eq_self, or_true, true_or, ite_self, reduceIte]
        exact hQ _ h9
    · refine Cl_of k_X11_fastest.1 (Nat.le_of_ble_eq_true rfl) (show Wp m_X11_fastest _ 0 _ 0 [.ref 59, .int (nI k), .null, .null] [] _ from S_X11_fastest_0 _ _ _ ?_)
      simp +decide (disch := omega) only [↓EQA, CEA, LIA, NIA, Nat.lt_irrefl, Option.toList_some, Option.toList_none, List.cons_append, List.nil_append, true_and, and_true, Nat.reduceAdd, Nat.reduceLeDiff, not_true_eq_false, not_false_eq_true, if_true, if_false, ite_true, ite_false, Int32.reduceLT, ite_not, eq_self, or_true, true_or, ite_self, reduceIte, B_X11_fastest_0]
      refine u_goodG hM fun wg hMg hA h11 => ?_
      simp +decide (disch := omega) only [↓EQA, CEA, LIA, NIA, Nat.lt_irrefl, Option.toList_some, Option.toList_none, List.cons_append, List.nil_append, true_and, and_true, Nat.reduceAdd, Nat.reduceLeDiff, not_true_eq_false, not_false_eq_true, if_true, if_false, ite_true, ite_false, Int32.reduceLT, ite_not, eq_self, or_true, true_or, ite_self, reduceIte]
      refine u_dryG hMg hA h11 fun wg hMg hA h11 => ?_
      simp +decide (disch := omega) only [↓EQA, CEA, LIA, NIA, Nat.lt_irrefl, Option.toList_some, Option.toList_none, List.cons_append, List.nil_append, true_and, and_true, Nat.reduceAdd, Nat.reduceLeDiff, not_true_eq_false, not_false_eq_true, if_true, if_false, ite_true, ite_false, Int32.reduceLT, ite_not, eq_self, or_true, true_or, ite_self, reduceIte]
      refine u_isBend hMg hZ hP ?_
      rw [show bI (inR _ (nB T)) = 1 from if_pos g0]
      simp +decide (disch := omega) only [↓EQA, CEA, LIA, NIA, Nat.lt_irrefl, Option.toList_some, Option.toList_none, List.cons_append, List.nil_append, true_and, and_true, Nat.reduceAdd, Nat.reduceLeDiff, not_true_eq_false, not_false_eq_true, if_true, if_false, ite_true, ite_false, Int32.reduceLT, ite_not, eq_self, or_true, true_or, ite_self, reduceIte, B_X11_fastest_J1]
      have e1 : fld (fun h f => if decide (TM T (VC (RS D)) h k < TM T (VC (RS D)) f k) = true then h else f) 1 0 = 0 := by show (if _ then 0 else 0) = 0; split <;> rfl
      suffices hh : Wp m_X11_fastest (d + 19) 0 K 26 [.ref 59, .int (nI k), .int (nI (fld (fun h f => if decide (TM T (VC (RS D)) h k < TM T (VC (RS D)) f k) = true then h else f) 1 0)), .int (nI 1)] [] wg by rw [e1] at hh; exact hh
      refine fld_loopS (f := fun h f => if decide (TM T (VC (RS D)) h k < TM T (VC (RS D)) f k) = true then h else f) (s := 1) (n := nH T) (a := 0) hH (fun j f => Wp m_X11_fastest (d + 19) 0 K 26 [.ref 59, .int (nI k), .int (nI f), .int (nI j)] [] wg) (fun j hj1 hj hd => ?_) ?_
      · have hf : fld (fun h f => if decide (TM T (VC (RS D)) h k < TM T (VC (RS D)) f k) = true then h else f) j 0 < j := best_lt j hj1
        generalize fld (fun h f => if decide (TM T (VC (RS D)) h k < TM T (VC (RS D)) f k) = true then h else f) j 0 = f at hd hf ⊢
        refine S_X11_fastest_L1 _ _ _ ?_
        simp +decide (disch := omega) only [↓EQA, CEA, LIA, NIA, Nat.lt_irrefl, Option.toList_some, Option.toList_none, List.cons_append, List.nil_append, true_and, and_true, Nat.reduceAdd, Nat.reduceLeDiff, not_true_eq_false, not_false_eq_true, if_true, if_false, ite_true, ite_false, Int32.reduceLT, ite_not, eq_self, or_true, true_or, ite_self, reduceIte, B_X11_fastest_L1, hMg.1.1, hZ.1, hj]
        refine u_timeOf hMg.1 hZ (RM64 hU hMg) rfl (POS0 hU) hj hk ?_
        simp +decide (disch := omega) only [↓EQA, CEA, LIA, NIA, Nat.lt_irrefl, Option.toList_some, Option.toList_none, List.cons_append, List.nil_append, true_and, and_true, Nat.reduceAdd, Nat.reduceLeDiff, not_true_eq_false, not_false_eq_true, if_true, if_false, ite_true, ite_false, Int32.reduceLT, ite_not, eq_self, or_true, true_or, ite_self, reduceIte]
        refine u_timeOf hMg.1 hZ (RM64 hU hMg) rfl (POS0 hU) (show f < nH T by omega) hk ?_
        simp +decide (disch := omega) only [↓EQA, CEA, LIA, NIA, Nat.lt_irrefl, Option.toList_some, Option.toList_none, List.cons_append, List.nil_append, true_and, and_true, Nat.reduceAdd, Nat.reduceLeDiff, not_true_eq_false, not_false_eq_true, if_true, if_false, ite_true, ite_false, Int32.reduceLT, ite_not, eq_self, or_true, true_or, ite_self, reduceIte, B_X11_fastest_J1]
        simp only [decide_eq_true_eq] at hd
        (try dsimp only at hd); split <;> rename_i hb <;> simp only [hb, decide_true, decide_false, if_true, if_false, Bool.false_eq_true, decide_not, Bool.not_true, Bool.not_false] at hd <;> exact hd
      · refine S_X11_fastest_L1 _ _ _ ?_
        simp +decide (disch := omega) only [↓EQA, CEA, LIA, NIA, Nat.lt_irrefl, Option.toList_some, Option.toList_none, List.cons_append, List.nil_append, true_and, and_true, Nat.reduceAdd, Nat.reduceLeDiff, not_true_eq_false, not_false_eq_true, if_true, if_false, ite_true, ite_false, Int32.reduceLT, ite_not, eq_self, or_true, true_or, ite_self, reduceIte, B_X11_fastest_L1, hMg.1.1, hZ.1]
        exact hK _ ⟨hA, hMg.2.2.2.1, h11⟩
  · refine askI (v := -1) (tr := 1) hI (by decide) (fun Q hQ => ?_) (fun w1 K hM hK => ?_)
    · refine Cl_of k_X10_fastest.1 (Nat.le_of_ble_eq_true rfl) (show Wp m_X10_fastest _ 0 _ 0 [.ref 0, .int x, .null, .null] [] _ from S_X10_fastest_0 _ _ _ ?_)
      simp +decide (disch := omega) only [↓EQA, CEA, LIA, NIA, Nat.lt_irrefl, Option.toList_some, Option.toList_none, List.cons_append, List.nil_append, true_and, and_true, Nat.reduceAdd, Nat.reduceLeDiff, not_true_eq_false, not_false_eq_true, if_true, if_false, ite_true, ite_false, Int32.reduceLT, ite_not, eq_self, or_true, true_or, ite_self, reduceIte, B_X10_fastest_0, B_X10_fastest_J1]
      refine t_isBend c1 hZ ?_
      rw [show bI (inR _ (nB T)) = 0 from if_neg g0]
      simp +decide (disch := omega) only [↓EQA, CEA, LIA, NIA, Nat.lt_irrefl, Option.toList_some, Option.toList_none, List.cons_append, List.nil_append, true_and, and_true, Nat.reduceAdd, Nat.reduceLeDiff, not_true_eq_false, not_false_eq_true, if_true, if_false, ite_true, ite_false, Int32.reduceLT, ite_not, eq_self, or_true, true_or, ite_self, reduceIte, B_X10_fastest_J1]
      refine t_refusedG Ag.rf c3 fun w9 h9 => ?_
      simp +decide (disch := omega) only [↓EQA, CEA, LIA, NIA, Nat.lt_irrefl, Option.toList_some, Option.toList_none, List.cons_append, List.nil_append, true_and, and_true, Nat.reduceAdd, Nat.reduceLeDiff, not_true_eq_false, not_false_eq_true, if_true, if_false, ite_true, ite_false, Int32.reduceLT, ite_not, eq_self, or_true, true_or, ite_self, reduceIte, B_X10_fastest_J1]
      exact hQ _ h9
    · refine Cl_of k_X11_fastest.1 (Nat.le_of_ble_eq_true rfl) (show Wp m_X11_fastest _ 0 _ 0 [.ref 59, .int x, .null, .null] [] _ from S_X11_fastest_0 _ _ _ ?_)
      simp +decide (disch := omega) only [↓EQA, CEA, LIA, NIA, Nat.lt_irrefl, Option.toList_some, Option.toList_none, List.cons_append, List.nil_append, true_and, and_true, Nat.reduceAdd, Nat.reduceLeDiff, not_true_eq_false, not_false_eq_true, if_true, if_false, ite_true, ite_false, Int32.reduceLT, ite_not, eq_self, or_true, true_or, ite_self, reduceIte, B_X11_fastest_0]
      refine u_goodG hM fun wg hMg hA h11 => ?_
      simp +decide (disch := omega) only [↓EQA, CEA, LIA, NIA, Nat.lt_irrefl, Option.toList_some, Option.toList_none, List.cons_append, List.nil_append, true_and, and_true, Nat.reduceAdd, Nat.reduceLeDiff, not_true_eq_false, not_false_eq_true, if_true, if_false, ite_true, ite_false, Int32.reduceLT, ite_not, eq_self, or_true, true_or, ite_self, reduceIte]
      refine u_dryG hMg hA h11 fun wg hMg hA h11 => ?_
      simp +decide (disch := omega) only [↓EQA, CEA, LIA, NIA, Nat.lt_irrefl, Option.toList_some, Option.toList_none, List.cons_append, List.nil_append, true_and, and_true, Nat.reduceAdd, Nat.reduceLeDiff, not_true_eq_false, not_false_eq_true, if_true, if_false, ite_true, ite_false, Int32.reduceLT, ite_not, eq_self, or_true, true_or, ite_self, reduceIte]
      refine u_isBend hMg hZ hP ?_
      rw [show bI (inR _ (nB T)) = 0 from if_neg g0]
      simp +decide (disch := omega) only [↓EQA, CEA, LIA, NIA, Nat.lt_irrefl, Option.toList_some, Option.toList_none, List.cons_append, List.nil_append, true_and, and_true, Nat.reduceAdd, Nat.reduceLeDiff, not_true_eq_false, not_false_eq_true, if_true, if_false, ite_true, ite_false, Int32.reduceLT, ite_not, eq_self, or_true, true_or, ite_self, reduceIte, B_X11_fastest_J1]
      refine u_noG hMg hA fun w9 h9 => ?_
      simp +decide (disch := omega) only [↓EQA, CEA, LIA, NIA, Nat.lt_irrefl, Option.toList_some, Option.toList_none, List.cons_append, List.nil_append, true_and, and_true, Nat.reduceAdd, Nat.reduceLeDiff, not_true_eq_false, not_false_eq_true, if_true, if_false, ite_true, ite_false, Int32.reduceLT, ite_not, eq_self, or_true, true_or, ite_self, reduceIte, B_X11_fastest_J1]
      exact hK _ h9
theorem p_full (hI : IV w T D F) : PRI (d + 20) m_X10_full m_X11_full [.ref 0] [.ref 59] w := by
  obtain ⟨hZ, hP, ⟨c1, c2, c3⟩, -⟩ := id hI
  have hz := hZ.2
  by_cases g0 : 1 ≤ nH T
  · have hH : 1 ≤ nH T := g0
    have hU := hP.pu hH
    obtain ⟨-, hO, hD, hDH, h0, h7, hFr⟩ := id hU
    refine askI (v := fld (fun h (a : Int32) => a ||| if nI (pc5 (cw D h)) < T 5 h then (0 : Int32) else (1 : Int32) <<< (nI h &&& 31)) (nH T) 0) (tr := 0) hI (by decide) (fun Q hQ => ?_) (fun w1 K hM hK => ?_)
    · refine Cl_of k_X10_full.1 (Nat.le_of_ble_eq_true rfl) (show Wp m_X10_full _ 0 _ 0 [.ref 0, .null, .null] [] _ from S_X10_full_0 _ _ _ ?_)
      simp +decide (disch := omega) only [↓EQA, CEA, LIA, NIA, Nat.lt_irrefl, Option.toList_some, Option.toList_none, List.cons_append, List.nil_append, true_and, and_true, Nat.reduceAdd, Nat.reduceLeDiff, not_true_eq_false, not_false_eq_true, if_true, if_false, ite_true, ite_false, Int32.reduceLT, ite_not, eq_self, or_true, true_or, ite_self, reduceIte, B_X10_full_0, B_X10_full_J1]
      refine t_isTold c1 hZ ?_
      rw [show bI (1 ≤ nH T) = 1 from if_pos g0]
      simp +decide (disch := omega) only [↓EQA, CEA, LIA, NIA, Nat.lt_irrefl, Option.toList_some, Option.toList_none, List.cons_append, List.nil_append, true_and, and_true, Nat.reduceAdd, Nat.reduceLeDiff, not_true_eq_false, not_false_eq_true, if_true, if_false, ite_true, ite_false, Int32.reduceLT, ite_not, eq_self, or_true, true_or, ite_self, reduceIte, B_X10_full_J1]
      refine fld_loop (f := fun h (a : Int32) => a ||| if nI (pc5 (cw D h)) < T 5 h then (0 : Int32) else (1 : Int32) <<< (nI h &&& 31)) (n := nH T) (a := 0) (fun j a => Wp m_X10_full (d + 19) 0 Q 17 [.ref 0, .int a, .int (nI j)] [] w) (fun j hj hd => ?_) ?_
      · refine S_X10_full_L1 _ _ _ ?_
        simp +decide (disch := omega) only [↓EQA, CEA, LIA, NIA, Nat.lt_irrefl, Option.toList_some, Option.toList_none, List.cons_append, List.nil_append, true_and, and_true, Nat.reduceAdd, Nat.reduceLeDiff, not_true_eq_false, not_false_eq_true, if_true, if_false, ite_true, ite_false, Int32.reduceLT, ite_not, eq_self, or_true, true_or, ite_self, reduceIte, B_X10_full_L1, c1, hZ.1, hj]
        refine t_hasRoom RK_now c1 c2 hD.rok (by omega) ?_
        simp +decide (disch := omega) only [↓EQA, CEA, LIA, NIA, Nat.lt_irrefl, Option.toList_some, Option.toList_none, List.cons_append, List.nil_append, true_and, and_true, Nat.reduceAdd, Nat.reduceLeDiff, not_true_eq_false, not_false_eq_true, if_true, if_false, ite_true, ite_false, Int32.reduceLT, ite_not, eq_self, or_true, true_or, ite_self, reduceIte, B_X10_full_J1]
        have er : (RS D).1 j = cw D j := rfl
        rw [er]
        by_cases q : nI (pc5 (cw D j)) < T 5 j
        · simp only [q, if_true, Int32.or_zero, not_true, if_false] at hd ⊢; exact hd
        · simp only [q, if_false, not_false_eq_true, if_true] at hd ⊢; exact hd
      · refine S_X10_full_L1 _ _ _ ?_
        simp +decide (disch := omega) only [↓EQA, CEA, LIA, NIA, Nat.lt_irrefl, Option.toList_some, Option.toList_none, List.cons_append, List.nil_append, true_and, and_true, Nat.reduceAdd, Nat.reduceLeDiff, not_true_eq_false, not_false_eq_true, if_true, if_false, ite_true, ite_false, Int32.reduceLT, ite_not, eq_self, or_true, true_or, ite_self, reduceIte, B_X10_full_L1, c1, hZ.1]
        refine t_grantedG Ag.rf c3 fun w9 h9 => ?_
        simp +decide (disch := omega) only [↓EQA, CEA, LIA, NIA, Nat.lt_irrefl, Option.toList_some, Option.toList_none, List.cons_append, List.nil_append, true_and, and_true, Nat.reduceAdd, Nat.reduceLeDiff, not_true_eq_false, not_false_eq_true, if_true, if_false, ite_true, ite_false, Int32.reduceLT, ite_not, eq_self, or_true, true_or, ite_self, reduceIte]
        exact hQ _ h9
    · refine Cl_of k_X11_full.1 (Nat.le_of_ble_eq_true rfl) (show Wp m_X11_full _ 0 _ 0 [.ref 59, .null, .null] [] _ from S_X11_full_0 _ _ _ ?_)
      simp +decide (disch := omega) only [↓EQA, CEA, LIA, NIA, Nat.lt_irrefl, Option.toList_some, Option.toList_none, List.cons_append, List.nil_append, true_and, and_true, Nat.reduceAdd, Nat.reduceLeDiff, not_true_eq_false, not_false_eq_true, if_true, if_false, ite_true, ite_false, Int32.reduceLT, ite_not, eq_self, or_true, true_or, ite_self, reduceIte, B_X11_full_0]
      refine u_goodG hM fun wg hMg hA h11 => ?_
      simp +decide (disch := omega) only [↓EQA, CEA, LIA, NIA, Nat.lt_irrefl, Option.toList_some, Option.toList_none, List.cons_append, List.nil_append, true_and, and_true, Nat.reduceAdd, Nat.reduceLeDiff, not_true_eq_false, not_false_eq_true, if_true, if_false, ite_true, ite_false, Int32.reduceLT, ite_not, eq_self, or_true, true_or, ite_self, reduceIte, e14 hMg g0, B_X11_full_J1]
      refine fld_loop (f := fun h (a : Int32) => a ||| if nI (pc5 (cw D h)) < T 5 h then (0 : Int32) else (1 : Int32) <<< (nI h &&& 31)) (n := nH T) (a := 0) (fun j a => Wp m_X11_full (d + 19) 0 K 21 [.ref 59, .int a, .int (nI j)] [] wg) (fun j hj hd => ?_) ?_
      · refine S_X11_full_L1 _ _ _ ?_
        simp +decide (disch := omega) only [↓EQA, CEA, LIA, NIA, Nat.lt_irrefl, Option.toList_some, Option.toList_none, List.cons_append, List.nil_append, true_and, and_true, Nat.reduceAdd, Nat.reduceLeDiff, not_true_eq_false, not_false_eq_true, if_true, if_false, ite_true, ite_false, Int32.reduceLT, ite_not, eq_self, or_true, true_or, ite_self, reduceIte, B_X11_full_L1, hMg.1.1, hZ.1, hj]
        refine u_aboardOf hMg.1 hZ (RM64 hU hMg) rfl (by omega) ?_
        simp +decide (disch := omega) only [↓EQA, CEA, LIA, NIA, Nat.lt_irrefl, Option.toList_some, Option.toList_none, List.cons_append, List.nil_append, true_and, and_true, Nat.reduceAdd, Nat.reduceLeDiff, not_true_eq_false, not_false_eq_true, if_true, if_false, ite_true, ite_false, Int32.reduceLT, ite_not, eq_self, or_true, true_or, ite_self, reduceIte]
        refine u_ones ?_
        simp +decide (disch := omega) only [↓EQA, CEA, LIA, NIA, Nat.lt_irrefl, Option.toList_some, Option.toList_none, List.cons_append, List.nil_append, true_and, and_true, Nat.reduceAdd, Nat.reduceLeDiff, not_true_eq_false, not_false_eq_true, if_true, if_false, ite_true, ite_false, Int32.reduceLT, ite_not, eq_self, or_true, true_or, ite_self, reduceIte]
        refine u_storeysOf hMg.1 hz.2.1 hj ?_
        rw [ones_CN hz.2.2.1, CN_pc5 hU]
        simp +decide (disch := omega) only [↓EQA, CEA, LIA, NIA, Nat.lt_irrefl, Option.toList_some, Option.toList_none, List.cons_append, List.nil_append, true_and, and_true, Nat.reduceAdd, Nat.reduceLeDiff, not_true_eq_false, not_false_eq_true, if_true, if_false, ite_true, ite_false, Int32.reduceLT, ite_not, eq_self, or_true, true_or, ite_self, reduceIte, B_X11_full_J1]
        (try dsimp only at hd); split <;> rename_i hb <;> simp only [hb, decide_true, decide_false, if_true, if_false, Bool.false_eq_true, decide_not, Bool.not_true, Bool.not_false] at hd <;> exact hd
      · refine S_X11_full_L1 _ _ _ ?_
        simp +decide (disch := omega) only [↓EQA, CEA, LIA, NIA, Nat.lt_irrefl, Option.toList_some, Option.toList_none, List.cons_append, List.nil_append, true_and, and_true, Nat.reduceAdd, Nat.reduceLeDiff, not_true_eq_false, not_false_eq_true, if_true, if_false, ite_true, ite_false, Int32.reduceLT, ite_not, eq_self, or_true, true_or, ite_self, reduceIte, B_X11_full_L1, hMg.1.1, hZ.1]
        exact hK _ ⟨hA, hMg.2.2.2.1, h11⟩
  · refine askI (v := -1) (tr := 1) hI (by decide) (fun Q hQ => ?_) (fun w1 K hM hK => ?_)
    · refine Cl_of k_X10_full.1 (Nat.le_of_ble_eq_true rfl) (show Wp m_X10_full _ 0 _ 0 [.ref 0, .null, .null] [] _ from S_X10_full_0 _ _ _ ?_)
      simp +decide (disch := omega) only [↓EQA, CEA, LIA, NIA, Nat.lt_irrefl, Option.toList_some, Option.toList_none, List.cons_append, List.nil_append, true_and, and_true, Nat.reduceAdd, Nat.reduceLeDiff, not_true_eq_false, not_false_eq_true, if_true, if_false, ite_true, ite_false, Int32.reduceLT, ite_not, eq_self, or_true, true_or, ite_self, reduceIte, B_X10_full_0, B_X10_full_J1]
      refine t_isTold c1 hZ ?_
      rw [show bI (1 ≤ nH T) = 0 from if_neg g0]
      simp +decide (disch := omega) only [↓EQA, CEA, LIA, NIA, Nat.lt_irrefl, Option.toList_some, Option.toList_none, List.cons_append, List.nil_append, true_and, and_true, Nat.reduceAdd, Nat.reduceLeDiff, not_true_eq_false, not_false_eq_true, if_true, if_false, ite_true, ite_false, Int32.reduceLT, ite_not, eq_self, or_true, true_or, ite_self, reduceIte, B_X10_full_J1]
      refine t_refusedG Ag.rf c3 fun w9 h9 => ?_
      simp +decide (disch := omega) only [↓EQA, CEA, LIA, NIA, Nat.lt_irrefl, Option.toList_some, Option.toList_none, List.cons_append, List.nil_append, true_and, and_true, Nat.reduceAdd, Nat.reduceLeDiff, not_true_eq_false, not_false_eq_true, if_true, if_false, ite_true, ite_false, Int32.reduceLT, ite_not, eq_self, or_true, true_or, ite_self, reduceIte, B_X10_full_J1]
      exact hQ _ h9
    · refine Cl_of k_X11_full.1 (Nat.le_of_ble_eq_true rfl) (show Wp m_X11_full _ 0 _ 0 [.ref 59, .null, .null] [] _ from S_X11_full_0 _ _ _ ?_)
      simp +decide (disch := omega) only [↓EQA, CEA, LIA, NIA, Nat.lt_irrefl, Option.toList_some, Option.toList_none, List.cons_append, List.nil_append, true_and, and_true, Nat.reduceAdd, Nat.reduceLeDiff, not_true_eq_false, not_false_eq_true, if_true, if_false, ite_true, ite_false, Int32.reduceLT, ite_not, eq_self, or_true, true_or, ite_self, reduceIte, B_X11_full_0]
      refine u_goodG hM fun wg hMg hA h11 => ?_
      simp +decide (disch := omega) only [↓EQA, CEA, LIA, NIA, Nat.lt_irrefl, Option.toList_some, Option.toList_none, List.cons_append, List.nil_append, true_and, and_true, Nat.reduceAdd, Nat.reduceLeDiff, not_true_eq_false, not_false_eq_true, if_true, if_false, ite_true, ite_false, Int32.reduceLT, ite_not, eq_self, or_true, true_or, ite_self, reduceIte, e14n hMg g0, B_X11_full_J1]
      refine u_noG hMg hA fun w9 h9 => ?_
      simp +decide (disch := omega) only [↓EQA, CEA, LIA, NIA, Nat.lt_irrefl, Option.toList_some, Option.toList_none, List.cons_append, List.nil_append, true_and, and_true, Nat.reduceAdd, Nat.reduceLeDiff, not_true_eq_false, not_false_eq_true, if_true, if_false, ite_true, ite_false, Int32.reduceLT, ite_not, eq_self, or_true, true_or, ite_self, reduceIte, B_X11_full_J1]
      exact hK _ h9
end Pub
