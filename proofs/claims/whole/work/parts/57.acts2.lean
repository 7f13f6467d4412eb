/-! ===== acts, in pairs ===== -/
theorem DOKT.upd {T : Tv} {D F : Nat → Nat} {l p : Nat} (hU : PU T D F) (hl : l < nL T) (hp : p ≤ nH T) : DOKT T (updD D l p) := by
  obtain ⟨hZ, hO, hD, hDH, h0, h7, hFr⟩ := id hU
  have hz := hZ.2
  refine ⟨updD_ok hD (by omega) (by omega), fun i hi => ?_, fun i hi h5 => ?_, ?_⟩
  · unfold updD; split
    · exact hp
    · exact hDH i hi
  · unfold updD; rw [if_neg (by omega)]; exact h0 i hi h5
  · unfold updD; rw [if_neg (by omega)]; exact h7
section Acts2
variable {d : Nat} {w : Mem} {T : Tv} {D F : Nat → Nat} {x y : Int32}
theorem p_ashore (hI : IV w T D F) : PRI (d + 20) m_X10_ashore m_X11_ashore [.ref 0, .int x] [.ref 59, .int x] w := by
  obtain ⟨hZ, hP, ⟨c1, c2, c3⟩, hM0, ⟨n, m, A, B, hn, hm, i3, i4, i20, i21, hA, hB, hnm⟩, -⟩ := id hI
  have hz := hZ.2
  by_cases g0 : inR x (nL T)
  · obtain ⟨k, hk, rfl⟩ := inR_k g0 (by omega)
    have hH : 1 ≤ nH T := hP.hL hk
    have hU := hP.pu hH
    obtain ⟨-, hO, hD, hDH, h0, h7, hFr⟩ := id hU
    have hk5 : k < 5 := by omega
    have hk8 : k < 8 := by omega
    by_cases q : D k = 0
    · have ep : plD (D k) = -2 := by unfold plD; rw [if_pos q]
      refine askI (v := 0) (tr := 5) hI (by decide) (fun Q hQ => ?_) (fun w1 K hM hK => ?_)
      · refine Cl_of k_X10_ashore.1 (Nat.le_of_ble_eq_true rfl) (show Wp m_X10_ashore _ 0 _ 0 [.ref 0, .int (nI k)] [] _ from S_X10_ashore_0 _ _ _ ?_)
        simp +decide (disch := omega) only [↓EQA, CEA, LIA, NIA, Nat.lt_irrefl, Option.toList_some, Option.toList_none, List.cons_append, List.nil_append, true_and, and_true, Nat.reduceAdd, Nat.reduceLeDiff, not_true_eq_false, not_false_eq_true, if_true, if_false, ite_true, ite_false, Int32.reduceLT, ite_not, eq_self, or_true, true_or, ite_self, reduceIte, B_X10_ashore_0]
        refine t_isLodger c1 hZ ?_
        rw [show bI (inR _ (nL T)) = 1 from if_pos g0]
        simp +decide (disch := omega) only [↓EQA, CEA, LIA, NIA, Nat.lt_irrefl, Option.toList_some, Option.toList_none, List.cons_append, List.nil_append, true_and, and_true, Nat.reduceAdd, Nat.reduceLeDiff, not_true_eq_false, not_false_eq_true, if_true, if_false, ite_true, ite_false, Int32.reduceLT, ite_not, eq_self, or_true, true_or, ite_self, reduceIte]
        refine t_placeD RK_now c1 hZ c2 hD hDH hk5 ?_
        rw [ep]
        simp +decide (disch := omega) only [↓EQA, CEA, LIA, NIA, Nat.lt_irrefl, Option.toList_some, Option.toList_none, List.cons_append, List.nil_append, true_and, and_true, Nat.reduceAdd, Nat.reduceLeDiff, not_true_eq_false, not_false_eq_true, if_true, if_false, ite_true, ite_false, Int32.reduceLT, ite_not, eq_self, or_true, true_or, ite_self, reduceIte]
        refine t_doneG Ag.rf c3 fun w9 h9 => ?_
        rw [show bI ((5 : Int32) = 0) = 0 by decide]
        simp +decide (disch := omega) only [↓EQA, CEA, LIA, NIA, Nat.lt_irrefl, Option.toList_some, Option.toList_none, List.cons_append, List.nil_append, true_and, and_true, Nat.reduceAdd, Nat.reduceLeDiff, not_true_eq_false, not_false_eq_true, if_true, if_false, ite_true, ite_false, Int32.reduceLT, ite_not, eq_self, or_true, true_or, ite_self, reduceIte, mrg]
        exact hQ _ h9
      · refine Cl_of k_X11_ashore.1 (Nat.le_of_ble_eq_true rfl) (show Wp m_X11_ashore _ 0 _ 0 [.ref 59, .int (nI k)] [] _ from S_X11_ashore_0 _ _ _ ?_)
        simp +decide (disch := omega) only [↓EQA, CEA, LIA, NIA, Nat.lt_irrefl, Option.toList_some, Option.toList_none, List.cons_append, List.nil_append, true_and, and_true, Nat.reduceAdd, Nat.reduceLeDiff, not_true_eq_false, not_false_eq_true, if_true, if_false, ite_true, ite_false, Int32.reduceLT, ite_not, eq_self, or_true, true_or, ite_self, reduceIte, B_X11_ashore_0]
        refine u_goodG hM fun wg hMg hA h11 => ?_
        simp +decide (disch := omega) only [↓EQA, CEA, LIA, NIA, Nat.lt_irrefl, Option.toList_some, Option.toList_none, List.cons_append, List.nil_append, true_and, and_true, Nat.reduceAdd, Nat.reduceLeDiff, not_true_eq_false, not_false_eq_true, if_true, if_false, ite_true, ite_false, Int32.reduceLT, ite_not, eq_self, or_true, true_or, ite_self, reduceIte]
        refine u_isLodger hMg hZ hP ?_
        rw [show bI (inR _ (nL T)) = 1 from if_pos g0]
        have e64 := hMg.2.2.1 k hk8
        rw [q] at e64
        simp +decide (disch := omega) only [↓EQA, CEA, LIA, NIA, Nat.lt_irrefl, Option.toList_some, Option.toList_none, List.cons_append, List.nil_append, true_and, and_true, Nat.reduceAdd, Nat.reduceLeDiff, not_true_eq_false, not_false_eq_true, if_true, if_false, ite_true, ite_false, Int32.reduceLT, ite_not, eq_self, or_true, true_or, ite_self, reduceIte, hk8, e64]
        refine u_isNotG hMg hA fun w9 h9 => ?_
        simp +decide (disch := omega) only [↓EQA, CEA, LIA, NIA, Nat.lt_irrefl, Option.toList_some, Option.toList_none, List.cons_append, List.nil_append, true_and, and_true, Nat.reduceAdd, Nat.reduceLeDiff, not_true_eq_false, not_false_eq_true, if_true, if_false, ite_true, ite_false, Int32.reduceLT, ite_not, eq_self, or_true, true_or, ite_self, reduceIte, mrg]
        exact hK _ h9
    · obtain ⟨e, he⟩ : ∃ e, D k = e + 1 := ⟨D k - 1, by omega⟩
      have hd4 := hD.1 k hk5
      have ep : (plD (D k) = -2) = False := by unfold plD; rw [if_neg q]; exact ngNe (by omega) (by decide)
      have hD9 : DOKT T (updD D k 0) := DOKT.upd hU hk (Nat.zero_le _)
      intro Q hQ
      refine Cl_of k_X10_ashore.1 (Nat.le_of_ble_eq_true rfl) (show Wp m_X10_ashore _ 0 _ 0 [.ref 0, .int (nI k)] [] _ from S_X10_ashore_0 _ _ _ ?_)
      simp +decide (disch := omega) only [↓EQA, CEA, LIA, NIA, Nat.lt_irrefl, Option.toList_some, Option.toList_none, List.cons_append, List.nil_append, true_and, and_true, Nat.reduceAdd, Nat.reduceLeDiff, not_true_eq_false, not_false_eq_true, if_true, if_false, ite_true, ite_false, Int32.reduceLT, ite_not, eq_self, or_true, true_or, ite_self, reduceIte, B_X10_ashore_0]
      refine t_isLodger c1 hZ ?_
      rw [show bI (inR _ (nL T)) = 1 from if_pos g0]
      simp +decide (disch := omega) only [↓EQA, CEA, LIA, NIA, Nat.lt_irrefl, Option.toList_some, Option.toList_none, List.cons_append, List.nil_append, true_and, and_true, Nat.reduceAdd, Nat.reduceLeDiff, not_true_eq_false, not_false_eq_true, if_true, if_false, ite_true, ite_false, Int32.reduceLT, ite_not, eq_self, or_true, true_or, ite_self, reduceIte]
      refine t_placeD RK_now c1 hZ c2 hD hDH hk5 ?_
      simp +decide (disch := omega) only [↓EQA, CEA, LIA, NIA, Nat.lt_irrefl, Option.toList_some, Option.toList_none, List.cons_append, List.nil_append, true_and, and_true, Nat.reduceAdd, Nat.reduceLeDiff, not_true_eq_false, not_false_eq_true, if_true, if_false, ite_true, ite_false, Int32.reduceLT, ite_not, eq_self, or_true, true_or, ite_self, reduceIte, ep]
      refine t_keepG hn i3 (fun i hi => (hA i hi).2.1) c2 hD fun wk hak ka1 ka5 => ?_
      have hCk : RC wk 16 17 (RS D) := c2.ag hak (fun i z => by omega) (fun i z => by omega)
      simp +decide (disch := omega) only [↓EQA, CEA, LIA, NIA, Nat.lt_irrefl, Option.toList_some, Option.toList_none, List.cons_append, List.nil_append, true_and, and_true, Nat.reduceAdd, Nat.reduceLeDiff, not_true_eq_false, not_false_eq_true, if_true, if_false, ite_true, ite_false, Int32.reduceLT, ite_not, eq_self, or_true, true_or, ite_self, reduceIte]
      refine t_putD (p := 0) RK_now (by decide) hCk hD hk5 (by decide) fun wc hac hCc => ?_
      simp +decide (disch := omega) only [↓EQA, CEA, LIA, NIA, Nat.lt_irrefl, Option.toList_some, Option.toList_none, List.cons_append, List.nil_append, true_and, and_true, Nat.reduceAdd, Nat.reduceLeDiff, not_true_eq_false, not_false_eq_true, if_true, if_false, ite_true, ite_false, Int32.reduceLT, ite_not, eq_self, or_true, true_or, ite_self, reduceIte]
      refine t_done ?_
      rw [show bI ((0 : Int32) = 0) = 1 by decide]
      have h1 : Ag (fun j i => (j = 0 ∧ i = 13) ∨ j = 16 ∨ j = 17 ∨ j = 57 ∨ (j = 56 ∧ i = 3)) w (wI wc 0 13 0) := ((hak.wk fun j i z => by omega).tr (hac.wk fun j i z => by omega)).wI (Or.inl ⟨rfl, rfl⟩)
      have ht1 : (wI wc 0 13 0).1 0 13 = 0 := by simp [wI]
      have hC1 : RC (wI wc 0 13 0) 16 17 (RS (updD D k 0)) := hCc
      have a1 : (wI wc 0 13 0).1 56 3 = nI (nxN n) := by rw [wI_ne (by decide), (hac 56 3 (by omega)).1]; exact ka1
      have a5 : ∀ i, i < nxN n → (wI wc 0 13 0).2 57 i = lN (pkN (RS (nxA n A D i))) := fun i hi => by show wc.2 57 i = _; rw [(hac 57 i (by omega)).2]; exact ka5 i hi
      simp +decide (disch := omega) only [↓EQA, CEA, LIA, NIA, Nat.lt_irrefl, Option.toList_some, Option.toList_none, List.cons_append, List.nil_append, true_and, and_true, Nat.reduceAdd, Nat.reduceLeDiff, not_true_eq_false, not_false_eq_true, if_true, if_false, ite_true, ite_false, Int32.reduceLT, ite_not, eq_self, or_true, true_or, ite_self, reduceIte]
      generalize wI wc 0 13 0 = w1 at h1 ht1 hC1 a1 a5 ⊢
      refine hQ 1 w1 fun K hK => ?_
      have hM1 : IMd w1 T D F := hM0.ag h1 (fun i z => by omega) (fun i z => by omega) (by omega) (by rw [(h1 59 22 (by omega)).1]; exact hM0.2.2.2.1)
      refine Cl_of k_X11_ashore.1 (Nat.le_of_ble_eq_true rfl) (show Wp m_X11_ashore _ 0 _ 0 [.ref 59, .int (nI k)] [] _ from S_X11_ashore_0 _ _ _ ?_)
      simp +decide (disch := omega) only [↓EQA, CEA, LIA, NIA, Nat.lt_irrefl, Option.toList_some, Option.toList_none, List.cons_append, List.nil_append, true_and, and_true, Nat.reduceAdd, Nat.reduceLeDiff, not_true_eq_false, not_false_eq_true, if_true, if_false, ite_true, ite_false, Int32.reduceLT, ite_not, eq_self, or_true, true_or, ite_self, reduceIte, B_X11_ashore_0]
      refine u_goodH hM1 fun wg hMg hg h11 => ?_
      simp +decide (disch := omega) only [↓EQA, CEA, LIA, NIA, Nat.lt_irrefl, Option.toList_some, Option.toList_none, List.cons_append, List.nil_append, true_and, and_true, Nat.reduceAdd, Nat.reduceLeDiff, not_true_eq_false, not_false_eq_true, if_true, if_false, ite_true, ite_false, Int32.reduceLT, ite_not, eq_self, or_true, true_or, ite_self, reduceIte]
      refine u_isLodger hMg hZ hP ?_
      rw [show bI (inR _ (nL T)) = 1 from if_pos g0]
      have e64 := hMg.2.2.1 k hk8
      rw [he] at e64
      have e9 : ¬ e + 1 = 0 := by omega
      simp +decide (disch := omega) only [↓EQA, CEA, LIA, NIA, Nat.lt_irrefl, Option.toList_some, Option.toList_none, List.cons_append, List.nil_append, true_and, and_true, Nat.reduceAdd, Nat.reduceLeDiff, not_true_eq_false, not_false_eq_true, if_true, if_false, ite_true, ite_false, Int32.reduceLT, ite_not, eq_self, or_true, true_or, ite_self, reduceIte, hk8, e64, e9]
      refine u_noteG (A := A) hn (by rw [(hg 59 20 (by omega)).1, (h1 59 20 (by omega)).1]; exact i20) (fun i hi q hq => by rw [(hg 65 _ (by omega)).1, (h1 65 _ (by omega)).1]; exact (hA i hi).2.2 q hq) hMg.2.2.1 fun w2 h2 a3 a6 => ?_
      have hR2 : MR w2 64 D := hMg.2.2.1.ag h2 (fun i z => by omega)
      have hIN : INV (wI w2 64 k (nI (0))) := hI.act (tr := 0) hH (by omega) hD9 hn hm hA hB i4 i21 h1 ht1 hC1 a1 a5 hg h11 h2 a3 a6
      simp +decide (disch := omega) only [↓EQA, CEA, LIA, NIA, Nat.lt_irrefl, Option.toList_some, Option.toList_none, List.cons_append, List.nil_append, true_and, and_true, Nat.reduceAdd, Nat.reduceLeDiff, not_true_eq_false, not_false_eq_true, if_true, if_false, ite_true, ite_false, Int32.reduceLT, ite_not, eq_self, or_true, true_or, ite_self, reduceIte, hk8]
      exact hK _ hIN
  · refine askI (v := 0) (tr := 1) hI (by decide) (fun Q hQ => ?_) (fun w1 K hM hK => ?_)
    · refine Cl_of k_X10_ashore.1 (Nat.le_of_ble_eq_true rfl) (show Wp m_X10_ashore _ 0 _ 0 [.ref 0, .int x] [] _ from S_X10_ashore_0 _ _ _ ?_)
      simp +decide (disch := omega) only [↓EQA, CEA, LIA, NIA, Nat.lt_irrefl, Option.toList_some, Option.toList_none, List.cons_append, List.nil_append, true_and, and_true, Nat.reduceAdd, Nat.reduceLeDiff, not_true_eq_false, not_false_eq_true, if_true, if_false, ite_true, ite_false, Int32.reduceLT, ite_not, eq_self, or_true, true_or, ite_self, reduceIte, B_X10_ashore_0]
      refine t_isLodger c1 hZ ?_
      rw [show bI (inR _ (nL T)) = 0 from if_neg g0]
      simp +decide (disch := omega) only [↓EQA, CEA, LIA, NIA, Nat.lt_irrefl, Option.toList_some, Option.toList_none, List.cons_append, List.nil_append, true_and, and_true, Nat.reduceAdd, Nat.reduceLeDiff, not_true_eq_false, not_false_eq_true, if_true, if_false, ite_true, ite_false, Int32.reduceLT, ite_not, eq_self, or_true, true_or, ite_self, reduceIte]
      refine t_doneG Ag.rf c3 fun w9 h9 => ?_
      rw [show bI ((1 : Int32) = 0) = 0 by decide]
      simp +decide (disch := omega) only [↓EQA, CEA, LIA, NIA, Nat.lt_irrefl, Option.toList_some, Option.toList_none, List.cons_append, List.nil_append, true_and, and_true, Nat.reduceAdd, Nat.reduceLeDiff, not_true_eq_false, not_false_eq_true, if_true, if_false, ite_true, ite_false, Int32.reduceLT, ite_not, eq_self, or_true, true_or, ite_self, reduceIte, mrg]
      exact hQ _ h9
    · refine Cl_of k_X11_ashore.1 (Nat.le_of_ble_eq_true rfl) (show Wp m_X11_ashore _ 0 _ 0 [.ref 59, .int x] [] _ from S_X11_ashore_0 _ _ _ ?_)
      simp +decide (disch := omega) only [↓EQA, CEA, LIA, NIA, Nat.lt_irrefl, Option.toList_some, Option.toList_none, List.cons_append, List.nil_append, true_and, and_true, Nat.reduceAdd, Nat.reduceLeDiff, not_true_eq_false, not_false_eq_true, if_true, if_false, ite_true, ite_false, Int32.reduceLT, ite_not, eq_self, or_true, true_or, ite_self, reduceIte, B_X11_ashore_0]
      refine u_goodG hM fun wg hMg hA h11 => ?_
      simp +decide (disch := omega) only [↓EQA, CEA, LIA, NIA, Nat.lt_irrefl, Option.toList_some, Option.toList_none, List.cons_append, List.nil_append, true_and, and_true, Nat.reduceAdd, Nat.reduceLeDiff, not_true_eq_false, not_false_eq_true, if_true, if_false, ite_true, ite_false, Int32.reduceLT, ite_not, eq_self, or_true, true_or, ite_self, reduceIte]
      refine u_isLodger hMg hZ hP ?_
      rw [show bI (inR _ (nL T)) = 0 from if_neg g0]
      simp +decide (disch := omega) only [↓EQA, CEA, LIA, NIA, Nat.lt_irrefl, Option.toList_some, Option.toList_none, List.cons_append, List.nil_append, true_and, and_true, Nat.reduceAdd, Nat.reduceLeDiff, not_true_eq_false, not_false_eq_true, if_true, if_false, ite_true, ite_false, Int32.reduceLT, ite_not, eq_self, or_true, true_or, ite_self, reduceIte]
      refine u_isNotG hMg hA fun w9 h9 => ?_
      simp +decide (disch := omega) only [↓EQA, CEA, LIA, NIA, Nat.lt_irrefl, Option.toList_some, Option.toList_none, List.cons_append, List.nil_append, true_and, and_true, Nat.reduceAdd, Nat.reduceLeDiff, not_true_eq_false, not_false_eq_true, if_true, if_false, ite_true, ite_false, Int32.reduceLT, ite_not, eq_self, or_true, true_or, ite_self, reduceIte, mrg]
      exact hK _ h9
theorem p_board (hI : IV w T D F) : PRI (d + 20) m_X10_board m_X11_board [.ref 0, .int x, .int y] [.ref 59, .int x, .int y] w := by
  obtain ⟨hZ, hP, ⟨c1, c2, c3⟩, hM0, ⟨n, m, A, B, hn, hm, i3, i4, i20, i21, hA, hB, hnm⟩, -⟩ := id hI
  have hz := hZ.2
  by_cases g0 : inR x (nL T)
  · obtain ⟨k, hk, rfl⟩ := inR_k g0 (by omega)
    have hH : 1 ≤ nH T := hP.hL hk
    have hU := hP.pu hH
    obtain ⟨-, hO, hD, hDH, h0, h7, hFr⟩ := id hU
    have hk5 : k < 5 := by omega
    have hk8 : k < 8 := by omega
    have hd4 := hD.1 k hk5
    by_cases g1 : inR y (nH T)
    · obtain ⟨h, hh, rfl⟩ := inR_k g1 (by omega)
      have hh4 : h < 4 := by omega
      have ep : (plD (D k) = nI h) = (D k = h + 1) := by
        unfold plD
        by_cases z : D k = 0
        · rw [if_pos z]; exact propext ⟨fun y => absurd y.symm (by rw [ngNe (by omega) (by decide)]; exact fun t => t), fun y => by omega⟩
        · rw [if_neg z, eq_n (by omega) (by omega)]; exact propext ⟨fun y => by omega, fun y => by omega⟩
      obtain ⟨s, es, hs1, hs2⟩ := (hO.2.2.2.2.2.2.1 h hh).2.2
      have hp5 := pc5_le (cw D h)
      by_cases q : D k = h + 1
      · refine askI (v := -1) (tr := 5) hI (by decide) (fun Q hQ => ?_) (fun w1 K hM hK => ?_)
        · refine Cl_of k_X10_board.1 (Nat.le_of_ble_eq_true rfl) (show Wp m_X10_board _ 0 _ 0 [.ref 0, .int (nI k), .int (nI h)] [] _ from S_X10_board_0 _ _ _ ?_)
          simp +decide (disch := omega) only [↓EQA, CEA, LIA, NIA, Nat.lt_irrefl, Option.toList_some, Option.toList_none, List.cons_append, List.nil_append, true_and, and_true, Nat.reduceAdd, Nat.reduceLeDiff, not_true_eq_false, not_false_eq_true, if_true, if_false, ite_true, ite_false, Int32.reduceLT, ite_not, eq_self, or_true, true_or, ite_self, reduceIte, B_X10_board_0]
          refine t_isLodger c1 hZ ?_
          rw [show bI (inR _ (nL T)) = 1 from if_pos g0]
          simp +decide (disch := omega) only [↓EQA, CEA, LIA, NIA, Nat.lt_irrefl, Option.toList_some, Option.toList_none, List.cons_append, List.nil_append, true_and, and_true, Nat.reduceAdd, Nat.reduceLeDiff, not_true_eq_false, not_false_eq_true, if_true, if_false, ite_true, ite_false, Int32.reduceLT, ite_not, eq_self, or_true, true_or, ite_self, reduceIte]
          refine t_isHouse c1 hZ ?_
          rw [show bI (inR _ (nH T)) = 1 from if_pos g1]
          simp +decide (disch := omega) only [↓EQA, CEA, LIA, NIA, Nat.lt_irrefl, Option.toList_some, Option.toList_none, List.cons_append, List.nil_append, true_and, and_true, Nat.reduceAdd, Nat.reduceLeDiff, not_true_eq_false, not_false_eq_true, if_true, if_false, ite_true, ite_false, Int32.reduceLT, ite_not, eq_self, or_true, true_or, ite_self, reduceIte]
          refine t_placeD RK_now c1 hZ c2 hD hDH hk5 ?_
          have ep2 : (plD (D k) = nI h) = True := by rw [ep]; exact eq_true q
          simp +decide (disch := omega) only [↓EQA, CEA, LIA, NIA, Nat.lt_irrefl, Option.toList_some, Option.toList_none, List.cons_append, List.nil_append, true_and, and_true, Nat.reduceAdd, Nat.reduceLeDiff, not_true_eq_false, not_false_eq_true, if_true, if_false, ite_true, ite_false, Int32.reduceLT, ite_not, eq_self, or_true, true_or, ite_self, reduceIte, ep2]
          refine t_refusedG Ag.rf c3 fun w9 h9 => ?_
          simp +decide (disch := omega) only [↓EQA, CEA, LIA, NIA, Nat.lt_irrefl, Option.toList_some, Option.toList_none, List.cons_append, List.nil_append, true_and, and_true, Nat.reduceAdd, Nat.reduceLeDiff, not_true_eq_false, not_false_eq_true, if_true, if_false, ite_true, ite_false, Int32.reduceLT, ite_not, eq_self, or_true, true_or, ite_self, reduceIte, B_X10_board_J1]
          exact hQ _ h9
        · refine Cl_of k_X11_board.1 (Nat.le_of_ble_eq_true rfl) (show Wp m_X11_board _ 0 _ 0 [.ref 59, .int (nI k), .int (nI h)] [] _ from S_X11_board_0 _ _ _ ?_)
          simp +decide (disch := omega) only [↓EQA, CEA, LIA, NIA, Nat.lt_irrefl, Option.toList_some, Option.toList_none, List.cons_append, List.nil_append, true_and, and_true, Nat.reduceAdd, Nat.reduceLeDiff, not_true_eq_false, not_false_eq_true, if_true, if_false, ite_true, ite_false, Int32.reduceLT, ite_not, eq_self, or_true, true_or, ite_self, reduceIte, B_X11_board_0]
          refine u_goodG hM fun wg hMg hA h11 => ?_
          simp +decide (disch := omega) only [↓EQA, CEA, LIA, NIA, Nat.lt_irrefl, Option.toList_some, Option.toList_none, List.cons_append, List.nil_append, true_and, and_true, Nat.reduceAdd, Nat.reduceLeDiff, not_true_eq_false, not_false_eq_true, if_true, if_false, ite_true, ite_false, Int32.reduceLT, ite_not, eq_self, or_true, true_or, ite_self, reduceIte]
          refine u_isLodger hMg hZ hP ?_
          rw [show bI (inR _ (nL T)) = 1 from if_pos g0]
          simp +decide (disch := omega) only [↓EQA, CEA, LIA, NIA, Nat.lt_irrefl, Option.toList_some, Option.toList_none, List.cons_append, List.nil_append, true_and, and_true, Nat.reduceAdd, Nat.reduceLeDiff, not_true_eq_false, not_false_eq_true, if_true, if_false, ite_true, ite_false, Int32.reduceLT, ite_not, eq_self, or_true, true_or, ite_self, reduceIte]
          refine u_isHouse hMg hZ hP ?_
          rw [show bI (inR _ (nH T)) = 1 from if_pos g1]
          have e64 := hMg.2.2.1 k hk8
          simp +decide (disch := omega) only [↓EQA, CEA, LIA, NIA, Nat.lt_irrefl, Option.toList_some, Option.toList_none, List.cons_append, List.nil_append, true_and, and_true, Nat.reduceAdd, Nat.reduceLeDiff, not_true_eq_false, not_false_eq_true, if_true, if_false, ite_true, ite_false, Int32.reduceLT, ite_not, eq_self, or_true, true_or, ite_self, reduceIte, hk8, e64, q, nI_1]
          refine u_noG hMg hA fun w9 h9 => ?_
          simp +decide (disch := omega) only [↓EQA, CEA, LIA, NIA, Nat.lt_irrefl, Option.toList_some, Option.toList_none, List.cons_append, List.nil_append, true_and, and_true, Nat.reduceAdd, Nat.reduceLeDiff, not_true_eq_false, not_false_eq_true, if_true, if_false, ite_true, ite_false, Int32.reduceLT, ite_not, eq_self, or_true, true_or, ite_self, reduceIte, B_X11_board_J1]
          exact hK _ h9
      · by_cases q2 : pc5 (cw D h) < s
        · have hc9 : pc5 (cw (updD D k (h + 1)) h) ≤ 5 := pc5_le _
          have hD9 : DOKT T (updD D k (h + 1)) := DOKT.upd hU hk hh
          intro Q hQ
          refine Cl_of k_X10_board.1 (Nat.le_of_ble_eq_true rfl) (show Wp m_X10_board _ 0 _ 0 [.ref 0, .int (nI k), .int (nI h)] [] _ from S_X10_board_0 _ _ _ ?_)
          simp +decide (disch := omega) only [↓EQA, CEA, LIA, NIA, Nat.lt_irrefl, Option.toList_some, Option.toList_none, List.cons_append, List.nil_append, true_and, and_true, Nat.reduceAdd, Nat.reduceLeDiff, not_true_eq_false, not_false_eq_true, if_true, if_false, ite_true, ite_false, Int32.reduceLT, ite_not, eq_self, or_true, true_or, ite_self, reduceIte, B_X10_board_0]
          refine t_isLodger c1 hZ ?_
          rw [show bI (inR _ (nL T)) = 1 from if_pos g0]
          simp +decide (disch := omega) only [↓EQA, CEA, LIA, NIA, Nat.lt_irrefl, Option.toList_some, Option.toList_none, List.cons_append, List.nil_append, true_and, and_true, Nat.reduceAdd, Nat.reduceLeDiff, not_true_eq_false, not_false_eq_true, if_true, if_false, ite_true, ite_false, Int32.reduceLT, ite_not, eq_self, or_true, true_or, ite_self, reduceIte]
          refine t_isHouse c1 hZ ?_
          rw [show bI (inR _ (nH T)) = 1 from if_pos g1]
          simp +decide (disch := omega) only [↓EQA, CEA, LIA, NIA, Nat.lt_irrefl, Option.toList_some, Option.toList_none, List.cons_append, List.nil_append, true_and, and_true, Nat.reduceAdd, Nat.reduceLeDiff, not_true_eq_false, not_false_eq_true, if_true, if_false, ite_true, ite_false, Int32.reduceLT, ite_not, eq_self, or_true, true_or, ite_self, reduceIte]
          refine t_placeD RK_now c1 hZ c2 hD hDH hk5 ?_
          simp +decide (disch := omega) only [↓EQA, CEA, LIA, NIA, Nat.lt_irrefl, Option.toList_some, Option.toList_none, List.cons_append, List.nil_append, true_and, and_true, Nat.reduceAdd, Nat.reduceLeDiff, not_true_eq_false, not_false_eq_true, if_true, if_false, ite_true, ite_false, Int32.reduceLT, ite_not, eq_self, or_true, true_or, ite_self, reduceIte, ep, q]
          refine t_hasRoom RK_now c1 c2 hD.rok hh4 ?_
          rw [show bI (nI (pc5 ((RS D).1 h)) < T 5 h) = 1 from if_pos (by rw [es]; exact nI_lt q2 (by omega))]
          simp +decide (disch := omega) only [↓EQA, CEA, LIA, NIA, Nat.lt_irrefl, Option.toList_some, Option.toList_none, List.cons_append, List.nil_append, true_and, and_true, Nat.reduceAdd, Nat.reduceLeDiff, not_true_eq_false, not_false_eq_true, if_true, if_false, ite_true, ite_false, Int32.reduceLT, ite_not, eq_self, or_true, true_or, ite_self, reduceIte]
          refine t_keepG hn i3 (fun i hi => (hA i hi).2.1) c2 hD fun wk hak ka1 ka5 => ?_
          have hCk : RC wk 16 17 (RS D) := c2.ag hak (fun i z => by omega) (fun i z => by omega)
          simp +decide (disch := omega) only [↓EQA, CEA, LIA, NIA, Nat.lt_irrefl, Option.toList_some, Option.toList_none, List.cons_append, List.nil_append, true_and, and_true, Nat.reduceAdd, Nat.reduceLeDiff, not_true_eq_false, not_false_eq_true, if_true, if_false, ite_true, ite_false, Int32.reduceLT, ite_not, eq_self, or_true, true_or, ite_self, reduceIte]
          refine t_putD (p := h + 1) RK_now (by decide) hCk hD hk5 (by omega) fun wc hac hCc => ?_
          have ec := hCc.1 h hh4
          simp +decide (disch := omega) only [↓EQA, CEA, LIA, NIA, Nat.lt_irrefl, Option.toList_some, Option.toList_none, List.cons_append, List.nil_append, true_and, and_true, Nat.reduceAdd, Nat.reduceLeDiff, not_true_eq_false, not_false_eq_true, if_true, if_false, ite_true, ite_false, Int32.reduceLT, ite_not, eq_self, or_true, true_or, ite_self, reduceIte, hh4, ec]
          refine t_bitCount (cw_lt _ _) ?_
          simp +decide (disch := omega) only [↓EQA, CEA, LIA, NIA, Nat.lt_irrefl, Option.toList_some, Option.toList_none, List.cons_append, List.nil_append, true_and, and_true, Nat.reduceAdd, Nat.reduceLeDiff, not_true_eq_false, not_false_eq_true, if_true, if_false, ite_true, ite_false, Int32.reduceLT, ite_not, eq_self, or_true, true_or, ite_self, reduceIte]
          refine t_granted ?_
          have h1 : Ag (fun j i => (j = 0 ∧ i = 13) ∨ j = 16 ∨ j = 17 ∨ j = 57 ∨ (j = 56 ∧ i = 3)) w (wI wc 0 13 0) := ((hak.wk fun j i z => by omega).tr (hac.wk fun j i z => by omega)).wI (Or.inl ⟨rfl, rfl⟩)
          have ht1 : (wI wc 0 13 0).1 0 13 = 0 := by simp [wI]
          have hC1 : RC (wI wc 0 13 0) 16 17 (RS (updD D k (h + 1))) := hCc
          have a1 : (wI wc 0 13 0).1 56 3 = nI (nxN n) := by rw [wI_ne (by decide), (hac 56 3 (by omega)).1]; exact ka1
          have a5 : ∀ i, i < nxN n → (wI wc 0 13 0).2 57 i = lN (pkN (RS (nxA n A D i))) := fun i hi => by show wc.2 57 i = _; rw [(hac 57 i (by omega)).2]; exact ka5 i hi
          simp +decide (disch := omega) only [↓EQA, CEA, LIA, NIA, Nat.lt_irrefl, Option.toList_some, Option.toList_none, List.cons_append, List.nil_append, true_and, and_true, Nat.reduceAdd, Nat.reduceLeDiff, not_true_eq_false, not_false_eq_true, if_true, if_false, ite_true, ite_false, Int32.reduceLT, ite_not, eq_self, or_true, true_or, ite_self, reduceIte]
          generalize wI wc 0 13 0 = w1 at h1 ht1 hC1 a1 a5 ⊢
          refine hQ (nI (pc5 (cw (updD D k (h + 1)) h))) w1 fun K hK => ?_
          have hM1 : IMd w1 T D F := hM0.ag h1 (fun i z => by omega) (fun i z => by omega) (by omega) (by rw [(h1 59 22 (by omega)).1]; exact hM0.2.2.2.1)
          refine Cl_of k_X11_board.1 (Nat.le_of_ble_eq_true rfl) (show Wp m_X11_board _ 0 _ 0 [.ref 59, .int (nI k), .int (nI h)] [] _ from S_X11_board_0 _ _ _ ?_)
          simp +decide (disch := omega) only [↓EQA, CEA, LIA, NIA, Nat.lt_irrefl, Option.toList_some, Option.toList_none, List.cons_append, List.nil_append, true_and, and_true, Nat.reduceAdd, Nat.reduceLeDiff, not_true_eq_false, not_false_eq_true, if_true, if_false, ite_true, ite_false, Int32.reduceLT, ite_not, eq_self, or_true, true_or, ite_self, reduceIte, B_X11_board_0]
          refine u_goodH hM1 fun wg hMg hg h11 => ?_
          simp +decide (disch := omega) only [↓EQA, CEA, LIA, NIA, Nat.lt_irrefl, Option.toList_some, Option.toList_none, List.cons_append, List.nil_append, true_and, and_true, Nat.reduceAdd, Nat.reduceLeDiff, not_true_eq_false, not_false_eq_true, if_true, if_false, ite_true, ite_false, Int32.reduceLT, ite_not, eq_self, or_true, true_or, ite_self, reduceIte]
          refine u_isLodger hMg hZ hP ?_
          rw [show bI (inR _ (nL T)) = 1 from if_pos g0]
          simp +decide (disch := omega) only [↓EQA, CEA, LIA, NIA, Nat.lt_irrefl, Option.toList_some, Option.toList_none, List.cons_append, List.nil_append, true_and, and_true, Nat.reduceAdd, Nat.reduceLeDiff, not_true_eq_false, not_false_eq_true, if_true, if_false, ite_true, ite_false, Int32.reduceLT, ite_not, eq_self, or_true, true_or, ite_self, reduceIte]
          refine u_isHouse hMg hZ hP ?_
          rw [show bI (inR _ (nH T)) = 1 from if_pos g1]
          have e64 := hMg.2.2.1 k hk8
          simp +decide (disch := omega) only [↓EQA, CEA, LIA, NIA, Nat.lt_irrefl, Option.toList_some, Option.toList_none, List.cons_append, List.nil_append, true_and, and_true, Nat.reduceAdd, Nat.reduceLeDiff, not_true_eq_false, not_false_eq_true, if_true, if_false, ite_true, ite_false, Int32.reduceLT, ite_not, eq_self, or_true, true_or, ite_self, reduceIte, hk8, e64, q, nI_1]
          refine u_aboardOf hMg.1 hZ (RM64 hU hMg) rfl hh4 ?_
          simp +decide (disch := omega) only [↓EQA, CEA, LIA, NIA, Nat.lt_irrefl, Option.toList_some, Option.toList_none, List.cons_append, List.nil_append, true_and, and_true, Nat.reduceAdd, Nat.reduceLeDiff, not_true_eq_false, not_false_eq_true, if_true, if_false, ite_true, ite_false, Int32.reduceLT, ite_not, eq_self, or_true, true_or, ite_self, reduceIte]
          refine u_ones ?_
          simp +decide (disch := omega) only [↓EQA, CEA, LIA, NIA, Nat.lt_irrefl, Option.toList_some, Option.toList_none, List.cons_append, List.nil_append, true_and, and_true, Nat.reduceAdd, Nat.reduceLeDiff, not_true_eq_false, not_false_eq_true, if_true, if_false, ite_true, ite_false, Int32.reduceLT, ite_not, eq_self, or_true, true_or, ite_self, reduceIte]
          refine u_storeysOf hMg.1 hz.2.1 hh ?_
          rw [ones_CN hz.2.2.1, CN_pc5 hU]
          simp +decide (disch := omega) only [↓EQA, CEA, LIA, NIA, Nat.lt_irrefl, Option.toList_some, Option.toList_none, List.cons_append, List.nil_append, true_and, and_true, Nat.reduceAdd, Nat.reduceLeDiff, not_true_eq_false, not_false_eq_true, if_true, if_false, ite_true, ite_false, Int32.reduceLT, ite_not, eq_self, or_true, true_or, ite_self, reduceIte, es, q2]
          refine u_noteG (A := A) hn (by rw [(hg 59 20 (by omega)).1, (h1 59 20 (by omega)).1]; exact i20) (fun i hi q hq => by rw [(hg 65 _ (by omega)).1, (h1 65 _ (by omega)).1]; exact (hA i hi).2.2 q hq) hMg.2.2.1 fun w2 h2 a3 a6 => ?_
          have hR2 : MR w2 64 D := hMg.2.2.1.ag h2 (fun i z => by omega)
          have hIN : INV (wI w2 64 k (nI ((h + 1)))) := hI.act (tr := 0) hH (by omega) hD9 hn hm hA hB i4 i21 h1 ht1 hC1 a1 a5 hg h11 h2 a3 a6
          simp +decide (disch := omega) only [↓EQA, CEA, LIA, NIA, Nat.lt_irrefl, Option.toList_some, Option.toList_none, List.cons_append, List.nil_append, true_and, and_true, Nat.reduceAdd, Nat.reduceLeDiff, not_true_eq_false, not_false_eq_true, if_true, if_false, ite_true, ite_false, Int32.reduceLT, ite_not, eq_self, or_true, true_or, ite_self, reduceIte, hk8, nI_1]
          have hU9 : PU T (updD D k (h + 1)) F := ⟨hU.1, hU.2.1, hD9.1, hD9.2.1, hD9.2.2.1, hD9.2.2.2, hU.2.2.2.2.2.2⟩
          have hM9 : ToldM (wI w2 64 k (nI (h + 1))) T := (hMg.1.ag h2 (fun i z => by omega)).ag (P := fun j _ => j = 64) (Ag.rf.wI rfl) (fun i z => by omega)
          have hR9 : MR (wI w2 64 k (nI (h + 1))) 64 (updD D k (h + 1)) := fun q hq => by
            rw [wI_get]
            unfold updD
            by_cases e : q = k
            · rw [if_pos ⟨rfl, e⟩, if_pos e]
            · rw [if_neg (fun z => e z.2), if_neg e]; exact hR2 q hq
          have hV9 : RM (wI w2 64 k (nI (h + 1))) 64 (VC (RS (updD D k (h + 1)))) := RM_of (s := 0) hR9 hD9.1 (by decide) (by rw [wI_ne (by decide), (h2 59 22 (by omega)).1]; exact hMg.2.2.2.1)
          refine u_aboardOf hM9 hZ hV9 rfl hh4 ?_
          simp +decide (disch := omega) only [↓EQA, CEA, LIA, NIA, Nat.lt_irrefl, Option.toList_some, Option.toList_none, List.cons_append, List.nil_append, true_and, and_true, Nat.reduceAdd, Nat.reduceLeDiff, not_true_eq_false, not_false_eq_true, if_true, if_false, ite_true, ite_false, Int32.reduceLT, ite_not, eq_self, or_true, true_or, ite_self, reduceIte]
          refine u_ones ?_
          rw [ones_CN hz.2.2.1, CN_pc5 hU9]
          simp +decide (disch := omega) only [↓EQA, CEA, LIA, NIA, Nat.lt_irrefl, Option.toList_some, Option.toList_none, List.cons_append, List.nil_append, true_and, and_true, Nat.reduceAdd, Nat.reduceLeDiff, not_true_eq_false, not_false_eq_true, if_true, if_false, ite_true, ite_false, Int32.reduceLT, ite_not, eq_self, or_true, true_or, ite_self, reduceIte]
          exact hK _ hIN
        · refine askI (v := -1) (tr := 3) hI (by decide) (fun Q hQ => ?_) (fun w1 K hM hK => ?_)
          · refine Cl_of k_X10_board.1 (Nat.le_of_ble_eq_true rfl) (show Wp m_X10_board _ 0 _ 0 [.ref 0, .int (nI k), .int (nI h)] [] _ from S_X10_board_0 _ _ _ ?_)
            simp +decide (disch := omega) only [↓EQA, CEA, LIA, NIA, Nat.lt_irrefl, Option.toList_some, Option.toList_none, List.cons_append, List.nil_append, true_and, and_true, Nat.reduceAdd, Nat.reduceLeDiff, not_true_eq_false, not_false_eq_true, if_true, if_false, ite_true, ite_false, Int32.reduceLT, ite_not, eq_self, or_true, true_or, ite_self, reduceIte, B_X10_board_0]
            refine t_isLodger c1 hZ ?_
            rw [show bI (inR _ (nL T)) = 1 from if_pos g0]
            simp +decide (disch := omega) only [↓EQA, CEA, LIA, NIA, Nat.lt_irrefl, Option.toList_some, Option.toList_none, List.cons_append, List.nil_append, true_and, and_true, Nat.reduceAdd, Nat.reduceLeDiff, not_true_eq_false, not_false_eq_true, if_true, if_false, ite_true, ite_false, Int32.reduceLT, ite_not, eq_self, or_true, true_or, ite_self, reduceIte]
            refine t_isHouse c1 hZ ?_
            rw [show bI (inR _ (nH T)) = 1 from if_pos g1]
            simp +decide (disch := omega) only [↓EQA, CEA, LIA, NIA, Nat.lt_irrefl, Option.toList_some, Option.toList_none, List.cons_append, List.nil_append, true_and, and_true, Nat.reduceAdd, Nat.reduceLeDiff, not_true_eq_false, not_false_eq_true, if_true, if_false, ite_true, ite_false, Int32.reduceLT, ite_not, eq_self, or_true, true_or, ite_self, reduceIte]
            refine t_placeD RK_now c1 hZ c2 hD hDH hk5 ?_
            simp +decide (disch := omega) only [↓EQA, CEA, LIA, NIA, Nat.lt_irrefl, Option.toList_some, Option.toList_none, List.cons_append, List.nil_append, true_and, and_true, Nat.reduceAdd, Nat.reduceLeDiff, not_true_eq_false, not_false_eq_true, if_true, if_false, ite_true, ite_false, Int32.reduceLT, ite_not, eq_self, or_true, true_or, ite_self, reduceIte, ep, q]
            refine t_hasRoom RK_now c1 c2 hD.rok hh4 ?_
            rw [show bI (nI (pc5 ((RS D).1 h)) < T 5 h) = 0 from if_neg (by rw [es]; exact nI_nlt (show s ≤ pc5 (cw D h) by omega) (show pc5 (cw D h) < 2 ^ 31 by omega))]
            simp +decide (disch := omega) only [↓EQA, CEA, LIA, NIA, Nat.lt_irrefl, Option.toList_some, Option.toList_none, List.cons_append, List.nil_append, true_and, and_true, Nat.reduceAdd, Nat.reduceLeDiff, not_true_eq_false, not_false_eq_true, if_true, if_false, ite_true, ite_false, Int32.reduceLT, ite_not, eq_self, or_true, true_or, ite_self, reduceIte]
            refine t_refusedG Ag.rf c3 fun w9 h9 => ?_
            simp +decide (disch := omega) only [↓EQA, CEA, LIA, NIA, Nat.lt_irrefl, Option.toList_some, Option.toList_none, List.cons_append, List.nil_append, true_and, and_true, Nat.reduceAdd, Nat.reduceLeDiff, not_true_eq_false, not_false_eq_true, if_true, if_false, ite_true, ite_false, Int32.reduceLT, ite_not, eq_self, or_true, true_or, ite_self, reduceIte, B_X10_board_J1]
            exact hQ _ h9
          · refine Cl_of k_X11_board.1 (Nat.le_of_ble_eq_true rfl) (show Wp m_X11_board _ 0 _ 0 [.ref 59, .int (nI k), .int (nI h)] [] _ from S_X11_board_0 _ _ _ ?_)
            simp +decide (disch := omega) only [↓EQA, CEA, LIA, NIA, Nat.lt_irrefl, Option.toList_some, Option.toList_none, List.cons_append, List.nil_append, true_and, and_true, Nat.reduceAdd, Nat.reduceLeDiff, not_true_eq_false, not_false_eq_true, if_true, if_false, ite_true, ite_false, Int32.reduceLT, ite_not, eq_self, or_true, true_or, ite_self, reduceIte, B_X11_board_0]
            refine u_goodG hM fun wg hMg hA h11 => ?_
            simp +decide (disch := omega) only [↓EQA, CEA, LIA, NIA, Nat.lt_irrefl, Option.toList_some, Option.toList_none, List.cons_append, List.nil_append, true_and, and_true, Nat.reduceAdd, Nat.reduceLeDiff, not_true_eq_false, not_false_eq_true, if_true, if_false, ite_true, ite_false, Int32.reduceLT, ite_not, eq_self, or_true, true_or, ite_self, reduceIte]
            refine u_isLodger hMg hZ hP ?_
            rw [show bI (inR _ (nL T)) = 1 from if_pos g0]
            simp +decide (disch := omega) only [↓EQA, CEA, LIA, NIA, Nat.lt_irrefl, Option.toList_some, Option.toList_none, List.cons_append, List.nil_append, true_and, and_true, Nat.reduceAdd, Nat.reduceLeDiff, not_true_eq_false, not_false_eq_true, if_true, if_false, ite_true, ite_false, Int32.reduceLT, ite_not, eq_self, or_true, true_or, ite_self, reduceIte]
            refine u_isHouse hMg hZ hP ?_
            rw [show bI (inR _ (nH T)) = 1 from if_pos g1]
            have e64 := hMg.2.2.1 k hk8
            simp +decide (disch := omega) only [↓EQA, CEA, LIA, NIA, Nat.lt_irrefl, Option.toList_some, Option.toList_none, List.cons_append, List.nil_append, true_and, and_true, Nat.reduceAdd, Nat.reduceLeDiff, not_true_eq_false, not_false_eq_true, if_true, if_false, ite_true, ite_false, Int32.reduceLT, ite_not, eq_self, or_true, true_or, ite_self, reduceIte, hk8, e64, q, nI_1]
            refine u_aboardOf hMg.1 hZ (RM64 hU hMg) rfl hh4 ?_
            simp +decide (disch := omega) only [↓EQA, CEA, LIA, NIA, Nat.lt_irrefl, Option.toList_some, Option.toList_none, List.cons_append, List.nil_append, true_and, and_true, Nat.reduceAdd, Nat.reduceLeDiff, not_true_eq_false, not_false_eq_true, if_true, if_false, ite_true, ite_false, Int32.reduceLT, ite_not, eq_self, or_true, true_or, ite_self, reduceIte]
            refine u_ones ?_
            simp +decide (disch := omega) only [↓EQA, CEA, LIA, NIA, Nat.lt_irrefl, Option.toList_some, Option.toList_none, List.cons_append, List.nil_append, true_and, and_true, Nat.reduceAdd, Nat.reduceLeDiff, not_true_eq_false, not_false_eq_true, if_true, if_false, ite_true, ite_false, Int32.reduceLT, ite_not, eq_self, or_true, true_or, ite_self, reduceIte]
            refine u_storeysOf hMg.1 hz.2.1 hh ?_
            rw [ones_CN hz.2.2.1, CN_pc5 hU]
            simp +decide (disch := omega) only [↓EQA, CEA, LIA, NIA, Nat.lt_irrefl, Option.toList_some, Option.toList_none, List.cons_append, List.nil_append, true_and, and_true, Nat.reduceAdd, Nat.reduceLeDiff, not_true_eq_false, not_false_eq_true, if_true, if_false, ite_true, ite_false, Int32.reduceLT, ite_not, eq_self, or_true, true_or, ite_self, reduceIte, es, q2]
            refine u_noG hMg hA fun w9 h9 => ?_
            simp +decide (disch := omega) only [↓EQA, CEA, LIA, NIA, Nat.lt_irrefl, Option.toList_some, Option.toList_none, List.cons_append, List.nil_append, true_and, and_true, Nat.reduceAdd, Nat.reduceLeDiff, not_true_eq_false, not_false_eq_true, if_true, if_false, ite_true, ite_false, Int32.reduceLT, ite_not, eq_self, or_true, true_or, ite_self, reduceIte, B_X11_board_J1]
            exact hK _ h9
    · refine askI (v := -1) (tr := 1) hI (by decide) (fun Q hQ => ?_) (fun w1 K hM hK => ?_)
      · refine Cl_of k_X10_board.1 (Nat.le_of_ble_eq_true rfl) (show Wp m_X10_board _ 0 _ 0 [.ref 0, .int (nI k), .int y] [] _ from S_X10_board_0 _ _ _ ?_)
        simp +decide (disch := omega) only [↓EQA, CEA, LIA, NIA, Nat.lt_irrefl, Option.toList_some, Option.toList_none, List.cons_append, List.nil_append, true_and, and_true, Nat.reduceAdd, Nat.reduceLeDiff, not_true_eq_false, not_false_eq_true, if_true, if_false, ite_true, ite_false, Int32.reduceLT, ite_not, eq_self, or_true, true_or, ite_self, reduceIte, B_X10_board_0]
        refine t_isLodger c1 hZ ?_
        rw [show bI (inR _ (nL T)) = 1 from if_pos g0]
        simp +decide (disch := omega) only [↓EQA, CEA, LIA, NIA, Nat.lt_irrefl, Option.toList_some, Option.toList_none, List.cons_append, List.nil_append, true_and, and_true, Nat.reduceAdd, Nat.reduceLeDiff, not_true_eq_false, not_false_eq_true, if_true, if_false, ite_true, ite_false, Int32.reduceLT, ite_not, eq_self, or_true, true_or, ite_self, reduceIte]
        refine t_isHouse c1 hZ ?_
        rw [show bI (inR _ (nH T)) = 0 from if_neg g1]
        simp +decide (disch := omega) only [↓EQA, CEA, LIA, NIA, Nat.lt_irrefl, Option.toList_some, Option.toList_none, List.cons_append, List.nil_append, true_and, and_true, Nat.reduceAdd, Nat.reduceLeDiff, not_true_eq_false, not_false_eq_true, if_true, if_false, ite_true, ite_false, Int32.reduceLT, ite_not, eq_self, or_true, true_or, ite_self, reduceIte, B_X10_board_J1]
        refine t_refusedG Ag.rf c3 fun w9 h9 => ?_
        simp +decide (disch := omega) only [↓EQA, CEA, LIA, NIA, Nat.lt_irrefl, Option.toList_some, Option.toList_none, List.cons_append, List.nil_append, true_and, and_true, Nat.reduceAdd, Nat.reduceLeDiff, not_true_eq_false, not_false_eq_true, if_true, if_false, ite_true, ite_false, Int32.reduceLT, ite_not, eq_self, or_true, true_or, ite_self, reduceIte, B_X10_board_J1]
        exact hQ _ h9
      · refine Cl_of k_X11_board.1 (Nat.le_of_ble_eq_true rfl) (show Wp m_X11_board _ 0 _ 0 [.ref 59, .int (nI k), .int y] [] _ from S_X11_board_0 _ _ _ ?_)
        simp +decide (disch := omega) only [↓EQA, CEA, LIA, NIA, Nat.lt_irrefl, Option.toList_some, Option.toList_none, List.cons_append, List.nil_append, true_and, and_true, Nat.reduceAdd, Nat.reduceLeDiff, not_true_eq_false, not_false_eq_true, if_true, if_false, ite_true, ite_false, Int32.reduceLT, ite_not, eq_self, or_true, true_or, ite_self, reduceIte, B_X11_board_0]
        refine u_goodG hM fun wg hMg hA h11 => ?_
        simp +decide (disch := omega) only [↓EQA, CEA, LIA, NIA, Nat.lt_irrefl, Option.toList_some, Option.toList_none, List.cons_append, List.nil_append, true_and, and_true, Nat.reduceAdd, Nat.reduceLeDiff, not_true_eq_false, not_false_eq_true, if_true, if_false, ite_true, ite_false, Int32.reduceLT, ite_not, eq_self, or_true, true_or, ite_self, reduceIte]
        refine u_isLodger hMg hZ hP ?_
        rw [show bI (inR _ (nL T)) = 1 from if_pos g0]
        simp +decide (disch := omega) only [↓EQA, CEA, LIA, NIA, Nat.lt_irrefl, Option.toList_some, Option.toList_none, List.cons_append, List.nil_append, true_and, and_true, Nat.reduceAdd, Nat.reduceLeDiff, not_true_eq_false, not_false_eq_true, if_true, if_false, ite_true, ite_false, Int32.reduceLT, ite_not, eq_self, or_true, true_or, ite_self, reduceIte]
        refine u_isHouse hMg hZ hP ?_
        rw [show bI (inR _ (nH T)) = 0 from if_neg g1]
        simp +decide (disch := omega) only [↓EQA, CEA, LIA, NIA, Nat.lt_irrefl, Option.toList_some, Option.toList_none, List.cons_append, List.nil_append, true_and, and_true, Nat.reduceAdd, Nat.reduceLeDiff, not_true_eq_false, not_false_eq_true, if_true, if_false, ite_true, ite_false, Int32.reduceLT, ite_not, eq_self, or_true, true_or, ite_self, reduceIte, B_X11_board_J1]
        refine u_noG hMg hA fun w9 h9 => ?_
        simp +decide (disch := omega) only [↓EQA, CEA, LIA, NIA, Nat.lt_irrefl, Option.toList_some, Option.toList_none, List.cons_append, List.nil_append, true_and, and_true, Nat.reduceAdd, Nat.reduceLeDiff, not_true_eq_false, not_false_eq_true, if_true, if_false, ite_true, ite_false, Int32.reduceLT, ite_not, eq_self, or_true, true_or, ite_self, reduceIte, B_X11_board_J1]
        exact hK _ h9
  · refine askI (v := -1) (tr := 1) hI (by decide) (fun Q hQ => ?_) (fun w1 K hM hK => ?_)
    · refine Cl_of k_X10_board.1 (Nat.le_of_ble_eq_true rfl) (show Wp m_X10_board _ 0 _ 0 [.ref 0, .int x, .int y] [] _ from S_X10_board_0 _ _ _ ?_)
      simp +decide (disch := omega) only [↓EQA, CEA, LIA, NIA, Nat.lt_irrefl, Option.toList_some, Option.toList_none, List.cons_append, List.nil_append, true_and, and_true, Nat.reduceAdd, Nat.reduceLeDiff, not_true_eq_false, not_false_eq_true, if_true, if_false, ite_true, ite_false, Int32.reduceLT, ite_not, eq_self, or_true, true_or, ite_self, reduceIte, B_X10_board_0]
      refine t_isLodger c1 hZ ?_
      rw [show bI (inR _ (nL T)) = 0 from if_neg g0]
      simp +decide (disch := omega) only [↓EQA, CEA, LIA, NIA, Nat.lt_irrefl, Option.toList_some, Option.toList_none, List.cons_append, List.nil_append, true_and, and_true, Nat.reduceAdd, Nat.reduceLeDiff, not_true_eq_false, not_false_eq_true, if_true, if_false, ite_true, ite_false, Int32.reduceLT, ite_not, eq_self, or_true, true_or, ite_self, reduceIte, B_X10_board_J1]
      refine t_refusedG Ag.rf c3 fun w9 h9 => ?_
      simp +decide (disch := omega) only [↓EQA, CEA, LIA, NIA, Nat.lt_irrefl, Option.toList_some, Option.toList_none, List.cons_append, List.nil_append, true_and, and_true, Nat.reduceAdd, Nat.reduceLeDiff, not_true_eq_false, not_false_eq_true, if_true, if_false, ite_true, ite_false, Int32.reduceLT, ite_not, eq_self, or_true, true_or, ite_self, reduceIte, B_X10_board_J1]
      exact hQ _ h9
    · refine Cl_of k_X11_board.1 (Nat.le_of_ble_eq_true rfl) (show Wp m_X11_board _ 0 _ 0 [.ref 59, .int x, .int y] [] _ from S_X11_board_0 _ _ _ ?_)
      simp +decide (disch := omega) only [↓EQA, CEA, LIA, NIA, Nat.lt_irrefl, Option.toList_some, Option.toList_none, List.cons_append, List.nil_append, true_and, and_true, Nat.reduceAdd, Nat.reduceLeDiff, not_true_eq_false, not_false_eq_true, if_true, if_false, ite_true, ite_false, Int32.reduceLT, ite_not, eq_self, or_true, true_or, ite_self, reduceIte, B_X11_board_0]
      refine u_goodG hM fun wg hMg hA h11 => ?_
      simp +decide (disch := omega) only [↓EQA, CEA, LIA, NIA, Nat.lt_irrefl, Option.toList_some, Option.toList_none, List.cons_append, List.nil_append, true_and, and_true, Nat.reduceAdd, Nat.reduceLeDiff, not_true_eq_false, not_false_eq_true, if_true, if_false, ite_true, ite_false, Int32.reduceLT, ite_not, eq_self, or_true, true_or, ite_self, reduceIte]
      refine u_isLodger hMg hZ hP ?_
      rw [show bI (inR _ (nL T)) = 0 from if_neg g0]
      simp +decide (disch := omega) only [↓EQA, CEA, LIA, NIA, Nat.lt_irrefl, Option.toList_some, Option.toList_none, List.cons_append, List.nil_append, true_and, and_true, Nat.reduceAdd, Nat.reduceLeDiff, not_true_eq_false, not_false_eq_true, if_true, if_false, ite_true, ite_false, Int32.reduceLT, ite_not, eq_self, or_true, true_or, ite_self, reduceIte, B_X11_board_J1]
      refine u_noG hMg hA fun w9 h9 => ?_
      simp +decide (disch := omega) only [↓EQA, CEA, LIA, NIA, Nat.lt_irrefl, Option.toList_some, Option.toList_none, List.cons_append, List.nil_append, true_and, and_true, Nat.reduceAdd, Nat.reduceLeDiff, not_true_eq_false, not_false_eq_true, if_true, if_false, ite_true, ite_false, Int32.reduceLT, ite_not, eq_self, or_true, true_or, ite_self, reduceIte, B_X11_board_J1]
      exact hK _ h9
end Acts2
