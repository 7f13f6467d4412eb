/-! ===== size; feed ===== -/
section Size
variable {d : Nat} {w : Mem} {Q : Option Value → Mem → Prop} {T : Tv} {D F : Nat → Nat} {x y : Int32}
theorem p_size (hI : IV w T D F) : PRI (d + 20) m_X10_size m_X11_size [.ref 0, .int x] [.ref 59, .int x] w := by
  obtain ⟨hZ, hP, ⟨c1, c2, c3⟩, hM0, ⟨n, m, A, B, hn, hm, i3, i4, i20, i21, hA, hB, hnm⟩, ⟨t, t1, t2, t3, t4⟩, -⟩ := id hI
  have hz := hZ.2
  have z2 : (wI w 59 0 0).1 59 2 = nI t := by rw [← t3]; simp [wI]
  have z14 : (wI w 59 0 0).1 59 14 = bI (1 ≤ nH T) := by rw [← hM0.2.2.2.2.1]; simp [wI]
  have z20 : (wI w 59 0 0).1 59 20 = nI n := by rw [← i20]; simp [wI]
  have z21 : (wI w 59 0 0).1 59 21 = nI m := by rw [← i21]; simp [wI]
  have z7 : (wI w 59 0 0).1 64 7 = nI (D 7) := by rw [wI_ne (by decide)]; exact hM0.2.2.1 7 (by decide)
  have z62 : ∀ j, j ≤ 10 → (wI w 59 0 0).1 62 j = T 0 j := fun j hj => by rw [wI_ne (by decide)]; exact hM0.1.1 j hj
  have hIt := hI.thr (v := 0)
  generalize hwz : wI w 59 0 0 = wz at *
  have hx : x = 0 ∨ (∃ j, 1 ≤ j ∧ j ≤ 10 ∧ x = nI j) ∨ x = 11 ∨ x = 12 ∨ x = 13 ∨ ¬ inR x 14 := by
    by_cases g : inR x 14
    · obtain ⟨j, hj, rfl⟩ := inR_k g (by decide)
      rcases (by omega : j = 0 ∨ (1 ≤ j ∧ j ≤ 10) ∨ j = 11 ∨ j = 12 ∨ j = 13) with rfl | ⟨j1, j2⟩ | rfl | rfl | rfl
      · exact Or.inl rfl
      · exact Or.inr (Or.inl ⟨j, j1, j2, rfl⟩)
      · exact Or.inr (Or.inr (Or.inl rfl))
      · exact Or.inr (Or.inr (Or.inr (Or.inl rfl)))
      · exact Or.inr (Or.inr (Or.inr (Or.inr (Or.inl rfl))))
    · exact Or.inr (Or.inr (Or.inr (Or.inr (Or.inr g))))
  by_cases hH : 1 ≤ nH T
  · have z14' : wz.1 59 14 = 1 := by rw [z14]; exact if_pos hH
    rcases hx with rfl | ⟨j, j1, j2, rfl⟩ | rfl | rfl | rfl | g
    · intro Q hQ
      refine Cl_of k_X10_size.1 (Nat.le_of_ble_eq_true rfl) (show Wp m_X10_size _ 0 _ 0 [.ref 0, .int 0] [] _ from S_X10_size_0 _ _ _ ?_)
      simp +decide (disch := omega) only [↓EQA, CEA, LIA, NIA, Nat.lt_irrefl, Option.toList_some, Option.toList_none, List.cons_append, List.nil_append, true_and, and_true, Nat.reduceAdd, Nat.reduceLeDiff, not_true_eq_false, not_false_eq_true, if_true, if_false, ite_true, ite_false, Int32.reduceLT, ite_not, eq_self, or_true, true_or, ite_self, reduceIte, B_X10_size_0, B_X10_size_J1, B_X10_size_J2, c2.2.1]
      refine hQ (nI (D 7)) w fun K hK => ?_
      refine Cl_of k_X11_size.1 (Nat.le_of_ble_eq_true rfl) (show Wp m_X11_size _ 0 _ 0 [.ref 59, .int 0] [] _ from S_X11_size_0 _ _ _ ?_)
      simp +decide (disch := omega) only [↓EQA, CEA, LIA, NIA, Nat.lt_irrefl, Option.toList_some, Option.toList_none, List.cons_append, List.nil_append, true_and, and_true, Nat.reduceAdd, Nat.reduceLeDiff, not_true_eq_false, not_false_eq_true, if_true, if_false, ite_true, ite_false, Int32.reduceLT, ite_not, eq_self, or_true, true_or, ite_self, reduceIte, B_X11_size_0, hwz, B_X11_size_J1, B_X11_size_J2, z14', z7]
      exact hK _ hIt
    · have e13 : (nI j = 13) = False := eq_false fun z => by have := (nI_eq (b := 13) (by omega) (by decide)).mp z; omega
      have e12 : (nI j = 12) = False := eq_false fun z => by have := (nI_eq (b := 12) (by omega) (by decide)).mp z; omega
      have e11 : (nI j = 11) = False := eq_false fun z => by have := (nI_eq (b := 11) (by omega) (by decide)).mp z; omega
      have e0 : (nI j = 0) = False := eq_false fun z => by have := (nI_eq (b := 0) (by omega) (by decide)).mp z; omega
      have p0 : (0 < nI j) = True := eq_true (nI_lt (a := 0) (by omega) (by omega))
      have p11 : (nI j < 11) = True := eq_true (nI_lt (b := 11) (by omega) (by decide))
      have j11 : j < 11 := by omega
      have j191 : j < 191 := by omega
      intro Q hQ
      refine Cl_of k_X10_size.1 (Nat.le_of_ble_eq_true rfl) (show Wp m_X10_size _ 0 _ 0 [.ref 0, .int (nI j)] [] _ from S_X10_size_0 _ _ _ ?_)
      simp +decide (disch := omega) only [↓EQA, CEA, LIA, NIA, Nat.lt_irrefl, Option.toList_some, Option.toList_none, List.cons_append, List.nil_append, true_and, and_true, Nat.reduceAdd, Nat.reduceLeDiff, not_true_eq_false, not_false_eq_true, if_true, if_false, ite_true, ite_false, Int32.reduceLT, ite_not, eq_self, or_true, true_or, ite_self, reduceIte, B_X10_size_0, B_X10_size_J1, B_X10_size_J2, e13, e12, e11, e0, p0, p11, j11, c1]
      refine hQ (T 0 j) w fun K hK => ?_
      refine Cl_of k_X11_size.1 (Nat.le_of_ble_eq_true rfl) (show Wp m_X11_size _ 0 _ 0 [.ref 59, .int (nI j)] [] _ from S_X11_size_0 _ _ _ ?_)
      simp +decide (disch := omega) only [↓EQA, CEA, LIA, NIA, Nat.lt_irrefl, Option.toList_some, Option.toList_none, List.cons_append, List.nil_append, true_and, and_true, Nat.reduceAdd, Nat.reduceLeDiff, not_true_eq_false, not_false_eq_true, if_true, if_false, ite_true, ite_false, Int32.reduceLT, ite_not, eq_self, or_true, true_or, ite_self, reduceIte, B_X11_size_0, hwz, e13, z14', e0]
      refine u_in ?_
      rw [show bI (¬ nI j < 1 ∧ ¬ 10 < nI j) = 1 from if_pos ⟨nI_nlt (b := 1) j1 (by omega), show ¬ nI 10 < nI j from nI_nlt j2 (by decide)⟩]
      simp +decide (disch := omega) only [↓EQA, CEA, LIA, NIA, Nat.lt_irrefl, Option.toList_some, Option.toList_none, List.cons_append, List.nil_append, true_and, and_true, Nat.reduceAdd, Nat.reduceLeDiff, not_true_eq_false, not_false_eq_true, if_true, if_false, ite_true, ite_false, Int32.reduceLT, ite_not, eq_self, or_true, true_or, ite_self, reduceIte, j191, z62 j (by omega), B_X11_size_J1, B_X11_size_J2]
      exact hK _ hIt
    · intro Q hQ
      refine Cl_of k_X10_size.1 (Nat.le_of_ble_eq_true rfl) (show Wp m_X10_size _ 0 _ 0 [.ref 0, .int 11] [] _ from S_X10_size_0 _ _ _ ?_)
      simp +decide (disch := omega) only [↓EQA, CEA, LIA, NIA, Nat.lt_irrefl, Option.toList_some, Option.toList_none, List.cons_append, List.nil_append, true_and, and_true, Nat.reduceAdd, Nat.reduceLeDiff, not_true_eq_false, not_false_eq_true, if_true, if_false, ite_true, ite_false, Int32.reduceLT, ite_not, eq_self, or_true, true_or, ite_self, reduceIte, B_X10_size_0, B_X10_size_J1, B_X10_size_J2, i3]
      refine hQ (nI n) w fun K hK => ?_
      refine Cl_of k_X11_size.1 (Nat.le_of_ble_eq_true rfl) (show Wp m_X11_size _ 0 _ 0 [.ref 59, .int 11] [] _ from S_X11_size_0 _ _ _ ?_)
      simp +decide (disch := omega) only [↓EQA, CEA, LIA, NIA, Nat.lt_irrefl, Option.toList_some, Option.toList_none, List.cons_append, List.nil_append, true_and, and_true, Nat.reduceAdd, Nat.reduceLeDiff, not_true_eq_false, not_false_eq_true, if_true, if_false, ite_true, ite_false, Int32.reduceLT, ite_not, eq_self, or_true, true_or, ite_self, reduceIte, B_X11_size_0, hwz, z14']
      refine u_in ?_
      rw [show bI (¬ (11 : Int32) < 1 ∧ ¬ (10 : Int32) < 11) = 0 by decide]
      simp +decide (disch := omega) only [↓EQA, CEA, LIA, NIA, Nat.lt_irrefl, Option.toList_some, Option.toList_none, List.cons_append, List.nil_append, true_and, and_true, Nat.reduceAdd, Nat.reduceLeDiff, not_true_eq_false, not_false_eq_true, if_true, if_false, ite_true, ite_false, Int32.reduceLT, ite_not, eq_self, or_true, true_or, ite_self, reduceIte, z20, B_X11_size_J1, B_X11_size_J2]
      exact hK _ hIt
    · intro Q hQ
      refine Cl_of k_X10_size.1 (Nat.le_of_ble_eq_true rfl) (show Wp m_X10_size _ 0 _ 0 [.ref 0, .int 12] [] _ from S_X10_size_0 _ _ _ ?_)
      simp +decide (disch := omega) only [↓EQA, CEA, LIA, NIA, Nat.lt_irrefl, Option.toList_some, Option.toList_none, List.cons_append, List.nil_append, true_and, and_true, Nat.reduceAdd, Nat.reduceLeDiff, not_true_eq_false, not_false_eq_true, if_true, if_false, ite_true, ite_false, Int32.reduceLT, ite_not, eq_self, or_true, true_or, ite_self, reduceIte, B_X10_size_0, B_X10_size_J1, B_X10_size_J2, i4]
      refine hQ (nI m) w fun K hK => ?_
      refine Cl_of k_X11_size.1 (Nat.le_of_ble_eq_true rfl) (show Wp m_X11_size _ 0 _ 0 [.ref 59, .int 12] [] _ from S_X11_size_0 _ _ _ ?_)
      simp +decide (disch := omega) only [↓EQA, CEA, LIA, NIA, Nat.lt_irrefl, Option.toList_some, Option.toList_none, List.cons_append, List.nil_append, true_and, and_true, Nat.reduceAdd, Nat.reduceLeDiff, not_true_eq_false, not_false_eq_true, if_true, if_false, ite_true, ite_false, Int32.reduceLT, ite_not, eq_self, or_true, true_or, ite_self, reduceIte, B_X11_size_0, hwz, z14']
      refine u_in ?_
      rw [show bI (¬ (12 : Int32) < 1 ∧ ¬ (10 : Int32) < 12) = 0 by decide]
      simp +decide (disch := omega) only [↓EQA, CEA, LIA, NIA, Nat.lt_irrefl, Option.toList_some, Option.toList_none, List.cons_append, List.nil_append, true_and, and_true, Nat.reduceAdd, Nat.reduceLeDiff, not_true_eq_false, not_false_eq_true, if_true, if_false, ite_true, ite_false, Int32.reduceLT, ite_not, eq_self, or_true, true_or, ite_self, reduceIte, z21, B_X11_size_J1, B_X11_size_J2]
      exact hK _ hIt
    · intro Q hQ
      refine Cl_of k_X10_size.1 (Nat.le_of_ble_eq_true rfl) (show Wp m_X10_size _ 0 _ 0 [.ref 0, .int 13] [] _ from S_X10_size_0 _ _ _ ?_)
      simp +decide (disch := omega) only [↓EQA, CEA, LIA, NIA, Nat.lt_irrefl, Option.toList_some, Option.toList_none, List.cons_append, List.nil_append, true_and, and_true, Nat.reduceAdd, Nat.reduceLeDiff, not_true_eq_false, not_false_eq_true, if_true, if_false, ite_true, ite_false, Int32.reduceLT, ite_not, eq_self, or_true, true_or, ite_self, reduceIte, B_X10_size_0, B_X10_size_J1, B_X10_size_J2, t2]
      refine hQ (nI t) w fun K hK => ?_
      refine Cl_of k_X11_size.1 (Nat.le_of_ble_eq_true rfl) (show Wp m_X11_size _ 0 _ 0 [.ref 59, .int 13] [] _ from S_X11_size_0 _ _ _ ?_)
      simp +decide (disch := omega) only [↓EQA, CEA, LIA, NIA, Nat.lt_irrefl, Option.toList_some, Option.toList_none, List.cons_append, List.nil_append, true_and, and_true, Nat.reduceAdd, Nat.reduceLeDiff, not_true_eq_false, not_false_eq_true, if_true, if_false, ite_true, ite_false, Int32.reduceLT, ite_not, eq_self, or_true, true_or, ite_self, reduceIte, B_X11_size_0, hwz, z2]
      exact hK _ hIt
    · have e0 : (x = 0) = False := eq_false fun z => g (by rw [z]; exact ⟨by decide, by decide⟩)
      have e11 : (x = 11) = False := eq_false fun z => g (by rw [z]; exact ⟨by decide, by decide⟩)
      have e12 : (x = 12) = False := eq_false fun z => g (by rw [z]; exact ⟨by decide, by decide⟩)
      have e13 : (x = 13) = False := eq_false fun z => g (by rw [z]; exact ⟨by decide, by decide⟩)
      have hr : ∀ K : Option Value → Mem → Prop, (∀ w2, INV w2 → K (some (.int (-1))) w2) → Cl (d + 20) m_X11_size [.ref 59, .int x] w K := by
        intro K hK
        refine Cl_of k_X11_size.1 (Nat.le_of_ble_eq_true rfl) (show Wp m_X11_size _ 0 _ 0 [.ref 59, .int x] [] _ from S_X11_size_0 _ _ _ ?_)
        have gn : ¬ (¬ x < 1 ∧ ¬ 10 < x) := fun z => by
          obtain ⟨k, hk, rfl⟩ := nI_of (show ¬ x < 0 from fun y => z.1 (Int32.lt_trans y (by decide)))
          rcases Nat.lt_or_ge 10 k with y | y
          · exact z.2 (nI_lt (a := 10) y hk)
          · exact g ⟨nI_pos (by omega), nI_lt (b := 14) (by omega) (by decide)⟩
        simp +decide (disch := omega) only [↓EQA, CEA, LIA, NIA, Nat.lt_irrefl, Option.toList_some, Option.toList_none, List.cons_append, List.nil_append, true_and, and_true, Nat.reduceAdd, Nat.reduceLeDiff, not_true_eq_false, not_false_eq_true, if_true, if_false, ite_true, ite_false, Int32.reduceLT, ite_not, eq_self, or_true, true_or, ite_self, reduceIte, B_X11_size_0, hwz, e13, z14', e0]
        refine u_in ?_
        rw [show bI (¬ x < 1 ∧ ¬ 10 < x) = 0 from if_neg gn]
        simp +decide (disch := omega) only [↓EQA, CEA, LIA, NIA, Nat.lt_irrefl, Option.toList_some, Option.toList_none, List.cons_append, List.nil_append, true_and, and_true, Nat.reduceAdd, Nat.reduceLeDiff, not_true_eq_false, not_false_eq_true, if_true, if_false, ite_true, ite_false, Int32.reduceLT, ite_not, eq_self, or_true, true_or, ite_self, reduceIte, e11, e12, B_X11_size_J1, B_X11_size_J2]
        exact hK _ hIt
      have gl : ¬ (0 < x ∧ x < 11) := fun z => g ⟨fun y => Int32.lt_irrefl (Int32.lt_trans y z.1), Int32.lt_trans z.2 (by decide)⟩
      intro Q hQ
      refine Cl_of k_X10_size.1 (Nat.le_of_ble_eq_true rfl) (show Wp m_X10_size _ 0 _ 0 [.ref 0, .int x] [] _ from S_X10_size_0 _ _ _ ?_)
      have hc : B_X10_size_0 (d + 19) 0 Q [.ref 0, .int x] [] w := by
        simp +decide (disch := omega) only [↓EQA, CEA, LIA, NIA, Nat.lt_irrefl, Option.toList_some, Option.toList_none, List.cons_append, List.nil_append, true_and, and_true, Nat.reduceAdd, Nat.reduceLeDiff, not_true_eq_false, not_false_eq_true, if_true, if_false, ite_true, ite_false, Int32.reduceLT, ite_not, eq_self, or_true, true_or, ite_self, reduceIte, B_X10_size_0, e0, e11, e12, e13, B_X10_size_J1, B_X10_size_J2]
        refine Decidable.byCases (p := 0 < x) (fun q1 => ?_) (fun q1 => ?_)
        · rw [if_pos q1, if_neg (fun z => gl ⟨q1, z⟩)]; exact hQ (-1) w fun K hK => hr K hK
        · rw [if_neg q1]; exact hQ (-1) w fun K hK => hr K hK
      exact hc
  · have z14' : wz.1 59 14 = 0 := by rw [z14]; exact if_neg hH
    obtain ⟨un1, un2⟩ : UNT T D := hP.elim (fun z => absurd z.1 hH) fun z => z.2
    have hn0 := (hnm (by omega)).1
    have hm0 := (hnm (by omega)).2
    have hd7 : D 7 = 0 := un2 7 (by decide)
    rcases hx with rfl | ⟨j, j1, j2, rfl⟩ | rfl | rfl | rfl | g
    · intro Q hQ
      refine Cl_of k_X10_size.1 (Nat.le_of_ble_eq_true rfl) (show Wp m_X10_size _ 0 _ 0 [.ref 0, .int 0] [] _ from S_X10_size_0 _ _ _ ?_)
      simp +decide (disch := omega) only [↓EQA, CEA, LIA, NIA, Nat.lt_irrefl, Option.toList_some, Option.toList_none, List.cons_append, List.nil_append, true_and, and_true, Nat.reduceAdd, Nat.reduceLeDiff, not_true_eq_false, not_false_eq_true, if_true, if_false, ite_true, ite_false, Int32.reduceLT, ite_not, eq_self, or_true, true_or, ite_self, reduceIte, B_X10_size_0, B_X10_size_J1, B_X10_size_J2, c2.2.1]
      refine hQ (nI (D 7)) w fun K hK => ?_
      refine Cl_of k_X11_size.1 (Nat.le_of_ble_eq_true rfl) (show Wp m_X11_size _ 0 _ 0 [.ref 59, .int 0] [] _ from S_X11_size_0 _ _ _ ?_)
      simp +decide (disch := omega) only [↓EQA, CEA, LIA, NIA, Nat.lt_irrefl, Option.toList_some, Option.toList_none, List.cons_append, List.nil_append, true_and, and_true, Nat.reduceAdd, Nat.reduceLeDiff, not_true_eq_false, not_false_eq_true, if_true, if_false, ite_true, ite_false, Int32.reduceLT, ite_not, eq_self, or_true, true_or, ite_self, reduceIte, B_X11_size_0, hwz, z14']
      refine u_in ?_
      rw [show bI (¬ (0 : Int32) < 0 ∧ ¬ (12 : Int32) < 0) = 1 by decide]
      simp +decide (disch := omega) only [↓EQA, CEA, LIA, NIA, Nat.lt_irrefl, Option.toList_some, Option.toList_none, List.cons_append, List.nil_append, true_and, and_true, Nat.reduceAdd, Nat.reduceLeDiff, not_true_eq_false, not_false_eq_true, if_true, if_false, ite_true, ite_false, Int32.reduceLT, ite_not, eq_self, or_true, true_or, ite_self, reduceIte, B_X11_size_J1, B_X11_size_J2]
      rw [hd7] at hK
      exact hK _ hIt
    · have e13 : (nI j = 13) = False := eq_false fun z => by have := (nI_eq (b := 13) (by omega) (by decide)).mp z; omega
      have e12 : (nI j = 12) = False := eq_false fun z => by have := (nI_eq (b := 12) (by omega) (by decide)).mp z; omega
      have e11 : (nI j = 11) = False := eq_false fun z => by have := (nI_eq (b := 11) (by omega) (by decide)).mp z; omega
      have e0 : (nI j = 0) = False := eq_false fun z => by have := (nI_eq (b := 0) (by omega) (by decide)).mp z; omega
      have p0 : (0 < nI j) = True := eq_true (nI_lt (a := 0) (by omega) (by omega))
      have p11 : (nI j < 11) = True := eq_true (nI_lt (b := 11) (by omega) (by decide))
      have j11 : j < 11 := by omega
      intro Q hQ
      refine Cl_of k_X10_size.1 (Nat.le_of_ble_eq_true rfl) (show Wp m_X10_size _ 0 _ 0 [.ref 0, .int (nI j)] [] _ from S_X10_size_0 _ _ _ ?_)
      simp +decide (disch := omega) only [↓EQA, CEA, LIA, NIA, Nat.lt_irrefl, Option.toList_some, Option.toList_none, List.cons_append, List.nil_append, true_and, and_true, Nat.reduceAdd, Nat.reduceLeDiff, not_true_eq_false, not_false_eq_true, if_true, if_false, ite_true, ite_false, Int32.reduceLT, ite_not, eq_self, or_true, true_or, ite_self, reduceIte, B_X10_size_0, B_X10_size_J1, B_X10_size_J2, e13, e12, e11, e0, p0, p11, j11, c1]
      refine hQ (T 0 j) w fun K hK => ?_
      rw [un1 j (by omega)] at hK
      refine Cl_of k_X11_size.1 (Nat.le_of_ble_eq_true rfl) (show Wp m_X11_size _ 0 _ 0 [.ref 59, .int (nI j)] [] _ from S_X11_size_0 _ _ _ ?_)
      simp +decide (disch := omega) only [↓EQA, CEA, LIA, NIA, Nat.lt_irrefl, Option.toList_some, Option.toList_none, List.cons_append, List.nil_append, true_and, and_true, Nat.reduceAdd, Nat.reduceLeDiff, not_true_eq_false, not_false_eq_true, if_true, if_false, ite_true, ite_false, Int32.reduceLT, ite_not, eq_self, or_true, true_or, ite_self, reduceIte, B_X11_size_0, hwz, e13, z14']
      refine u_in ?_
      rw [show bI (¬ nI j < 0 ∧ ¬ 12 < nI j) = 1 from if_pos ⟨nI_pos (by omega), show ¬ nI 12 < nI j from nI_nlt (by omega) (by decide)⟩]
      simp +decide (disch := omega) only [↓EQA, CEA, LIA, NIA, Nat.lt_irrefl, Option.toList_some, Option.toList_none, List.cons_append, List.nil_append, true_and, and_true, Nat.reduceAdd, Nat.reduceLeDiff, not_true_eq_false, not_false_eq_true, if_true, if_false, ite_true, ite_false, Int32.reduceLT, ite_not, eq_self, or_true, true_or, ite_self, reduceIte, B_X11_size_J1, B_X11_size_J2]
      exact hK _ hIt
    · intro Q hQ
      refine Cl_of k_X10_size.1 (Nat.le_of_ble_eq_true rfl) (show Wp m_X10_size _ 0 _ 0 [.ref 0, .int 11] [] _ from S_X10_size_0 _ _ _ ?_)
      simp +decide (disch := omega) only [↓EQA, CEA, LIA, NIA, Nat.lt_irrefl, Option.toList_some, Option.toList_none, List.cons_append, List.nil_append, true_and, and_true, Nat.reduceAdd, Nat.reduceLeDiff, not_true_eq_false, not_false_eq_true, if_true, if_false, ite_true, ite_false, Int32.reduceLT, ite_not, eq_self, or_true, true_or, ite_self, reduceIte, B_X10_size_0, B_X10_size_J1, B_X10_size_J2, i3]
      refine hQ (nI n) w fun K hK => ?_
      refine Cl_of k_X11_size.1 (Nat.le_of_ble_eq_true rfl) (show Wp m_X11_size _ 0 _ 0 [.ref 59, .int 11] [] _ from S_X11_size_0 _ _ _ ?_)
      simp +decide (disch := omega) only [↓EQA, CEA, LIA, NIA, Nat.lt_irrefl, Option.toList_some, Option.toList_none, List.cons_append, List.nil_append, true_and, and_true, Nat.reduceAdd, Nat.reduceLeDiff, not_true_eq_false, not_false_eq_true, if_true, if_false, ite_true, ite_false, Int32.reduceLT, ite_not, eq_self, or_true, true_or, ite_self, reduceIte, B_X11_size_0, hwz, z14']
      refine u_in ?_
      rw [show bI (¬ (11 : Int32) < 0 ∧ ¬ (12 : Int32) < 11) = 1 by decide]
      simp +decide (disch := omega) only [↓EQA, CEA, LIA, NIA, Nat.lt_irrefl, Option.toList_some, Option.toList_none, List.cons_append, List.nil_append, true_and, and_true, Nat.reduceAdd, Nat.reduceLeDiff, not_true_eq_false, not_false_eq_true, if_true, if_false, ite_true, ite_false, Int32.reduceLT, ite_not, eq_self, or_true, true_or, ite_self, reduceIte, B_X11_size_J1, B_X11_size_J2]
      rw [hn0] at hK
      exact hK _ hIt
    · intro Q hQ
      refine Cl_of k_X10_size.1 (Nat.le_of_ble_eq_true rfl) (show Wp m_X10_size _ 0 _ 0 [.ref 0, .int 12] [] _ from S_X10_size_0 _ _ _ ?_)
      simp +decide (disch := omega) only [↓EQA, CEA, LIA, NIA, Nat.lt_irrefl, Option.toList_some, Option.toList_none, List.cons_append, List.nil_append, true_and, and_true, Nat.reduceAdd, Nat.reduceLeDiff, not_true_eq_false, not_false_eq_true, if_true, if_false, ite_true, ite_false, Int32.reduceLT, ite_not, eq_self, or_true, true_or, ite_self, reduceIte, B_X10_size_0, B_X10_size_J1, B_X10_size_J2, i4]
      refine hQ (nI m) w fun K hK => ?_
      refine Cl_of k_X11_size.1 (Nat.le_of_ble_eq_true rfl) (show Wp m_X11_size _ 0 _ 0 [.ref 59, .int 12] [] _ from S_X11_size_0 _ _ _ ?_)
      simp +decide (disch := omega) only [↓EQA, CEA, LIA, NIA, Nat.lt_irrefl, Option.toList_some, Option.toList_none, List.cons_append, List.nil_append, true_and, and_true, Nat.reduceAdd, Nat.reduceLeDiff, not_true_eq_false, not_false_eq_true, if_true, if_false, ite_true, ite_false, Int32.reduceLT, ite_not, eq_self, or_true, true_or, ite_self, reduceIte, B_X11_size_0, hwz, z14']
      refine u_in ?_
      rw [show bI (¬ (12 : Int32) < 0 ∧ ¬ (12 : Int32) < 12) = 1 by decide]
      simp +decide (disch := omega) only [↓EQA, CEA, LIA, NIA, Nat.lt_irrefl, Option.toList_some, Option.toList_none, List.cons_append, List.nil_append, true_and, and_true, Nat.reduceAdd, Nat.reduceLeDiff, not_true_eq_false, not_false_eq_true, if_true, if_false, ite_true, ite_false, Int32.reduceLT, ite_not, eq_self, or_true, true_or, ite_self, reduceIte, B_X11_size_J1, B_X11_size_J2]
      rw [hm0] at hK
      exact hK _ hIt
    · intro Q hQ
      refine Cl_of k_X10_size.1 (Nat.le_of_ble_eq_true rfl) (show Wp m_X10_size _ 0 _ 0 [.ref 0, .int 13] [] _ from S_X10_size_0 _ _ _ ?_)
      simp +decide (disch := omega) only [↓EQA, CEA, LIA, NIA, Nat.lt_irrefl, Option.toList_some, Option.toList_none, List.cons_append, List.nil_append, true_and, and_true, Nat.reduceAdd, Nat.reduceLeDiff, not_true_eq_false, not_false_eq_true, if_true, if_false, ite_true, ite_false, Int32.reduceLT, ite_not, eq_self, or_true, true_or, ite_self, reduceIte, B_X10_size_0, B_X10_size_J1, B_X10_size_J2, t2]
      refine hQ (nI t) w fun K hK => ?_
      refine Cl_of k_X11_size.1 (Nat.le_of_ble_eq_true rfl) (show Wp m_X11_size _ 0 _ 0 [.ref 59, .int 13] [] _ from S_X11_size_0 _ _ _ ?_)
      simp +decide (disch := omega) only [↓EQA, CEA, LIA, NIA, Nat.lt_irrefl, Option.toList_some, Option.toList_none, List.cons_append, List.nil_append, true_and, and_true, Nat.reduceAdd, Nat.reduceLeDiff, not_true_eq_false, not_false_eq_true, if_true, if_false, ite_true, ite_false, Int32.reduceLT, ite_not, eq_self, or_true, true_or, ite_self, reduceIte, B_X11_size_0, hwz, z2]
      exact hK _ hIt
    · have e0 : (x = 0) = False := eq_false fun z => g (by rw [z]; exact ⟨by decide, by decide⟩)
      have e11 : (x = 11) = False := eq_false fun z => g (by rw [z]; exact ⟨by decide, by decide⟩)
      have e12 : (x = 12) = False := eq_false fun z => g (by rw [z]; exact ⟨by decide, by decide⟩)
      have e13 : (x = 13) = False := eq_false fun z => g (by rw [z]; exact ⟨by decide, by decide⟩)
      have hr : ∀ K : Option Value → Mem → Prop, (∀ w2, INV w2 → K (some (.int (-1))) w2) → Cl (d + 20) m_X11_size [.ref 59, .int x] w K := by
        intro K hK
        refine Cl_of k_X11_size.1 (Nat.le_of_ble_eq_true rfl) (show Wp m_X11_size _ 0 _ 0 [.ref 59, .int x] [] _ from S_X11_size_0 _ _ _ ?_)
        have gn : ¬ (¬ x < 0 ∧ ¬ 12 < x) := fun z => by
          obtain ⟨k, hk, rfl⟩ := nI_of z.1
          rcases Nat.lt_or_ge 12 k with y | y
          · exact z.2 (nI_lt (a := 12) y hk)
          · exact g ⟨nI_pos (by omega), nI_lt (b := 14) (by omega) (by decide)⟩
        simp +decide (disch := omega) only [↓EQA, CEA, LIA, NIA, Nat.lt_irrefl, Option.toList_some, Option.toList_none, List.cons_append, List.nil_append, true_and, and_true, Nat.reduceAdd, Nat.reduceLeDiff, not_true_eq_false, not_false_eq_true, if_true, if_false, ite_true, ite_false, Int32.reduceLT, ite_not, eq_self, or_true, true_or, ite_self, reduceIte, B_X11_size_0, hwz, e13, z14']
        refine u_in ?_
        rw [show bI (¬ x < 0 ∧ ¬ 12 < x) = 0 from if_neg gn]
        simp +decide (disch := omega) only [↓EQA, CEA, LIA, NIA, Nat.lt_irrefl, Option.toList_some, Option.toList_none, List.cons_append, List.nil_append, true_and, and_true, Nat.reduceAdd, Nat.reduceLeDiff, not_true_eq_false, not_false_eq_true, if_true, if_false, ite_true, ite_false, Int32.reduceLT, ite_not, eq_self, or_true, true_or, ite_self, reduceIte, B_X11_size_J1, B_X11_size_J2]
        exact hK _ hIt
      have gl : ¬ (0 < x ∧ x < 11) := fun z => g ⟨fun y => Int32.lt_irrefl (Int32.lt_trans y z.1), Int32.lt_trans z.2 (by decide)⟩
      intro Q hQ
      refine Cl_of k_X10_size.1 (Nat.le_of_ble_eq_true rfl) (show Wp m_X10_size _ 0 _ 0 [.ref 0, .int x] [] _ from S_X10_size_0 _ _ _ ?_)
      have hc : B_X10_size_0 (d + 19) 0 Q [.ref 0, .int x] [] w := by
        simp +decide (disch := omega) only [↓EQA, CEA, LIA, NIA, Nat.lt_irrefl, Option.toList_some, Option.toList_none, List.cons_append, List.nil_append, true_and, and_true, Nat.reduceAdd, Nat.reduceLeDiff, not_true_eq_false, not_false_eq_true, if_true, if_false, ite_true, ite_false, Int32.reduceLT, ite_not, eq_self, or_true, true_or, ite_self, reduceIte, B_X10_size_0, e0, e11, e12, e13, B_X10_size_J1, B_X10_size_J2]
        refine Decidable.byCases (p := 0 < x) (fun q1 => ?_) (fun q1 => ?_)
        · rw [if_pos q1, if_neg (fun z => gl ⟨q1, z⟩)]; exact hQ (-1) w fun K hK => hr K hK
        · rw [if_neg q1]; exact hQ (-1) w fun K hK => hr K hK
      exact hc
end Size
