/-! ===== the words of the language ===== -/
def wd (i j : Nat) : Nat := ((sbyt i).getD j 0).toNatClampNeg
def wln (i : Nat) : Nat := (sbyt i).length
theorem wd_all : ∀ i : Fin 24, wln i.val ≤ 8 ∧ 1 ≤ wln i.val ∧ ∀ j : Fin 8, j.val < wln i.val → (sbyt i.val).getD j.val 0 = nI (wd i.val j.val) ∧ wd i.val j.val < 128 := by decide +kernel
theorem c255 : ∀ b : Fin 128, ((nI b.val &&& 255).toUInt32 % 65536).toInt32 = nI b.val := by decide +kernel
theorem narC : ∀ b : Fin 128, vp_nar .char (nI b.val) = nI b.val := by decide +kernel
section Words
variable {d : Nat} {w : Mem} {Q : Option Value → Mem → Prop} {i j : Nat}
theorem isTk (hi : i < 24) : isT (1000 + i) := ⟨i, Nat.lt_trans hi (by decide), rfl⟩
theorem k1000 (i : Nat) : 1000 + (1000 + i) - 1000 = 1000 + i := Nat.add_sub_cancel_left ..
theorem k2000 (i : Nat) : 1000 + (1000 + i) - 2000 = i := by rw [← Nat.add_assoc]; exact Nat.add_sub_cancel_left ..
theorem x_coder (hi : i < 24) (hQ : Q (some (.int 0)) w) : Cl (d + 1) m_J0_coder_7d493 [.ref (1000 + i)] w Q := by
  have hT := isTk hi
  refine Cl_of k_J0_coder_7d493.1 (Nat.le_of_ble_eq_true rfl) (show Wp m_J0_coder_7d493 _ 0 _ 0 [.ref (1000 + i)] [] _ from S_J0_coder_7d493_0 _ _ _ ?_)
  simp +decide (disch := omega) only [↓EQA, CEA, LIA, NIA, Nat.lt_irrefl, Option.toList_some, Option.toList_none, List.cons_append, List.nil_append, true_and, and_true, Nat.reduceAdd, Nat.reduceLeDiff, not_true_eq_false, not_false_eq_true, if_true, if_false, ite_true, ite_false, Int32.reduceLT, ite_not, eq_self, or_true, true_or, ite_self, reduceIte, B_J0_coder_7d493_0, hT, B_J0_coder_7d493_J1]
  exact ⟨rfl, hQ⟩
theorem x_isLatin1 (hi : i < 24) (hQ : Q (some (.int 1)) w) : Cl (d + 1) m_J0_isLatin1_aae02 [.ref (1000 + i)] w Q := by
  have hT := isTk hi
  refine Cl_of k_J0_isLatin1_aae02.1 (Nat.le_of_ble_eq_true rfl) (show Wp m_J0_isLatin1_aae02 _ 0 _ 0 [.ref (1000 + i)] [] _ from S_J0_isLatin1_aae02_0 _ _ _ ?_)
  simp +decide (disch := omega) only [↓EQA, CEA, LIA, NIA, Nat.lt_irrefl, Option.toList_some, Option.toList_none, List.cons_append, List.nil_append, true_and, and_true, Nat.reduceAdd, Nat.reduceLeDiff, not_true_eq_false, not_false_eq_true, if_true, if_false, ite_true, ite_false, Int32.reduceLT, ite_not, eq_self, or_true, true_or, ite_self, reduceIte, B_J0_isLatin1_aae02_0, hT, B_J0_isLatin1_aae02_J1, B_J0_isLatin1_aae02_J2]
  exact hQ
theorem x_length (hi : i < 24) (hQ : Q (some (.int (nI (wln i)))) w) : Cl (d + 2) m_J0_length_8abf5 [.ref (1000 + i)] w Q := by
  have hT := isTk hi
  have e1 := k1000 i
  have e2 := k2000 i
  have hw := wd_all ⟨i, hi⟩
  refine Cl_of k_J0_length_8abf5.1 (Nat.le_of_ble_eq_true rfl) (show Wp m_J0_length_8abf5 _ 0 _ 0 [.ref (1000 + i)] [] _ from S_J0_length_8abf5_0 _ _ _ ?_)
  simp +decide (disch := omega) only [↓EQA, CEA, LIA, NIA, Nat.lt_irrefl, Option.toList_some, Option.toList_none, List.cons_append, List.nil_append, true_and, and_true, Nat.reduceAdd, Nat.reduceLeDiff, not_true_eq_false, not_false_eq_true, if_true, if_false, ite_true, ite_false, Int32.reduceLT, ite_not, eq_self, or_true, true_or, ite_self, reduceIte, B_J0_length_8abf5_0, hT, e1, e2]
  refine x_coder hi ?_
  simp +decide (disch := omega) only [↓EQA, CEA, LIA, NIA, Nat.lt_irrefl, Option.toList_some, Option.toList_none, List.cons_append, List.nil_append, true_and, and_true, Nat.reduceAdd, Nat.reduceLeDiff, not_true_eq_false, not_false_eq_true, if_true, if_false, ite_true, ite_false, Int32.reduceLT, ite_not, eq_self, or_true, true_or, ite_self, reduceIte]
  have e3 : nI (wln i) >>> ((0 : Int32) &&& 31) = nI (wln i) := by
    have : ∀ k : Fin 9, nI k.val >>> ((0 : Int32) &&& 31) = nI k.val := by decide +kernel
    exact this ⟨wln i, by have h8 : wln i ≤ 8 := hw.1; omega⟩
  rw [show Int32.ofNat (sbyt i).length = nI (wln i) from rfl, e3]
  exact hQ
theorem x_checkIndex3 {a b : Nat} (hab : a < b) (hb : b < 2 ^ 30) (hQ : Q (some (.int (nI a))) w) : Cl (d + 1) m_J3_checkIndex_8e157 [.int (nI a), .int (nI b), .ref 3000] w Q := by
  have e0 : (nI a < 0) = False := neg_f (by omega)
  refine Cl_of k_J3_checkIndex_8e157.1 (Nat.le_of_ble_eq_true rfl) (show Wp m_J3_checkIndex_8e157 _ 0 _ 0 [.int (nI a), .int (nI b), .ref 3000] [] _ from S_J3_checkIndex_8e157_0 _ _ _ ?_)
  simp +decide (disch := omega) only [↓EQA, CEA, LIA, NIA, Nat.lt_irrefl, Option.toList_some, Option.toList_none, List.cons_append, List.nil_append, true_and, and_true, Nat.reduceAdd, Nat.reduceLeDiff, not_true_eq_false, not_false_eq_true, if_true, if_false, ite_true, ite_false, Int32.reduceLT, ite_not, eq_self, or_true, true_or, ite_self, reduceIte, B_J3_checkIndex_8e157_0, e0, hab]
  exact hQ
theorem x_checkIndex {a b : Nat} (hab : a < b) (hb : b < 2 ^ 30) (hQ : Q none w) : Cl (d + 2) m_J0_checkIndex_df160 [.int (nI a), .int (nI b)] w Q := by
  refine Cl_of k_J0_checkIndex_df160.1 (Nat.le_of_ble_eq_true rfl) (show Wp m_J0_checkIndex_df160 _ 0 _ 0 [.int (nI a), .int (nI b)] [] _ from S_J0_checkIndex_df160_0 _ _ _ ?_)
  simp +decide (disch := omega) only [↓EQA, CEA, LIA, NIA, Nat.lt_irrefl, Option.toList_some, Option.toList_none, List.cons_append, List.nil_append, true_and, and_true, Nat.reduceAdd, Nat.reduceLeDiff, not_true_eq_false, not_false_eq_true, if_true, if_false, ite_true, ite_false, Int32.reduceLT, ite_not, eq_self, or_true, true_or, ite_self, reduceIte, B_J0_checkIndex_df160_0]
  refine x_checkIndex3 hab hb ?_
  simp +decide (disch := omega) only [↓EQA, CEA, LIA, NIA, Nat.lt_irrefl, Option.toList_some, Option.toList_none, List.cons_append, List.nil_append, true_and, and_true, Nat.reduceAdd, Nat.reduceLeDiff, not_true_eq_false, not_false_eq_true, if_true, if_false, ite_true, ite_false, Int32.reduceLT, ite_not, eq_self, or_true, true_or, ite_self, reduceIte]
  exact hQ
theorem x_charAt (hi : i < 24) (hj : j < wln i) (hQ : Q (some (.int (nI (wd i j)))) w) : Cl (d + 4) m_J0_charAt_5068e [.ref (1000 + i), .int (nI j)] w Q := by
  have hT := isTk hi
  have hw := wd_all ⟨i, hi⟩
  have hl : wln i ≤ 8 := hw.1
  have hj8 : j < 8 := by omega
  obtain ⟨h1, h2⟩ := hw.2.2 ⟨j, hj8⟩ hj
  have e1 := k1000 i
  have e2 := k2000 i
  refine Cl_of k_J0_charAt_5068e.1 (Nat.le_of_ble_eq_true rfl) (show Wp m_J0_charAt_5068e _ 0 _ 0 [.ref (1000 + i), .int (nI j)] [] _ from S_J0_charAt_5068e_0 _ _ _ ?_)
  simp +decide (disch := omega) only [↓EQA, CEA, LIA, NIA, Nat.lt_irrefl, Option.toList_some, Option.toList_none, List.cons_append, List.nil_append, true_and, and_true, Nat.reduceAdd, Nat.reduceLeDiff, not_true_eq_false, not_false_eq_true, if_true, if_false, ite_true, ite_false, Int32.reduceLT, ite_not, eq_self, or_true, true_or, ite_self, reduceIte, B_J0_charAt_5068e_0, hT]
  refine x_isLatin1 hi ?_
  simp +decide (disch := omega) only [↓EQA, CEA, LIA, NIA, Nat.lt_irrefl, Option.toList_some, Option.toList_none, List.cons_append, List.nil_append, true_and, and_true, Nat.reduceAdd, Nat.reduceLeDiff, not_true_eq_false, not_false_eq_true, if_true, if_false, ite_true, ite_false, Int32.reduceLT, ite_not, eq_self, or_true, true_or, ite_self, reduceIte, hT]
  refine Cl_of k_J1_charAt_3b067.1 (Nat.le_of_ble_eq_true rfl) (show Wp m_J1_charAt_3b067 _ 0 _ 0 [.ref (1000 + (1000 + i)), .int (nI j)] [] _ from S_J1_charAt_3b067_0 _ _ _ ?_)
  simp +decide (disch := omega) only [↓EQA, CEA, LIA, NIA, Nat.lt_irrefl, Option.toList_some, Option.toList_none, List.cons_append, List.nil_append, true_and, and_true, Nat.reduceAdd, Nat.reduceLeDiff, not_true_eq_false, not_false_eq_true, if_true, if_false, ite_true, ite_false, Int32.reduceLT, ite_not, eq_self, or_true, true_or, ite_self, reduceIte, B_J1_charAt_3b067_0, hT, e1, e2]
  rw [show Int32.ofNat (sbyt i).length = nI (wln i) from rfl]
  refine x_checkIndex hj (by have : wln i ≤ 8 := hl; omega) ?_
  have hv : vp_in (nI j) (sbyt i).length = True := eq_true (vp_in_nI hj (by have : wln i ≤ 8 := hl; show wln i < 2 ^ 31; omega))
  have ht : (nI j).toNatClampNeg = j := tn (by omega)
  simp +decide (disch := omega) only [↓EQA, CEA, LIA, NIA, Nat.lt_irrefl, Option.toList_some, Option.toList_none, List.cons_append, List.nil_append, true_and, and_true, Nat.reduceAdd, Nat.reduceLeDiff, not_true_eq_false, not_false_eq_true, if_true, if_false, ite_true, ite_false, Int32.reduceLT, ite_not, eq_self, or_true, true_or, ite_self, reduceIte, hT, e1, e2, hv, ht]
  have e9 := c255 ⟨wd i j, h2⟩
  have h1' : (sbyt i).getD j 0 = nI (wd i j) := h1
  rw [h1', e9]
  have en : narrow .char (.int (nI (wd i j))) = .int (nI (wd i j)) := by
    have := narC ⟨wd i j, h2⟩
    have e : narrow .char (.int (nI (wd i j))) = .int (vp_nar .char (nI (wd i j))) := rfl
    rw [e]; exact congrArg _ this
  refine ⟨en, ?_⟩
  simp +decide (disch := omega) only [↓EQA, CEA, LIA, NIA, Nat.lt_irrefl, Option.toList_some, Option.toList_none, List.cons_append, List.nil_append, true_and, and_true, Nat.reduceAdd, Nat.reduceLeDiff, not_true_eq_false, not_false_eq_true, if_true, if_false, ite_true, ite_false, Int32.reduceLT, ite_not, eq_self, or_true, true_or, ite_self, reduceIte]
  exact ⟨en, hQ⟩
/-- the token of the sort 1 is the word i -/
def isW (B : Nat → Nat) (τ : Nat × Nat × Nat) (i : Nat) : Prop := τ.2.2 = 1 ∧ τ.2.1 - τ.1 = wln i ∧ ∀ j, j < wln i → B (τ.1 + j) = wd i j
def isWb (B : Nat → Nat) (τ : Nat × Nat × Nat) (i : Nat) : Bool := decide (τ.2.2 = 1) && (decide (τ.2.1 - τ.1 = wln i) && decide (frst (fun j => !decide (B (τ.1 + j) = wd i j)) (wln i) = wln i))
abbrev CTK (w : Mem) (τ : Nat × Nat × Nat) : Prop := w.1 44 2 = nI τ.1 ∧ w.1 44 3 = nI τ.2.1 ∧ w.1 44 4 = nI τ.2.2
abbrev TOKn (n : Nat) (τ : Nat × Nat × Nat) : Prop := τ.1 ≤ τ.2.1 ∧ τ.2.1 ≤ n ∧ τ.2.2 ≤ 4
theorem t_is {B : Nat → Nat} {n : Nat} {τ : Nat × Nat × Nat} (hX : TX w B n) (hC : CTK w τ) (hn : TOKn n τ) (hi : i < 24) (hQ : Q (some (.int (bI (isWb B τ i = true)))) w) : Cl (d + 5) m_X8_is [.ref 44, .ref (1000 + i)] w Q := by
  obtain ⟨x1, x2, x3⟩ := id hX
  obtain ⟨c2, c3, c4⟩ := hC
  obtain ⟨n1, n2, n3⟩ := hn
  have hT := isTk hi
  have hw := wd_all ⟨i, hi⟩
  have hl : wln i ≤ 8 := hw.1
  have e1 : (nI τ.2.2 = 1) = (τ.2.2 = 1) := eq_n (b := 1) (by omega) (by decide)
  have es : nI τ.2.1 - nI τ.1 = nI (τ.2.1 - τ.1) := nI_sub n1
  refine Cl_of k_X8_is.1 (Nat.le_of_ble_eq_true rfl) (show Wp m_X8_is _ 0 _ 0 [.ref 44, .ref (1000 + i), .null] [] _ from S_X8_is_0 _ _ _ ?_)
  by_cases q1 : τ.2.2 = 1
  · simp +decide (disch := omega) only [↓EQA, CEA, LIA, NIA, Nat.lt_irrefl, Option.toList_some, Option.toList_none, List.cons_append, List.nil_append, true_and, and_true, Nat.reduceAdd, Nat.reduceLeDiff, not_true_eq_false, not_false_eq_true, if_true, if_false, ite_true, ite_false, Int32.reduceLT, ite_not, eq_self, or_true, true_or, ite_self, reduceIte, B_X8_is_0, c2, c3, c4, e1, q1, es, hT]
    refine x_length hi ?_
    have e2 : (nI (τ.2.1 - τ.1) = nI (wln i)) = (τ.2.1 - τ.1 = wln i) := eq_n (by omega) (by omega)
    simp +decide (disch := omega) only [↓EQA, CEA, LIA, NIA, Nat.lt_irrefl, Option.toList_some, Option.toList_none, List.cons_append, List.nil_append, true_and, and_true, Nat.reduceAdd, Nat.reduceLeDiff, not_true_eq_false, not_false_eq_true, if_true, if_false, ite_true, ite_false, Int32.reduceLT, ite_not, eq_self, or_true, true_or, ite_self, reduceIte, e2]
    by_cases q2 : τ.2.1 - τ.1 = wln i
    · rw [if_pos q2]
      have hQ2 : isWb B τ i = decide (frst (fun j => !decide (B (τ.1 + j) = wd i j)) (wln i) = wln i) := by unfold isWb; simp [q1, q2]
      rw [hQ2] at hQ
      refine frst_loop (p := fun j => !decide (B (τ.1 + j) = wd i j)) (n := wln i) (fun j => Wp m_X8_is (d + 4) 0 Q 28 [.ref 44, .ref (1000 + i), .int (nI j)] [] w) ?_ ?_ ?_
      · intro j hj hp he
        have hp2 : ¬ B (τ.1 + j) = wd i j := by simpa using hp
        have h2 := (hw.2.2 ⟨j, by omega⟩ hj).2
        have hb := x3 (τ.1 + j)
        have h900 : τ.1 + j < 900 := by omega
        rw [he, show decide (j = wln i) = false from decide_eq_false (by omega)] at hQ
        refine S_X8_is_L1 _ _ _ ?_
        simp +decide (disch := omega) only [↓EQA, CEA, LIA, NIA, Nat.lt_irrefl, Option.toList_some, Option.toList_none, List.cons_append, List.nil_append, true_and, and_true, Nat.reduceAdd, Nat.reduceLeDiff, not_true_eq_false, not_false_eq_true, if_true, if_false, ite_true, ite_false, Int32.reduceLT, ite_not, eq_self, or_true, true_or, ite_self, reduceIte, B_X8_is_L1, hT]
        refine x_length hi ?_
        have e5 : (sbt (B (τ.1 + j)) = nI (wd i j)) = False := by rw [sbt_eq hb h2]; exact eq_false hp2
        simp +decide (disch := omega) only [↓EQA, CEA, LIA, NIA, Nat.lt_irrefl, Option.toList_some, Option.toList_none, List.cons_append, List.nil_append, true_and, and_true, Nat.reduceAdd, Nat.reduceLeDiff, not_true_eq_false, not_false_eq_true, if_true, if_false, ite_true, ite_false, Int32.reduceLT, ite_not, eq_self, or_true, true_or, ite_self, reduceIte, hj, c2, nI_add, h900, x1 (τ.1 + j) (by omega), hT]
        refine x_charAt hi hj ?_
        simp +decide (disch := omega) only [↓EQA, CEA, LIA, NIA, Nat.lt_irrefl, Option.toList_some, Option.toList_none, List.cons_append, List.nil_append, true_and, and_true, Nat.reduceAdd, Nat.reduceLeDiff, not_true_eq_false, not_false_eq_true, if_true, if_false, ite_true, ite_false, Int32.reduceLT, ite_not, eq_self, or_true, true_or, ite_self, reduceIte, e5]
        exact hQ
      · intro j hj hp hd
        have hp2 : B (τ.1 + j) = wd i j := by simpa using hp
        have h2 := (hw.2.2 ⟨j, by omega⟩ hj).2
        have hb := x3 (τ.1 + j)
        have h900 : τ.1 + j < 900 := by omega
        refine S_X8_is_L1 _ _ _ ?_
        simp +decide (disch := omega) only [↓EQA, CEA, LIA, NIA, Nat.lt_irrefl, Option.toList_some, Option.toList_none, List.cons_append, List.nil_append, true_and, and_true, Nat.reduceAdd, Nat.reduceLeDiff, not_true_eq_false, not_false_eq_true, if_true, if_false, ite_true, ite_false, Int32.reduceLT, ite_not, eq_self, or_true, true_or, ite_self, reduceIte, B_X8_is_L1, hT]
        refine x_length hi ?_
        have e5 : (sbt (B (τ.1 + j)) = nI (wd i j)) = True := by rw [sbt_eq hb h2]; exact eq_true hp2
        simp +decide (disch := omega) only [↓EQA, CEA, LIA, NIA, Nat.lt_irrefl, Option.toList_some, Option.toList_none, List.cons_append, List.nil_append, true_and, and_true, Nat.reduceAdd, Nat.reduceLeDiff, not_true_eq_false, not_false_eq_true, if_true, if_false, ite_true, ite_false, Int32.reduceLT, ite_not, eq_self, or_true, true_or, ite_self, reduceIte, hj, c2, nI_add, h900, x1 (τ.1 + j) (by omega), hT]
        refine x_charAt hi hj ?_
        simp +decide (disch := omega) only [↓EQA, CEA, LIA, NIA, Nat.lt_irrefl, Option.toList_some, Option.toList_none, List.cons_append, List.nil_append, true_and, and_true, Nat.reduceAdd, Nat.reduceLeDiff, not_true_eq_false, not_false_eq_true, if_true, if_false, ite_true, ite_false, Int32.reduceLT, ite_not, eq_self, or_true, true_or, ite_self, reduceIte, e5, nI_1]
        exact hd
      · intro he
        rw [he, show decide (wln i = wln i) = true from decide_eq_true rfl] at hQ
        refine S_X8_is_L1 _ _ _ ?_
        simp +decide (disch := omega) only [↓EQA, CEA, LIA, NIA, Nat.lt_irrefl, Option.toList_some, Option.toList_none, List.cons_append, List.nil_append, true_and, and_true, Nat.reduceAdd, Nat.reduceLeDiff, not_true_eq_false, not_false_eq_true, if_true, if_false, ite_true, ite_false, Int32.reduceLT, ite_not, eq_self, or_true, true_or, ite_self, reduceIte, B_X8_is_L1, hT]
        refine x_length hi ?_
        simp +decide (disch := omega) only [↓EQA, CEA, LIA, NIA, Nat.lt_irrefl, Option.toList_some, Option.toList_none, List.cons_append, List.nil_append, true_and, and_true, Nat.reduceAdd, Nat.reduceLeDiff, not_true_eq_false, not_false_eq_true, if_true, if_false, ite_true, ite_false, Int32.reduceLT, ite_not, eq_self, or_true, true_or, ite_self, reduceIte]
        exact hQ
    · rw [if_neg q2]
      rw [show isWb B τ i = false by unfold isWb; simp [q2]] at hQ
      simp +decide (disch := omega) only [↓EQA, CEA, LIA, NIA, Nat.lt_irrefl, Option.toList_some, Option.toList_none, List.cons_append, List.nil_append, true_and, and_true, Nat.reduceAdd, Nat.reduceLeDiff, not_true_eq_false, not_false_eq_true, if_true, if_false, ite_true, ite_false, Int32.reduceLT, ite_not, eq_self, or_true, true_or, ite_self, reduceIte, B_X8_is_J1]
      exact hQ
  · rw [show isWb B τ i = false by unfold isWb; simp [q1]] at hQ
    simp +decide (disch := omega) only [↓EQA, CEA, LIA, NIA, Nat.lt_irrefl, Option.toList_some, Option.toList_none, List.cons_append, List.nil_append, true_and, and_true, Nat.reduceAdd, Nat.reduceLeDiff, not_true_eq_false, not_false_eq_true, if_true, if_false, ite_true, ite_false, Int32.reduceLT, ite_not, eq_self, or_true, true_or, ite_self, reduceIte, B_X8_is_0, c4, e1, q1, B_X8_is_J1]
    exact hQ
theorem fld_and {p : Nat → Bool} : ∀ n, fld (fun j a => a && p j) n true = decide (frst (fun j => !p j) n = n) := by
  intro n
  induction n with
  | zero => rfl
  | succ n ih =>
    show (fld _ n true && p n) = _
    rw [ih]
    obtain ⟨h1, h2, h3⟩ := frst_spec (fun j => !p j) n
    have e : frst (fun j => !p j) (n + 1) = if frst (fun j => !p j) n < n then frst (fun j => !p j) n else if (!p n) = true then n else n + 1 := rfl
    rw [e]
    by_cases q : frst (fun j => !p j) n < n
    · rw [if_pos q, decide_eq_false (by omega), decide_eq_false (by omega)]; rfl
    · rw [if_neg q, decide_eq_true (by omega)]
      cases p n
      · simp
      · simp
theorem u_isWord {B : Nat → Nat} {τ : Nat × Nat × Nat} (hf : w.1 59 13 = 0) (hM : MTK w B τ) (h4 : ∀ i, B i < 256) (hk : τ.2.2 ≤ 4) (hi : i < 24) (hQ : Q (some (.int (bI (isWb B τ i = true)))) w) : Cl (d + 5) m_X11_isWord [.ref 59, .ref (1000 + i)] w Q := by
  obtain ⟨m1, m2, m3, m4, m5⟩ := id hM
  have hT := isTk hi
  have hw := wd_all ⟨i, hi⟩
  have hl : wln i ≤ 8 := hw.1
  have e2 : (mtk τ.2.2 = 2) = (τ.2.2 = 1) := by
    rcases (by omega : τ.2.2 = 0 ∨ τ.2.2 = 1 ∨ τ.2.2 = 2 ∨ τ.2.2 = 3 ∨ τ.2.2 = 4) with z | z | z | z | z <;> rw [z] <;> decide
  refine Cl_of k_X11_isWord.1 (Nat.le_of_ble_eq_true rfl) (show Wp m_X11_isWord _ 0 _ 0 [.ref 59, .ref (1000 + i), .null, .null] [] _ from S_X11_isWord_0 _ _ _ ?_)
  by_cases q1 : τ.2.2 = 1
  · obtain ⟨m41, m42, m43⟩ := m4 q1
    simp +decide (disch := omega) only [↓EQA, CEA, LIA, NIA, Nat.lt_irrefl, Option.toList_some, Option.toList_none, List.cons_append, List.nil_append, true_and, and_true, Nat.reduceAdd, Nat.reduceLeDiff, not_true_eq_false, not_false_eq_true, if_true, if_false, ite_true, ite_false, Int32.reduceLT, ite_not, eq_self, or_true, true_or, ite_self, reduceIte, B_X11_isWord_0, hf, m2, e2, q1, m41, hT]
    refine x_length hi ?_
    have e3 : (nI (τ.2.1 - τ.1) = nI (wln i)) = (τ.2.1 - τ.1 = wln i) := eq_n (by omega) (by omega)
    simp +decide (disch := omega) only [↓EQA, CEA, LIA, NIA, Nat.lt_irrefl, Option.toList_some, Option.toList_none, List.cons_append, List.nil_append, true_and, and_true, Nat.reduceAdd, Nat.reduceLeDiff, not_true_eq_false, not_false_eq_true, if_true, if_false, ite_true, ite_false, Int32.reduceLT, ite_not, eq_self, or_true, true_or, ite_self, reduceIte, e3]
    by_cases q2 : τ.2.1 - τ.1 = wln i
    · rw [if_pos q2]
      have hQ2 : isWb B τ i = decide (frst (fun j => !decide (B (τ.1 + j) = wd i j)) (wln i) = wln i) := by unfold isWb; simp [q1, q2]
      rw [hQ2, ← fld_and] at hQ
      refine fld_loop (f := fun j a => a && decide (B (τ.1 + j) = wd i j)) (n := wln i) (a := true) (fun j a => Wp m_X11_isWord (d + 4) 0 Q 32 [.ref 59, .ref (1000 + i), .int (bI (a = true)), .int (nI j)] [] w) (fun j hj hd => ?_) ?_
      · generalize fld (fun j a => a && decide (B (τ.1 + j) = wd i j)) j true = a at hd ⊢
        have h2 := (hw.2.2 ⟨j, by omega⟩ hj).2
        have h2' : wd i j < 128 := h2
        have hb := h4 (τ.1 + j)
        have hj8 : j < 8 := by omega
        rw [← q2] at hj
        refine S_X11_isWord_L1 _ _ _ ?_
        cases a
        · simp +decide (disch := omega) only [↓EQA, CEA, LIA, NIA, Nat.lt_irrefl, Option.toList_some, Option.toList_none, List.cons_append, List.nil_append, true_and, and_true, Nat.reduceAdd, Nat.reduceLeDiff, not_true_eq_false, not_false_eq_true, if_true, if_false, ite_true, ite_false, Int32.reduceLT, ite_not, eq_self, or_true, true_or, ite_self, reduceIte, B_X11_isWord_L1, m41, hj, B_X11_isWord_J1, B_X11_isWord_J2, B_X11_isWord_J3, nI_1]
          exact hd
        · simp +decide (disch := omega) only [↓EQA, CEA, LIA, NIA, Nat.lt_irrefl, Option.toList_some, Option.toList_none, List.cons_append, List.nil_append, true_and, and_true, Nat.reduceAdd, Nat.reduceLeDiff, not_true_eq_false, not_false_eq_true, if_true, if_false, ite_true, ite_false, Int32.reduceLT, ite_not, eq_self, or_true, true_or, ite_self, reduceIte, B_X11_isWord_L1, m41, hj, hj8, m43 j hj, hT]
          refine x_charAt hi (by omega) ?_
          have e5 : (nI (B (τ.1 + j)) = nI (wd i j)) = (B (τ.1 + j) = wd i j) := eq_n (by omega) (by omega)
          simp +decide (disch := omega) only [↓EQA, CEA, LIA, NIA, Nat.lt_irrefl, Option.toList_some, Option.toList_none, List.cons_append, List.nil_append, true_and, and_true, Nat.reduceAdd, Nat.reduceLeDiff, not_true_eq_false, not_false_eq_true, if_true, if_false, ite_true, ite_false, Int32.reduceLT, ite_not, eq_self, or_true, true_or, ite_self, reduceIte, e5, B_X11_isWord_J1, B_X11_isWord_J2, B_X11_isWord_J3, nI_1]
          by_cases z : B (τ.1 + j) = wd i j
          · rw [if_pos z]; rw [decide_eq_true z] at hd; exact hd
          · rw [if_neg z]; rw [decide_eq_false z] at hd; exact hd
      · generalize fld (fun j a => a && decide (B (τ.1 + j) = wd i j)) (wln i) true = a at hQ ⊢
        refine S_X11_isWord_L1 _ _ _ ?_
        rw [q2] at m41
        simp +decide (disch := omega) only [↓EQA, CEA, LIA, NIA, Nat.lt_irrefl, Option.toList_some, Option.toList_none, List.cons_append, List.nil_append, true_and, and_true, Nat.reduceAdd, Nat.reduceLeDiff, not_true_eq_false, not_false_eq_true, if_true, if_false, ite_true, ite_false, Int32.reduceLT, ite_not, eq_self, or_true, true_or, ite_self, reduceIte, B_X11_isWord_L1, m41]
        exact hQ
    · rw [if_neg q2]
      rw [show isWb B τ i = false by unfold isWb; simp [q2]] at hQ
      simp +decide (disch := omega) only [↓EQA, CEA, LIA, NIA, Nat.lt_irrefl, Option.toList_some, Option.toList_none, List.cons_append, List.nil_append, true_and, and_true, Nat.reduceAdd, Nat.reduceLeDiff, not_true_eq_false, not_false_eq_true, if_true, if_false, ite_true, ite_false, Int32.reduceLT, ite_not, eq_self, or_true, true_or, ite_self, reduceIte, B_X11_isWord_J1, B_X11_isWord_J2, B_X11_isWord_J3]
      exact hQ
  · rw [show isWb B τ i = false by unfold isWb; simp [q1]] at hQ
    simp +decide (disch := omega) only [↓EQA, CEA, LIA, NIA, Nat.lt_irrefl, Option.toList_some, Option.toList_none, List.cons_append, List.nil_append, true_and, and_true, Nat.reduceAdd, Nat.reduceLeDiff, not_true_eq_false, not_false_eq_true, if_true, if_false, ite_true, ite_false, Int32.reduceLT, ite_not, eq_self, or_true, true_or, ite_self, reduceIte, B_X11_isWord_0, hf, m2, e2, q1, B_X11_isWord_J1, B_X11_isWord_J2, B_X11_isWord_J3]
    exact hQ
theorem u_isWordF {i : Nat} (hf : w.1 59 13 = 1) (hQ : Q (some (.int 0)) w) : Cl (d + 5) m_X11_isWord [.ref 59, .ref (1000 + i)] w Q := by
  refine Cl_of k_X11_isWord.1 (Nat.le_of_ble_eq_true rfl) (show Wp m_X11_isWord _ 0 _ 0 [.ref 59, .ref (1000 + i), .null, .null] [] _ from S_X11_isWord_0 _ _ _ ?_)
  simp +decide (disch := omega) only [↓EQA, CEA, LIA, NIA, Nat.lt_irrefl, Option.toList_some, Option.toList_none, List.cons_append, List.nil_append, true_and, and_true, Nat.reduceAdd, Nat.reduceLeDiff, not_true_eq_false, not_false_eq_true, if_true, if_false, ite_true, ite_false, Int32.reduceLT, ite_not, eq_self, or_true, true_or, ite_self, reduceIte, B_X11_isWord_0, hf, B_X11_isWord_J1, B_X11_isWord_J2, B_X11_isWord_J3]
  exact hQ
end Words
