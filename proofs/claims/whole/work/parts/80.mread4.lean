/-! ===== the reference: what must be a name ===== -/
section MRead4
variable {d : Nat} {w : Mem} {Q : Option Value → Mem → Prop} {B : Nat → Nat} {n : Nat} {τ : Tk3}
theorem nm_not {i : Nat} (hi : i < 8) (h : isWb B τ i = true) : isNm B τ = false := by
  unfold isNm lnI
  rcases (by omega : i = 0 ∨ i = 1 ∨ i = 2 ∨ i = 3 ∨ i = 4 ∨ i = 5 ∨ i = 6 ∨ i = 7) with rfl | rfl | rfl | rfl | rfl | rfl | rfl | rfl <;> rw [h] <;> cases isWb B τ 0 <;> cases isWb B τ 1 <;> cases isWb B τ 2 <;> cases isWb B τ 3 <;> cases isWb B τ 4 <;> cases isWb B τ 5 <;> cases isWb B τ 6 <;> simp
theorem nm_yes (h1 : τ.2.2 = 1) (h : ∀ i, i < 8 → isWb B τ i = false) : isNm B τ = true := by
  unfold isNm lnI
  rw [h 0 (by decide), h 1 (by decide), h 2 (by decide), h 3 (by decide), h 4 (by decide), h 5 (by decide), h 6 (by decide), h 7 (by decide)]
  simp [h1]
theorem u_mustName (hS : MSf w B n (τ, none)) (hQ1 : isNm B τ = true → Q none w) (hQ0 : isNm B τ = false → ∀ w', Ag MrP w w' → MSf w' B n (τ, some (1, τ.1)) → Q none w') : Cl (d + 6) m_X11_mustName [.ref 59] w Q := by
  obtain ⟨hX, hf, hM, hT, h99⟩ := id hS
  have h4 : w.1 59 4 = nI τ.1 := hM.1
  have h6 : w.1 59 6 = mtk τ.2.2 := hM.2.1
  have hk4 : τ.2.2 ≤ 4 := hT.1.2.2
  have e2 : (mtk τ.2.2 = 2) = (τ.2.2 = 1) := by
    rcases (by omega : τ.2.2 = 0 ∨ τ.2.2 = 1 ∨ τ.2.2 = 2 ∨ τ.2.2 = 3 ∨ τ.2.2 = 4) with z | z | z | z | z <;> rw [z] <;> decide
  have bad : isNm B τ = false → B_X11_mustName_J1 (d + 5) 0 Q [.ref 59] [] w := by
    intro hno
    simp +decide (disch := omega) only [↓EQA, CEA, LIA, NIA, Nat.lt_irrefl, Option.toList_some, Option.toList_none, List.cons_append, List.nil_append, true_and, and_true, Nat.reduceAdd, Nat.reduceLeDiff, not_true_eq_false, not_false_eq_true, if_true, if_false, ite_true, ite_false, Int32.reduceLT, ite_not, eq_self, or_true, true_or, ite_self, reduceIte, B_X11_mustName_J1, h4]
    refine u_wrong (f := 1) (p := τ.1) hf ?_
    simp +decide (disch := omega) only [↓EQA, CEA, LIA, NIA, Nat.lt_irrefl, Option.toList_some, Option.toList_none, List.cons_append, List.nil_append, true_and, and_true, Nat.reduceAdd, Nat.reduceLeDiff, not_true_eq_false, not_false_eq_true, if_true, if_false, ite_true, ite_false, Int32.reduceLT, ite_not, eq_self, or_true, true_or, ite_self, reduceIte, B_X11_mustName_J1, B_X11_mustName_J2]
    obtain ⟨b1, b2⟩ := MSf.bad (τ := τ) (f := 1) hX
    exact hQ0 hno _ b2 b1
  refine Cl_of k_X11_mustName.1 (Nat.le_of_ble_eq_true rfl) (show Wp m_X11_mustName _ 0 _ 0 [.ref 59] [] _ from S_X11_mustName_0 _ _ _ ?_)
  simp +decide (disch := omega) only [↓EQA, CEA, LIA, NIA, Nat.lt_irrefl, Option.toList_some, Option.toList_none, List.cons_append, List.nil_append, true_and, and_true, Nat.reduceAdd, Nat.reduceLeDiff, not_true_eq_false, not_false_eq_true, if_true, if_false, ite_true, ite_false, Int32.reduceLT, ite_not, eq_self, or_true, true_or, ite_self, reduceIte, B_X11_mustName_0, h6, e2]
  by_cases q : τ.2.2 = 1
  · rw [if_pos q]
    refine u_isWord (i := 0) hf hM hX.2.2.2 hk4 (by decide) ?_
    cases q0 : isWb B τ 0
    rotate_left
    · simp +decide (disch := omega) only [↓EQA, CEA, LIA, NIA, Nat.lt_irrefl, Option.toList_some, Option.toList_none, List.cons_append, List.nil_append, true_and, and_true, Nat.reduceAdd, Nat.reduceLeDiff, not_true_eq_false, not_false_eq_true, if_true, if_false, ite_true, ite_false, Int32.reduceLT, ite_not, eq_self, or_true, true_or, ite_self, reduceIte]; exact bad (nm_not (i := 0) (by decide) q0)
    simp +decide (disch := omega) only [↓EQA, CEA, LIA, NIA, Nat.lt_irrefl, Option.toList_some, Option.toList_none, List.cons_append, List.nil_append, true_and, and_true, Nat.reduceAdd, Nat.reduceLeDiff, not_true_eq_false, not_false_eq_true, if_true, if_false, ite_true, ite_false, Int32.reduceLT, ite_not, eq_self, or_true, true_or, ite_self, reduceIte]
    refine u_isWord (i := 2) hf hM hX.2.2.2 hk4 (by decide) ?_
    cases q2 : isWb B τ 2
    rotate_left
    · simp +decide (disch := omega) only [↓EQA, CEA, LIA, NIA, Nat.lt_irrefl, Option.toList_some, Option.toList_none, List.cons_append, List.nil_append, true_and, and_true, Nat.reduceAdd, Nat.reduceLeDiff, not_true_eq_false, not_false_eq_true, if_true, if_false, ite_true, ite_false, Int32.reduceLT, ite_not, eq_self, or_true, true_or, ite_self, reduceIte]; exact bad (nm_not (i := 2) (by decide) q2)
    simp +decide (disch := omega) only [↓EQA, CEA, LIA, NIA, Nat.lt_irrefl, Option.toList_some, Option.toList_none, List.cons_append, List.nil_append, true_and, and_true, Nat.reduceAdd, Nat.reduceLeDiff, not_true_eq_false, not_false_eq_true, if_true, if_false, ite_true, ite_false, Int32.reduceLT, ite_not, eq_self, or_true, true_or, ite_self, reduceIte]
    refine u_isWord (i := 3) hf hM hX.2.2.2 hk4 (by decide) ?_
    cases q3 : isWb B τ 3
    rotate_left
    · simp +decide (disch := omega) only [↓EQA, CEA, LIA, NIA, Nat.lt_irrefl, Option.toList_some, Option.toList_none, List.cons_append, List.nil_append, true_and, and_true, Nat.reduceAdd, Nat.reduceLeDiff, not_true_eq_false, not_false_eq_true, if_true, if_false, ite_true, ite_false, Int32.reduceLT, ite_not, eq_self, or_true, true_or, ite_self, reduceIte]; exact bad (nm_not (i := 3) (by decide) q3)
    simp +decide (disch := omega) only [↓EQA, CEA, LIA, NIA, Nat.lt_irrefl, Option.toList_some, Option.toList_none, List.cons_append, List.nil_append, true_and, and_true, Nat.reduceAdd, Nat.reduceLeDiff, not_true_eq_false, not_false_eq_true, if_true, if_false, ite_true, ite_false, Int32.reduceLT, ite_not, eq_self, or_true, true_or, ite_self, reduceIte]
    refine u_isWord (i := 4) hf hM hX.2.2.2 hk4 (by decide) ?_
    cases q4 : isWb B τ 4
    rotate_left
    · simp +decide (disch := omega) only [↓EQA, CEA, LIA, NIA, Nat.lt_irrefl, Option.toList_some, Option.toList_none, List.cons_append, List.nil_append, true_and, and_true, Nat.reduceAdd, Nat.reduceLeDiff, not_true_eq_false, not_false_eq_true, if_true, if_false, ite_true, ite_false, Int32.reduceLT, ite_not, eq_self, or_true, true_or, ite_self, reduceIte]; exact bad (nm_not (i := 4) (by decide) q4)
    simp +decide (disch := omega) only [↓EQA, CEA, LIA, NIA, Nat.lt_irrefl, Option.toList_some, Option.toList_none, List.cons_append, List.nil_append, true_and, and_true, Nat.reduceAdd, Nat.reduceLeDiff, not_true_eq_false, not_false_eq_true, if_true, if_false, ite_true, ite_false, Int32.reduceLT, ite_not, eq_self, or_true, true_or, ite_self, reduceIte]
    refine u_isWord (i := 1) hf hM hX.2.2.2 hk4 (by decide) ?_
    cases q1 : isWb B τ 1
    rotate_left
    · simp +decide (disch := omega) only [↓EQA, CEA, LIA, NIA, Nat.lt_irrefl, Option.toList_some, Option.toList_none, List.cons_append, List.nil_append, true_and, and_true, Nat.reduceAdd, Nat.reduceLeDiff, not_true_eq_false, not_false_eq_true, if_true, if_false, ite_true, ite_false, Int32.reduceLT, ite_not, eq_self, or_true, true_or, ite_self, reduceIte]; exact bad (nm_not (i := 1) (by decide) q1)
    simp +decide (disch := omega) only [↓EQA, CEA, LIA, NIA, Nat.lt_irrefl, Option.toList_some, Option.toList_none, List.cons_append, List.nil_append, true_and, and_true, Nat.reduceAdd, Nat.reduceLeDiff, not_true_eq_false, not_false_eq_true, if_true, if_false, ite_true, ite_false, Int32.reduceLT, ite_not, eq_self, or_true, true_or, ite_self, reduceIte]
    refine u_isWord (i := 5) hf hM hX.2.2.2 hk4 (by decide) ?_
    cases q5 : isWb B τ 5
    rotate_left
    · simp +decide (disch := omega) only [↓EQA, CEA, LIA, NIA, Nat.lt_irrefl, Option.toList_some, Option.toList_none, List.cons_append, List.nil_append, true_and, and_true, Nat.reduceAdd, Nat.reduceLeDiff, not_true_eq_false, not_false_eq_true, if_true, if_false, ite_true, ite_false, Int32.reduceLT, ite_not, eq_self, or_true, true_or, ite_self, reduceIte]; exact bad (nm_not (i := 5) (by decide) q5)
    simp +decide (disch := omega) only [↓EQA, CEA, LIA, NIA, Nat.lt_irrefl, Option.toList_some, Option.toList_none, List.cons_append, List.nil_append, true_and, and_true, Nat.reduceAdd, Nat.reduceLeDiff, not_true_eq_false, not_false_eq_true, if_true, if_false, ite_true, ite_false, Int32.reduceLT, ite_not, eq_self, or_true, true_or, ite_self, reduceIte]
    refine u_isWord (i := 6) hf hM hX.2.2.2 hk4 (by decide) ?_
    cases q6 : isWb B τ 6
    rotate_left
    · simp +decide (disch := omega) only [↓EQA, CEA, LIA, NIA, Nat.lt_irrefl, Option.toList_some, Option.toList_none, List.cons_append, List.nil_append, true_and, and_true, Nat.reduceAdd, Nat.reduceLeDiff, not_true_eq_false, not_false_eq_true, if_true, if_false, ite_true, ite_false, Int32.reduceLT, ite_not, eq_self, or_true, true_or, ite_self, reduceIte]; exact bad (nm_not (i := 6) (by decide) q6)
    simp +decide (disch := omega) only [↓EQA, CEA, LIA, NIA, Nat.lt_irrefl, Option.toList_some, Option.toList_none, List.cons_append, List.nil_append, true_and, and_true, Nat.reduceAdd, Nat.reduceLeDiff, not_true_eq_false, not_false_eq_true, if_true, if_false, ite_true, ite_false, Int32.reduceLT, ite_not, eq_self, or_true, true_or, ite_self, reduceIte]
    refine u_isWord (i := 7) hf hM hX.2.2.2 hk4 (by decide) ?_
    cases q7 : isWb B τ 7
    rotate_left
    · simp +decide (disch := omega) only [↓EQA, CEA, LIA, NIA, Nat.lt_irrefl, Option.toList_some, Option.toList_none, List.cons_append, List.nil_append, true_and, and_true, Nat.reduceAdd, Nat.reduceLeDiff, not_true_eq_false, not_false_eq_true, if_true, if_false, ite_true, ite_false, Int32.reduceLT, ite_not, eq_self, or_true, true_or, ite_self, reduceIte]; exact bad (nm_not (i := 7) (by decide) q7)
    simp +decide (disch := omega) only [↓EQA, CEA, LIA, NIA, Nat.lt_irrefl, Option.toList_some, Option.toList_none, List.cons_append, List.nil_append, true_and, and_true, Nat.reduceAdd, Nat.reduceLeDiff, not_true_eq_false, not_false_eq_true, if_true, if_false, ite_true, ite_false, Int32.reduceLT, ite_not, eq_self, or_true, true_or, ite_self, reduceIte, B_X11_mustName_J1, B_X11_mustName_J2]
    refine hQ1 (nm_yes q fun i hi => ?_)
    rcases (by omega : i = 0 ∨ i = 1 ∨ i = 2 ∨ i = 3 ∨ i = 4 ∨ i = 5 ∨ i = 6 ∨ i = 7) with rfl | rfl | rfl | rfl | rfl | rfl | rfl | rfl <;> assumption
  · rw [if_neg q]
    exact bad (by unfold isNm; simp [q])
end MRead4
