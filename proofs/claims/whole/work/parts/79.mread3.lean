/-! ===== the reference: a side; what must be a name ===== -/
section MRead3
variable {d : Nat} {w : Mem} {Q : Option Value → Mem → Prop} {B : Nat → Nat} {n : Nat} {τ : Tk3} {s : Cs}
theorem isWb_len {i : Nat} (h : isWb B τ i = true) : τ.2.2 = 1 ∧ τ.2.1 - τ.1 = wln i := by
  unfold isWb at h
  simp only [Bool.and_eq_true, decide_eq_true_eq] at h
  exact ⟨h.1, h.2.1⟩
theorem u_takesWordF {i : Nat} (hf : w.1 59 13 = 1) (hQ : Q (some (.int 0)) w) : Cl (d + 6) m_X11_takesWord [.ref 59, .ref (1000 + i)] w Q := by
  refine Cl_of k_X11_takesWord.1 (Nat.le_of_ble_eq_true rfl) (show Wp m_X11_takesWord _ 0 _ 0 [.ref 59, .ref (1000 + i)] [] _ from S_X11_takesWord_0 _ _ _ ?_)
  simp +decide (disch := omega) only [↓EQA, CEA, LIA, NIA, Nat.lt_irrefl, Option.toList_some, Option.toList_none, List.cons_append, List.nil_append, true_and, and_true, Nat.reduceAdd, Nat.reduceLeDiff, not_true_eq_false, not_false_eq_true, if_true, if_false, ite_true, ite_false, Int32.reduceLT, ite_not, eq_self, or_true, true_or, ite_self, reduceIte, B_X11_takesWord_0]
  refine u_isWordF hf ?_
  simp +decide (disch := omega) only [↓EQA, CEA, LIA, NIA, Nat.lt_irrefl, Option.toList_some, Option.toList_none, List.cons_append, List.nil_append, true_and, and_true, Nat.reduceAdd, Nat.reduceLeDiff, not_true_eq_false, not_false_eq_true, if_true, if_false, ite_true, ite_false, Int32.reduceLT, ite_not, eq_self, or_true, true_or, ite_self, reduceIte]
  exact hQ
theorem u_side (hS : MSf w B n s) (hQ : ∀ w' v, Ag MrP w w' → MSf w' B n (cst (eSide B n) s) → ((cst (eSide B n) s).2 = none → v = nI (sdV B s.1)) → Q (some (.int v)) w') : Cl (d + 8) m_X11_side [.ref 59] w Q := by
  obtain ⟨τ, bl⟩ := s
  refine Cl_of k_X11_side.1 (Nat.le_of_ble_eq_true rfl) (show Wp m_X11_side _ 0 _ 0 [.ref 59] [] _ from S_X11_side_0 _ _ _ ?_)
  simp +decide (disch := omega) only [↓EQA, CEA, LIA, NIA, Nat.lt_irrefl, Option.toList_some, Option.toList_none, List.cons_append, List.nil_append, true_and, and_true, Nat.reduceAdd, Nat.reduceLeDiff, not_true_eq_false, not_false_eq_true, if_true, if_false, ite_true, ite_false, Int32.reduceLT, ite_not, eq_self, or_true, true_or, ite_self, reduceIte, B_X11_side_0]
  cases bl with
  | some e =>
    have hf : w.1 59 13 = 1 := hS.2.1
    refine u_takesWordF (i := 15) hf ?_
    simp +decide (disch := omega) only [↓EQA, CEA, LIA, NIA, Nat.lt_irrefl, Option.toList_some, Option.toList_none, List.cons_append, List.nil_append, true_and, and_true, Nat.reduceAdd, Nat.reduceLeDiff, not_true_eq_false, not_false_eq_true, if_true, if_false, ite_true, ite_false, Int32.reduceLT, ite_not, eq_self, or_true, true_or, ite_self, reduceIte]
    refine u_must (i := 14) hS (by decide) fun w1 ha1 hS1 => ?_
    simp +decide (disch := omega) only [↓EQA, CEA, LIA, NIA, Nat.lt_irrefl, Option.toList_some, Option.toList_none, List.cons_append, List.nil_append, true_and, and_true, Nat.reduceAdd, Nat.reduceLeDiff, not_true_eq_false, not_false_eq_true, if_true, if_false, ite_true, ite_false, Int32.reduceLT, ite_not, eq_self, or_true, true_or, ite_self, reduceIte]
    exact hQ w1 _ ha1 hS1 (fun z => by cases z)
  | none =>
    refine u_takesWord (i := 15) hS (by decide) (fun q => ?_) (fun q w1 ha1 hS1 => ?_)
    · simp +decide (disch := omega) only [↓EQA, CEA, LIA, NIA, Nat.lt_irrefl, Option.toList_some, Option.toList_none, List.cons_append, List.nil_append, true_and, and_true, Nat.reduceAdd, Nat.reduceLeDiff, not_true_eq_false, not_false_eq_true, if_true, if_false, ite_true, ite_false, Int32.reduceLT, ite_not, eq_self, or_true, true_or, ite_self, reduceIte]
      refine u_must (i := 14) hS (by decide) fun w1 ha1 hS1 => ?_
      simp +decide (disch := omega) only [↓EQA, CEA, LIA, NIA, Nat.lt_irrefl, Option.toList_some, Option.toList_none, List.cons_append, List.nil_append, true_and, and_true, Nat.reduceAdd, Nat.reduceLeDiff, not_true_eq_false, not_false_eq_true, if_true, if_false, ite_true, ite_false, Int32.reduceLT, ite_not, eq_self, or_true, true_or, ite_self, reduceIte]
      have hc : cst (eSide B n) (τ, none) = cst (eWord B n 14) (τ, none) := by
        unfold cst eSide eWord
        dsimp only
        cases q2 : isWb B τ 14
        · simp only [q, Bool.false_eq_true, if_false]
        · simp only [if_true]; rfl
      refine hQ w1 _ ha1 (by rw [hc]; exact hS1) (fun z => ?_)
      rw [hc] at z
      have h1 := (cst_none (f := eWord B n 14) (s := (τ, none)) z).2
      have q2 : isWb B τ 14 = true := by
        cases q3 : isWb B τ 14
        · obtain ⟨a, ha⟩ := h1
          unfold eWord at ha
          simp only [q3, Bool.false_eq_true, if_false] at ha
          cases ha
        · rfl
      unfold sdV
      dsimp only
      rw [if_pos q2]
      rfl
    · simp +decide (disch := omega) only [↓EQA, CEA, LIA, NIA, Nat.lt_irrefl, Option.toList_some, Option.toList_none, List.cons_append, List.nil_append, true_and, and_true, Nat.reduceAdd, Nat.reduceLeDiff, not_true_eq_false, not_false_eq_true, if_true, if_false, ite_true, ite_false, Int32.reduceLT, ite_not, eq_self, or_true, true_or, ite_self, reduceIte]
      have q2 : isWb B τ 14 = false := by
        cases q3 : isWb B τ 14
        · rfl
        · have h1 := (isWb_len q3).2
          have h2 := (isWb_len q).2
          rw [h1] at h2
          exact absurd h2 (by decide)
      have hc : cst (eSide B n) (τ, none) = (nxT B n τ, none) := by
        unfold cst eSide
        dsimp only
        rw [q2, q]
        rfl
      refine hQ w1 _ ha1 (by rw [hc]; exact hS1) (fun _ => ?_)
      unfold sdV
      dsimp only
      rw [q2]
      rfl
end MRead3
