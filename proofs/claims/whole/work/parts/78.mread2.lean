/-! ===== the reference: a number, a side ===== -/
section MRead2
variable {d : Nat} {w : Mem} {Q : Option Value → Mem → Prop} {B : Nat → Nat} {n : Nat} {τ : Tk3} {s : Cs}
theorem u_number {lo hi : Nat} (hlo : lo < 1000) (hhi : hi < 1000) (hS : MSf w B n s) (hQ : ∀ w' v, Ag MrP w w' → MSf w' B n (cst (eWhole B n lo hi) s) → ((cst (eWhole B n lo hi) s).2 = none → v = nI (valT B s.1)) → Q (some (.int v)) w') : Cl (d + 3) m_X11_number [.ref 59, .int (nI lo), .int (nI hi)] w Q := by
  obtain ⟨τ, bl⟩ := s
  refine Cl_of k_X11_number.1 (Nat.le_of_ble_eq_true rfl) (show Wp m_X11_number _ 0 _ 0 [.ref 59, .int (nI lo), .int (nI hi), .null] [] _ from S_X11_number_0 _ _ _ ?_)
  cases bl with
  | some e =>
    have hf : w.1 59 13 = 1 := hS.2.1
    simp +decide (disch := omega) only [↓EQA, CEA, LIA, NIA, Nat.lt_irrefl, Option.toList_some, Option.toList_none, List.cons_append, List.nil_append, true_and, and_true, Nat.reduceAdd, Nat.reduceLeDiff, not_true_eq_false, not_false_eq_true, if_true, if_false, ite_true, ite_false, Int32.reduceLT, ite_not, eq_self, or_true, true_or, ite_self, reduceIte, B_X11_number_0, hf]
    exact hQ w _ Ag.rf hS (fun z => by cases z)
  | none =>
    obtain ⟨hX, hf, hM, hT, h99⟩ := id hS
    have hv : valT B τ < 1000 := valT_lt hT
    have h4 : w.1 59 4 = nI τ.1 := hM.1
    have h6 : w.1 59 6 = mtk τ.2.2 := hM.2.1
    have hk4 : τ.2.2 ≤ 4 := hT.1.2.2
    have e3 : (mtk τ.2.2 = 3) = (τ.2.2 = 2) := by
      rcases (by omega : τ.2.2 = 0 ∨ τ.2.2 = 1 ∨ τ.2.2 = 2 ∨ τ.2.2 = 3 ∨ τ.2.2 = 4) with z | z | z | z | z <;> rw [z] <;> decide
    have bad : ∀ f, eWhole B n lo hi τ = .inl (f, τ.1) → B_X11_number_J1 (d + 2) 0 Q [.ref 59, .int (nI lo), .int (nI hi), .null] [] (wI (wI (wI w 59 13 1) 59 9 (nI f)) 59 10 (nI τ.1)) := by
      intro f hf9
      obtain ⟨b1, b2⟩ := MSf.bad (τ := τ) (f := f) hX
      have hf1 : (wI (wI (wI w 59 13 1) 59 9 (nI f)) 59 10 (nI τ.1)).1 59 13 = 1 := b1.2.1
      have hc : cst (eWhole B n lo hi) (τ, none) = (τ, some (f, τ.1)) := by unfold cst; dsimp only; rw [hf9]; rfl
      simp +decide (disch := omega) only [↓EQA, CEA, LIA, NIA, Nat.lt_irrefl, Option.toList_some, Option.toList_none, List.cons_append, List.nil_append, true_and, and_true, Nat.reduceAdd, Nat.reduceLeDiff, not_true_eq_false, not_false_eq_true, if_true, if_false, ite_true, ite_false, Int32.reduceLT, ite_not, eq_self, or_true, true_or, ite_self, reduceIte, B_X11_number_J1, hf1]
      refine hQ _ _ b2 (by rw [hc]; exact b1) (fun z => ?_)
      rw [hc] at z; cases z
    simp +decide (disch := omega) only [↓EQA, CEA, LIA, NIA, Nat.lt_irrefl, Option.toList_some, Option.toList_none, List.cons_append, List.nil_append, true_and, and_true, Nat.reduceAdd, Nat.reduceLeDiff, not_true_eq_false, not_false_eq_true, if_true, if_false, ite_true, ite_false, Int32.reduceLT, ite_not, eq_self, or_true, true_or, ite_self, reduceIte, B_X11_number_0, hf, h6, e3]
    by_cases q : τ.2.2 = 2
    · rw [if_pos q]
      have h7 : w.1 59 7 = nI (valT B τ) := by
        rw [(hM.2.2.2.2 q).1]
        unfold valT
        rw [if_pos q]
      simp +decide (disch := omega) only [↓EQA, CEA, LIA, NIA, Nat.lt_irrefl, Option.toList_some, Option.toList_none, List.cons_append, List.nil_append, true_and, and_true, Nat.reduceAdd, Nat.reduceLeDiff, not_true_eq_false, not_false_eq_true, if_true, if_false, ite_true, ite_false, Int32.reduceLT, ite_not, eq_self, or_true, true_or, ite_self, reduceIte, h7]
      refine u_in ?_
      by_cases q2 : valT B τ < lo ∨ hi < valT B τ
      · have e4 : bI (¬ nI (valT B τ) < nI lo ∧ ¬ nI hi < nI (valT B τ)) = 0 := if_neg fun z => q2.elim (fun y => z.1 (nI_lt y (by omega))) (fun y => z.2 (nI_lt y (by omega)))
        rw [e4]
        simp +decide (disch := omega) only [↓EQA, CEA, LIA, NIA, Nat.lt_irrefl, Option.toList_some, Option.toList_none, List.cons_append, List.nil_append, true_and, and_true, Nat.reduceAdd, Nat.reduceLeDiff, not_true_eq_false, not_false_eq_true, if_true, if_false, ite_true, ite_false, Int32.reduceLT, ite_not, eq_self, or_true, true_or, ite_self, reduceIte, h4]
        refine u_wrong (f := 4) (p := τ.1) hf ?_
        simp +decide (disch := omega) only [↓EQA, CEA, LIA, NIA, Nat.lt_irrefl, Option.toList_some, Option.toList_none, List.cons_append, List.nil_append, true_and, and_true, Nat.reduceAdd, Nat.reduceLeDiff, not_true_eq_false, not_false_eq_true, if_true, if_false, ite_true, ite_false, Int32.reduceLT, ite_not, eq_self, or_true, true_or, ite_self, reduceIte]
        exact bad 4 (by unfold eWhole; rw [if_pos q, if_pos q2])
      · have e4 : bI (¬ nI (valT B τ) < nI lo ∧ ¬ nI hi < nI (valT B τ)) = 1 := if_pos ⟨nI_nlt (by omega) (by omega), nI_nlt (by omega) (by omega)⟩
        rw [e4]
        simp +decide (disch := omega) only [↓EQA, CEA, LIA, NIA, Nat.lt_irrefl, Option.toList_some, Option.toList_none, List.cons_append, List.nil_append, true_and, and_true, Nat.reduceAdd, Nat.reduceLeDiff, not_true_eq_false, not_false_eq_true, if_true, if_false, ite_true, ite_false, Int32.reduceLT, ite_not, eq_self, or_true, true_or, ite_self, reduceIte, B_X11_number_J1, hf, h7]
        refine u_nextS hS (by show τ.2.2 ≠ 4; omega) fun w' ha hS' => ?_
        simp +decide (disch := omega) only [↓EQA, CEA, LIA, NIA, Nat.lt_irrefl, Option.toList_some, Option.toList_none, List.cons_append, List.nil_append, true_and, and_true, Nat.reduceAdd, Nat.reduceLeDiff, not_true_eq_false, not_false_eq_true, if_true, if_false, ite_true, ite_false, Int32.reduceLT, ite_not, eq_self, or_true, true_or, ite_self, reduceIte]
        have hc : cst (eWhole B n lo hi) (τ, none) = (nxT B n τ, none) := by unfold cst eWhole; dsimp only; rw [if_pos q, if_neg q2]; rfl
        exact hQ w' _ ha (by rw [hc]; exact hS') (fun _ => rfl)
    · rw [if_neg q]
      simp +decide (disch := omega) only [↓EQA, CEA, LIA, NIA, Nat.lt_irrefl, Option.toList_some, Option.toList_none, List.cons_append, List.nil_append, true_and, and_true, Nat.reduceAdd, Nat.reduceLeDiff, not_true_eq_false, not_false_eq_true, if_true, if_false, ite_true, ite_false, Int32.reduceLT, ite_not, eq_self, or_true, true_or, ite_self, reduceIte, h4]
      refine u_wrong (f := 1) (p := τ.1) hf ?_
      simp +decide (disch := omega) only [↓EQA, CEA, LIA, NIA, Nat.lt_irrefl, Option.toList_some, Option.toList_none, List.cons_append, List.nil_append, true_and, and_true, Nat.reduceAdd, Nat.reduceLeDiff, not_true_eq_false, not_false_eq_true, if_true, if_false, ite_true, ite_false, Int32.reduceLT, ite_not, eq_self, or_true, true_or, ite_self, reduceIte]
      exact bad 1 (by unfold eWhole; rw [if_neg q])
theorem u_after {i lo hi : Nat} (hi24 : i < 24) (hlo : lo < 1000) (hhi : hi < 1000) (hS : MSf w B n s) (hQ : ∀ w' v, Ag MrP w w' → MSf w' B n (cst (eWhole B n lo hi) (cst (eWord B n i) s)) → ((cst (eWhole B n lo hi) (cst (eWord B n i) s)).2 = none → v = nI (valT B (cst (eWord B n i) s).1)) → Q (some (.int v)) w') : Cl (d + 8) m_X11_after [.ref 59, .ref (1000 + i), .int (nI lo), .int (nI hi)] w Q := by
  refine Cl_of k_X11_after.1 (Nat.le_of_ble_eq_true rfl) (show Wp m_X11_after _ 0 _ 0 [.ref 59, .ref (1000 + i), .int (nI lo), .int (nI hi)] [] _ from S_X11_after_0 _ _ _ ?_)
  simp +decide (disch := omega) only [↓EQA, CEA, LIA, NIA, Nat.lt_irrefl, Option.toList_some, Option.toList_none, List.cons_append, List.nil_append, true_and, and_true, Nat.reduceAdd, Nat.reduceLeDiff, not_true_eq_false, not_false_eq_true, if_true, if_false, ite_true, ite_false, Int32.reduceLT, ite_not, eq_self, or_true, true_or, ite_self, reduceIte, B_X11_after_0]
  refine u_must hS hi24 fun w1 ha1 hS1 => ?_
  simp +decide (disch := omega) only [↓EQA, CEA, LIA, NIA, Nat.lt_irrefl, Option.toList_some, Option.toList_none, List.cons_append, List.nil_append, true_and, and_true, Nat.reduceAdd, Nat.reduceLeDiff, not_true_eq_false, not_false_eq_true, if_true, if_false, ite_true, ite_false, Int32.reduceLT, ite_not, eq_self, or_true, true_or, ite_self, reduceIte]
  refine u_number hlo hhi hS1 fun w2 v ha2 hS2 hv => ?_
  simp +decide (disch := omega) only [↓EQA, CEA, LIA, NIA, Nat.lt_irrefl, Option.toList_some, Option.toList_none, List.cons_append, List.nil_append, true_and, and_true, Nat.reduceAdd, Nat.reduceLeDiff, not_true_eq_false, not_false_eq_true, if_true, if_false, ite_true, ite_false, Int32.reduceLT, ite_not, eq_self, or_true, true_or, ite_self, reduceIte]
  exact hQ w2 v (ha1.tr ha2) hS2 hv
theorem u_pass (hS : MSf w B n s) (h4 : s.2 = none → s.1.2.2 ≠ 4) (hQ : ∀ w', Ag MrP w w' → MSf w' B n (cst (nxA3 B n) s) → Q none w') : Cl (d + 3) m_X11_pass [.ref 59] w Q := by
  obtain ⟨τ, bl⟩ := s
  refine Cl_of k_X11_pass.1 (Nat.le_of_ble_eq_true rfl) (show Wp m_X11_pass _ 0 _ 0 [.ref 59] [] _ from S_X11_pass_0 _ _ _ ?_)
  cases bl with
  | some e =>
    have hf : w.1 59 13 = 1 := hS.2.1
    simp +decide (disch := omega) only [↓EQA, CEA, LIA, NIA, Nat.lt_irrefl, Option.toList_some, Option.toList_none, List.cons_append, List.nil_append, true_and, and_true, Nat.reduceAdd, Nat.reduceLeDiff, not_true_eq_false, not_false_eq_true, if_true, if_false, ite_true, ite_false, Int32.reduceLT, ite_not, eq_self, or_true, true_or, ite_self, reduceIte, B_X11_pass_0, hf, B_X11_pass_J1]
    exact hQ w Ag.rf hS
  | none =>
    have hf : w.1 59 13 = 0 := hS.2.1
    simp +decide (disch := omega) only [↓EQA, CEA, LIA, NIA, Nat.lt_irrefl, Option.toList_some, Option.toList_none, List.cons_append, List.nil_append, true_and, and_true, Nat.reduceAdd, Nat.reduceLeDiff, not_true_eq_false, not_false_eq_true, if_true, if_false, ite_true, ite_false, Int32.reduceLT, ite_not, eq_self, or_true, true_or, ite_self, reduceIte, B_X11_pass_0, hf]
    refine u_nextS hS (h4 rfl) fun w' ha hS' => ?_
    simp +decide (disch := omega) only [↓EQA, CEA, LIA, NIA, Nat.lt_irrefl, Option.toList_some, Option.toList_none, List.cons_append, List.nil_append, true_and, and_true, Nat.reduceAdd, Nat.reduceLeDiff, not_true_eq_false, not_false_eq_true, if_true, if_false, ite_true, ite_false, Int32.reduceLT, ite_not, eq_self, or_true, true_or, ite_self, reduceIte, B_X11_pass_J1]
    exact hQ w' ha hS'
end MRead2
