/-! ===== reading: the reference ===== -/
abbrev MBl (w : Mem) (B : Nat → Nat) (n : Nat) (τ : Tk3) : Option (Nat × Nat) → Prop
  | none => w.1 59 13 = 0 ∧ MTK w B τ ∧ TKp B n τ ∧ w.1 59 9 = 0
  | some e => w.1 59 13 = 1 ∧ w.1 59 9 = nI e.1 ∧ w.1 59 10 = nI e.2
/-- the reference's token, or its fault -/
abbrev MSf (w : Mem) (B : Nat → Nat) (n : Nat) (s : Cs) : Prop := MX w B n ∧ MBl w B n s.1 s.2
abbrev MrP : Nat → Nat → Prop := fun j i => (j = 59 ∧ ((4 ≤ i ∧ i ≤ 10) ∨ i = 13)) ∨ j = 61
section MRead
variable {d : Nat} {w : Mem} {Q : Option Value → Mem → Prop} {B : Nat → Nat} {n : Nat} {τ : Tk3} {s : Cs}
theorem u_wrong {f p : Nat} (hf : w.1 59 13 = 0) (hQ : Q none (wI (wI (wI w 59 13 1) 59 9 (nI f)) 59 10 (nI p))) : Cl (d + 1) m_X11_wrong [.ref 59, .int (nI f), .int (nI p)] w Q := by
  refine Cl_of k_X11_wrong.1 (Nat.le_of_ble_eq_true rfl) (show Wp m_X11_wrong _ 0 _ 0 [.ref 59, .int (nI f), .int (nI p)] [] _ from S_X11_wrong_0 _ _ _ ?_)
  simp +decide (disch := omega) only [↓EQA, CEA, LIA, NIA, Nat.lt_irrefl, Option.toList_some, Option.toList_none, List.cons_append, List.nil_append, true_and, and_true, Nat.reduceAdd, Nat.reduceLeDiff, not_true_eq_false, not_false_eq_true, if_true, if_false, ite_true, ite_false, Int32.reduceLT, ite_not, eq_self, or_true, true_or, ite_self, reduceIte, B_X11_wrong_0, hf]
  exact hQ
theorem MSf.bad {f : Nat} (hX : MX w B n) : MSf (wI (wI (wI w 59 13 1) 59 9 (nI f)) 59 10 (nI τ.1)) B n (τ, some (f, τ.1)) ∧ Ag MrP w (wI (wI (wI w 59 13 1) 59 9 (nI f)) 59 10 (nI τ.1)) := by
  have ha : Ag (fun j i => j = 59 ∧ (i = 9 ∨ i = 10 ∨ i = 13)) w (wI (wI (wI w 59 13 1) 59 9 (nI f)) 59 10 (nI τ.1)) := ((Ag.rf.wI ⟨rfl, Or.inr (Or.inr rfl)⟩).wI ⟨rfl, Or.inl rfl⟩).wI ⟨rfl, Or.inr (Or.inl rfl)⟩
  exact ⟨⟨hX.ag ha (fun i z => by omega) (by omega), by simp [wI], by simp [wI], by simp [wI]⟩, ha.wk fun j i z => by omega⟩
/-- the next token is cut -/
theorem u_nextS (hS : MSf w B n (τ, none)) (h4 : τ.2.2 ≠ 4) (hQ : ∀ w', Ag MrP w w' → MSf w' B n (nxT B n τ, none) → Q none w') : Cl (d + 2) m_X11_next [.ref 59] w Q := by
  obtain ⟨hX, hf, hM, hT, h99⟩ := hS
  refine u_next hX (hM.2.2.1 h4) hT.1.2.1 fun w' ha hM' => hQ w' (ha.wk fun j i z => by omega) ⟨hX.ag ha (fun i z => by omega) (by omega), ?_, hM', tk_ok hT.1.2.1, by rw [(ha 59 9 (by omega)).1]; exact h99⟩
  rw [(ha 59 13 (by omega)).1]; exact hf
theorem u_takesWord {i : Nat} (hS : MSf w B n (τ, none)) (hi : i < 24) (hQ0 : isWb B τ i = false → Q (some (.int 0)) w) (hQ1 : isWb B τ i = true → ∀ w', Ag MrP w w' → MSf w' B n (nxT B n τ, none) → Q (some (.int 1)) w') : Cl (d + 6) m_X11_takesWord [.ref 59, .ref (1000 + i)] w Q := by
  obtain ⟨hX, hf, hM, hT, h99⟩ := id hS
  refine Cl_of k_X11_takesWord.1 (Nat.le_of_ble_eq_true rfl) (show Wp m_X11_takesWord _ 0 _ 0 [.ref 59, .ref (1000 + i)] [] _ from S_X11_takesWord_0 _ _ _ ?_)
  simp +decide (disch := omega) only [↓EQA, CEA, LIA, NIA, Nat.lt_irrefl, Option.toList_some, Option.toList_none, List.cons_append, List.nil_append, true_and, and_true, Nat.reduceAdd, Nat.reduceLeDiff, not_true_eq_false, not_false_eq_true, if_true, if_false, ite_true, ite_false, Int32.reduceLT, ite_not, eq_self, or_true, true_or, ite_self, reduceIte, B_X11_takesWord_0]
  refine u_isWord hf hM hX.2.2.2 hT.1.2.2 hi ?_
  cases q : isWb B τ i
  · simp +decide (disch := omega) only [↓EQA, CEA, LIA, NIA, Nat.lt_irrefl, Option.toList_some, Option.toList_none, List.cons_append, List.nil_append, true_and, and_true, Nat.reduceAdd, Nat.reduceLeDiff, not_true_eq_false, not_false_eq_true, if_true, if_false, ite_true, ite_false, Int32.reduceLT, ite_not, eq_self, or_true, true_or, ite_self, reduceIte]
    exact hQ0 q
  · simp +decide (disch := omega) only [↓EQA, CEA, LIA, NIA, Nat.lt_irrefl, Option.toList_some, Option.toList_none, List.cons_append, List.nil_append, true_and, and_true, Nat.reduceAdd, Nat.reduceLeDiff, not_true_eq_false, not_false_eq_true, if_true, if_false, ite_true, ite_false, Int32.reduceLT, ite_not, eq_self, or_true, true_or, ite_self, reduceIte]
    have h1 : τ.2.2 = 1 := by
      unfold isWb at q
      simp only [Bool.and_eq_true, decide_eq_true_eq] at q
      exact q.1
    refine u_nextS hS (by rw [h1]; decide) fun w' ha hS' => ?_
    simp +decide (disch := omega) only [↓EQA, CEA, LIA, NIA, Nat.lt_irrefl, Option.toList_some, Option.toList_none, List.cons_append, List.nil_append, true_and, and_true, Nat.reduceAdd, Nat.reduceLeDiff, not_true_eq_false, not_false_eq_true, if_true, if_false, ite_true, ite_false, Int32.reduceLT, ite_not, eq_self, or_true, true_or, ite_self, reduceIte]
    exact hQ1 q w' ha hS'
theorem u_must {i : Nat} (hS : MSf w B n s) (hi : i < 24) (hQ : ∀ w', Ag MrP w w' → MSf w' B n (cst (eWord B n i) s) → Q none w') : Cl (d + 7) m_X11_must [.ref 59, .ref (1000 + i)] w Q := by
  obtain ⟨τ, bl⟩ := s
  refine Cl_of k_X11_must.1 (Nat.le_of_ble_eq_true rfl) (show Wp m_X11_must _ 0 _ 0 [.ref 59, .ref (1000 + i)] [] _ from S_X11_must_0 _ _ _ ?_)
  cases bl with
  | some e =>
    have hf : w.1 59 13 = 1 := hS.2.1
    simp +decide (disch := omega) only [↓EQA, CEA, LIA, NIA, Nat.lt_irrefl, Option.toList_some, Option.toList_none, List.cons_append, List.nil_append, true_and, and_true, Nat.reduceAdd, Nat.reduceLeDiff, not_true_eq_false, not_false_eq_true, if_true, if_false, ite_true, ite_false, Int32.reduceLT, ite_not, eq_self, or_true, true_or, ite_self, reduceIte, B_X11_must_0, hf, B_X11_must_J1]
    exact hQ w Ag.rf hS
  | none =>
    have hf : w.1 59 13 = 0 := hS.2.1
    simp +decide (disch := omega) only [↓EQA, CEA, LIA, NIA, Nat.lt_irrefl, Option.toList_some, Option.toList_none, List.cons_append, List.nil_append, true_and, and_true, Nat.reduceAdd, Nat.reduceLeDiff, not_true_eq_false, not_false_eq_true, if_true, if_false, ite_true, ite_false, Int32.reduceLT, ite_not, eq_self, or_true, true_or, ite_self, reduceIte, B_X11_must_0, hf]
    refine u_takesWord hS hi (fun q => ?_) (fun q w1 ha1 hS1 => ?_)
    · have h4 : w.1 59 4 = nI τ.1 := hS.2.2.1.1
      simp +decide (disch := omega) only [↓EQA, CEA, LIA, NIA, Nat.lt_irrefl, Option.toList_some, Option.toList_none, List.cons_append, List.nil_append, true_and, and_true, Nat.reduceAdd, Nat.reduceLeDiff, not_true_eq_false, not_false_eq_true, if_true, if_false, ite_true, ite_false, Int32.reduceLT, ite_not, eq_self, or_true, true_or, ite_self, reduceIte, h4]
      refine u_wrong (f := 1) (p := τ.1) hf ?_
      simp +decide (disch := omega) only [↓EQA, CEA, LIA, NIA, Nat.lt_irrefl, Option.toList_some, Option.toList_none, List.cons_append, List.nil_append, true_and, and_true, Nat.reduceAdd, Nat.reduceLeDiff, not_true_eq_false, not_false_eq_true, if_true, if_false, ite_true, ite_false, Int32.reduceLT, ite_not, eq_self, or_true, true_or, ite_self, reduceIte, B_X11_must_J1]
      obtain ⟨b1, b2⟩ := MSf.bad (τ := τ) (f := 1) hS.1
      refine hQ _ b2 ?_
      have : cst (eWord B n i) (τ, none) = (τ, some (1, τ.1)) := by unfold cst eWord; dsimp only; rw [if_neg (by rw [q]; decide)]; rfl
      rw [this]; exact b1
    · simp +decide (disch := omega) only [↓EQA, CEA, LIA, NIA, Nat.lt_irrefl, Option.toList_some, Option.toList_none, List.cons_append, List.nil_append, true_and, and_true, Nat.reduceAdd, Nat.reduceLeDiff, not_true_eq_false, not_false_eq_true, if_true, if_false, ite_true, ite_false, Int32.reduceLT, ite_not, eq_self, or_true, true_or, ite_self, reduceIte, B_X11_must_J1]
      refine hQ w1 ha1 ?_
      have : cst (eWord B n i) (τ, none) = (nxT B n τ, none) := by unfold cst eWord; dsimp only; rw [if_pos q]; rfl
      rw [this]; exact hS1
end MRead
