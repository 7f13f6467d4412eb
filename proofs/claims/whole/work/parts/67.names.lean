/-! ===== names of the class ===== -/
/-- a name: where it starts and ends, of what sort, its number -/
abbrev Nm4 : Type := Nat × Nat × Nat × Nat
def smB (B : Nat → Nat) (τ : Tk3) (a : Nm4) : Bool := decide (τ.2.1 - τ.1 = a.2.1 - a.1) && decide (frst (fun j => !decide (B (a.1 + j) = B (τ.1 + j))) (a.2.1 - a.1) = a.2.1 - a.1)
abbrev NMs (w : Mem) (n c : Nat) (N : Nat → Nm4) : Prop := w.1 23 4 = nI c ∧ c ≤ 13 ∧ ∀ i, i < c → (w.1 24 i = nI (N i).1 ∧ w.1 25 i = nI (N i).2.1 ∧ w.1 26 i = nI (N i).2.2.1 ∧ w.1 27 i = nI (N i).2.2.2) ∧ (N i).1 ≤ (N i).2.1 ∧ (N i).2.1 ≤ n ∧ (N i).2.2.1 ≤ 12 ∧ (N i).2.2.2 ≤ 5
def fnN (B : Nat → Nat) (τ : Tk3) (N : Nat → Nm4) (c : Nat) : Nat := frst (fun i => smB B τ (N i)) c
section Names
variable {d : Nat} {w : Mem} {Q : Option Value → Mem → Prop} {B : Nat → Nat} {n c : Nat} {τ : Tk3} {bl : Option (Nat × Nat)} {N : Nat → Nm4}
theorem NMs.ag {P : Nat → Nat → Prop} {w1 : Mem} (h : NMs w n c N) (ha : Ag P w w1) (hp : ∀ j i, 23 ≤ j → j ≤ 27 → ¬ P j i) : NMs w1 n c N := by
  obtain ⟨h1, h2, h3⟩ := h
  refine ⟨by rw [(ha 23 4 (hp 23 4 (by decide) (by decide))).1]; exact h1, h2, fun i hi => ⟨?_, (h3 i hi).2⟩⟩
  obtain ⟨⟨a1, a2, a3, a4⟩, -⟩ := h3 i hi
  exact ⟨by rw [(ha 24 i (hp 24 i (by decide) (by decide))).1]; exact a1, by rw [(ha 25 i (hp 25 i (by decide) (by decide))).1]; exact a2, by rw [(ha 26 i (hp 26 i (by decide) (by decide))).1]; exact a3, by rw [(ha 27 i (hp 27 i (by decide) (by decide))).1]; exact a4⟩
theorem t_isSameAs {a : Nm4} (hX : TX w B n) (hC : CTK w τ) (hT : TOKn n τ) (ha1 : a.1 ≤ a.2.1) (ha2 : a.2.1 ≤ n) (hQ : Q (some (.int (bI (smB B τ a = true)))) w) : Cl (d + 1) m_X8_isSameAs [.ref 44, .int (nI a.1), .int (nI a.2.1)] w Q := by
  obtain ⟨x1, x2, x3⟩ := id hX
  obtain ⟨c2, c3, c4⟩ := hC
  obtain ⟨n1, n2, n3⟩ := hT
  have es : nI τ.2.1 - nI τ.1 = nI (τ.2.1 - τ.1) := nI_sub n1
  have ea : nI a.2.1 - nI a.1 = nI (a.2.1 - a.1) := nI_sub ha1
  have ee : (nI (τ.2.1 - τ.1) = nI (a.2.1 - a.1)) = (τ.2.1 - τ.1 = a.2.1 - a.1) := eq_n (by omega) (by omega)
  refine Cl_of k_X8_isSameAs.1 (Nat.le_of_ble_eq_true rfl) (show Wp m_X8_isSameAs _ 0 _ 0 [.ref 44, .int (nI a.1), .int (nI a.2.1), .null] [] _ from S_X8_isSameAs_0 _ _ _ ?_)
  simp +decide (disch := omega) only [↓EQA, CEA, LIA, NIA, Nat.lt_irrefl, Option.toList_some, Option.toList_none, List.cons_append, List.nil_append, true_and, and_true, Nat.reduceAdd, Nat.reduceLeDiff, not_true_eq_false, not_false_eq_true, if_true, if_false, ite_true, ite_false, Int32.reduceLT, ite_not, eq_self, or_true, true_or, ite_self, reduceIte, B_X8_isSameAs_0, c2, c3, es, ea, ee]
  by_cases q : τ.2.1 - τ.1 = a.2.1 - a.1
  · rw [if_pos q]
    have hQ2 : smB B τ a = decide (frst (fun j => !decide (B (a.1 + j) = B (τ.1 + j))) (a.2.1 - a.1) = a.2.1 - a.1) := by unfold smB; simp [q]
    rw [hQ2] at hQ
    suffices key : Wp m_X8_isSameAs d 0 Q 19 [.ref 44, .int (nI a.1), .int (nI a.2.1), .int (nI (a.1 + 0))] [] w from key
    refine frst_loop (p := fun j => !decide (B (a.1 + j) = B (τ.1 + j))) (n := a.2.1 - a.1) (fun j => Wp m_X8_isSameAs d 0 Q 19 [.ref 44, .int (nI a.1), .int (nI a.2.1), .int (nI (a.1 + j))] [] w) ?_ ?_ ?_
    · intro j hj hp he
      have hp2 : ¬ B (a.1 + j) = B (τ.1 + j) := by simpa using hp
      rw [he, show decide (j = a.2.1 - a.1) = false from decide_eq_false (by omega)] at hQ
      have hlt : a.1 + j < a.2.1 := by omega
      have h1 : a.1 + j < 900 := by omega
      have h2 : τ.1 + j < 900 := by omega
      have ei : nI (τ.1 + (a.1 + j)) - nI a.1 = nI (τ.1 + j) := by rw [nI_sub (by omega)]; exact congrArg nI (by omega)
      have e5 : (sbt (B (a.1 + j)) = sbt (B (τ.1 + j))) = False := by rw [sbt_inj (x3 _) (x3 _)]; exact eq_false hp2
      refine S_X8_isSameAs_L1 _ _ _ ?_
      simp +decide (disch := omega) only [↓EQA, CEA, LIA, NIA, Nat.lt_irrefl, Option.toList_some, Option.toList_none, List.cons_append, List.nil_append, true_and, and_true, Nat.reduceAdd, Nat.reduceLeDiff, not_true_eq_false, not_false_eq_true, if_true, if_false, ite_true, ite_false, Int32.reduceLT, ite_not, eq_self, or_true, true_or, ite_self, reduceIte, B_X8_isSameAs_L1, hlt, h1, x1 (a.1 + j) (by omega), c2, nI_add, ei, h2, x1 (τ.1 + j) (by omega), e5]
      exact hQ
    · intro j hj hp hd
      have hp2 : B (a.1 + j) = B (τ.1 + j) := by simpa using hp
      have hlt : a.1 + j < a.2.1 := by omega
      have h1 : a.1 + j < 900 := by omega
      have h2 : τ.1 + j < 900 := by omega
      have ei : nI (τ.1 + (a.1 + j)) - nI a.1 = nI (τ.1 + j) := by rw [nI_sub (by omega)]; exact congrArg nI (by omega)
      have e5 : (sbt (B (a.1 + j)) = sbt (B (τ.1 + j))) = True := by rw [sbt_inj (x3 _) (x3 _)]; exact eq_true hp2
      refine S_X8_isSameAs_L1 _ _ _ ?_
      simp +decide (disch := omega) only [↓EQA, CEA, LIA, NIA, Nat.lt_irrefl, Option.toList_some, Option.toList_none, List.cons_append, List.nil_append, true_and, and_true, Nat.reduceAdd, Nat.reduceLeDiff, not_true_eq_false, not_false_eq_true, if_true, if_false, ite_true, ite_false, Int32.reduceLT, ite_not, eq_self, or_true, true_or, ite_self, reduceIte, B_X8_isSameAs_L1, hlt, h1, x1 (a.1 + j) (by omega), c2, nI_add, ei, h2, x1 (τ.1 + j) (by omega), e5, nI_1]
      exact hd
    · intro he
      rw [he, show decide (a.2.1 - a.1 = a.2.1 - a.1) = true from decide_eq_true rfl] at hQ
      rw [show a.1 + (a.2.1 - a.1) = a.2.1 by omega]
      refine S_X8_isSameAs_L1 _ _ _ ?_
      simp +decide (disch := omega) only [↓EQA, CEA, LIA, NIA, Nat.lt_irrefl, Option.toList_some, Option.toList_none, List.cons_append, List.nil_append, true_and, and_true, Nat.reduceAdd, Nat.reduceLeDiff, not_true_eq_false, not_false_eq_true, if_true, if_false, ite_true, ite_false, Int32.reduceLT, ite_not, eq_self, or_true, true_or, ite_self, reduceIte, B_X8_isSameAs_L1]
      exact hQ
  · rw [if_neg q]
    rw [show smB B τ a = false by unfold smB; simp [q]] at hQ
    exact hQ
theorem t_findN (hX : TX w B n) (hC : CTK w τ) (hT : TOKn n τ) (hN : NMs w n c N) (hQ : Q (some (.int (if fnN B τ N c < c then nI (fnN B τ N c) else -1))) w) : Cl (d + 2) m_X3_find [.ref 23, .ref 44] w Q := by
  obtain ⟨h1, h2, h3⟩ := id hN
  unfold fnN at hQ
  refine Cl_of k_X3_find.1 (Nat.le_of_ble_eq_true rfl) (show Wp m_X3_find _ 0 _ 0 [.ref 23, .ref 44, .null] [] _ from S_X3_find_0 _ _ _ ?_)
  simp +decide (disch := omega) only [↓EQA, CEA, LIA, NIA, Nat.lt_irrefl, Option.toList_some, Option.toList_none, List.cons_append, List.nil_append, true_and, and_true, Nat.reduceAdd, Nat.reduceLeDiff, not_true_eq_false, not_false_eq_true, if_true, if_false, ite_true, ite_false, Int32.reduceLT, ite_not, eq_self, or_true, true_or, ite_self, reduceIte, B_X3_find_0]
  refine frst_loop (p := fun i => smB B τ (N i)) (n := c) (fun i => Wp m_X3_find (d + 1) 0 Q 2 [.ref 23, .ref 44, .int (nI i)] [] w) ?_ ?_ ?_
  · intro i hi hp he
    obtain ⟨⟨a1, a2, a3, a4⟩, b1, b2, b3, b4⟩ := h3 i hi
    have h13 : i < 13 := by omega
    rw [he, if_pos hi] at hQ
    refine S_X3_find_L1 _ _ _ ?_
    simp +decide (disch := omega) only [↓EQA, CEA, LIA, NIA, Nat.lt_irrefl, Option.toList_some, Option.toList_none, List.cons_append, List.nil_append, true_and, and_true, Nat.reduceAdd, Nat.reduceLeDiff, not_true_eq_false, not_false_eq_true, if_true, if_false, ite_true, ite_false, Int32.reduceLT, ite_not, eq_self, or_true, true_or, ite_self, reduceIte, B_X3_find_L1, h1, hi, h13, a1, a2]
    refine t_isSameAs hX hC hT b1 b2 ?_
    simp +decide (disch := omega) only [↓EQA, CEA, LIA, NIA, Nat.lt_irrefl, Option.toList_some, Option.toList_none, List.cons_append, List.nil_append, true_and, and_true, Nat.reduceAdd, Nat.reduceLeDiff, not_true_eq_false, not_false_eq_true, if_true, if_false, ite_true, ite_false, Int32.reduceLT, ite_not, eq_self, or_true, true_or, ite_self, reduceIte, hp]
    exact hQ
  · intro i hi hp hd
    obtain ⟨⟨a1, a2, a3, a4⟩, b1, b2, b3, b4⟩ := h3 i hi
    have h13 : i < 13 := by omega
    refine S_X3_find_L1 _ _ _ ?_
    simp +decide (disch := omega) only [↓EQA, CEA, LIA, NIA, Nat.lt_irrefl, Option.toList_some, Option.toList_none, List.cons_append, List.nil_append, true_and, and_true, Nat.reduceAdd, Nat.reduceLeDiff, not_true_eq_false, not_false_eq_true, if_true, if_false, ite_true, ite_false, Int32.reduceLT, ite_not, eq_self, or_true, true_or, ite_self, reduceIte, B_X3_find_L1, h1, hi, h13, a1, a2]
    refine t_isSameAs hX hC hT b1 b2 ?_
    simp +decide (disch := omega) only [↓EQA, CEA, LIA, NIA, Nat.lt_irrefl, Option.toList_some, Option.toList_none, List.cons_append, List.nil_append, true_and, and_true, Nat.reduceAdd, Nat.reduceLeDiff, not_true_eq_false, not_false_eq_true, if_true, if_false, ite_true, ite_false, Int32.reduceLT, ite_not, eq_self, or_true, true_or, ite_self, reduceIte, hp, nI_1]
    exact hd
  · intro he
    rw [he, if_neg (Nat.lt_irrefl _)] at hQ
    refine S_X3_find_L1 _ _ _ ?_
    simp +decide (disch := omega) only [↓EQA, CEA, LIA, NIA, Nat.lt_irrefl, Option.toList_some, Option.toList_none, List.cons_append, List.nil_append, true_and, and_true, Nat.reduceAdd, Nat.reduceLeDiff, not_true_eq_false, not_false_eq_true, if_true, if_false, ite_true, ite_false, Int32.reduceLT, ite_not, eq_self, or_true, true_or, ite_self, reduceIte, B_X3_find_L1, h1]
    exact hQ
abbrev NaP : Nat → Nat → Prop := fun j i => (j = 44 ∧ 2 ≤ i) ∨ (23 ≤ j ∧ j ≤ 27)
def adN (N : Nat → Nm4) (c : Nat) (a : Nm4) : Nat → Nm4 := fun i => if i = c then a else N i
theorem t_addN {so nu : Nat} (hC : CTK w τ) (hT : TOKn n τ) (hN : NMs w n c N) (hc : c < 13) (hso : so ≤ 12) (hnu : nu ≤ 5) (hQ : ∀ w', Ag (fun j _ => 23 ≤ j ∧ j ≤ 27) w w' → NMs w' n (c + 1) (adN N c (τ.1, τ.2.1, so, nu)) → Q none w') : Cl (d + 1) m_X3_add [.ref 23, .ref 44, .int (nI so), .int (nI nu)] w Q := by
  obtain ⟨h1, h2, h3⟩ := id hN
  obtain ⟨c2, c3, c4⟩ := hC
  have r1 : ∀ v, (wI w 24 c v).1 23 4 = nI c := fun v => by rw [wI_ne (by decide)]; exact h1
  have r2 : ∀ v v', (wI (wI w 24 c v) 25 c v').1 23 4 = nI c := fun v v' => by rw [wI_ne (by decide)]; exact r1 v
  have r3 : ∀ v v' v'', (wI (wI (wI w 24 c v) 25 c v') 26 c v'').1 23 4 = nI c := fun v v' v'' => by rw [wI_ne (by decide)]; exact r2 v v'
  have r4 : ∀ v v' v'' v3, (wI (wI (wI (wI w 24 c v) 25 c v') 26 c v'') 27 c v3).1 23 4 = nI c := fun v v' v'' v3 => by rw [wI_ne (by decide)]; exact r3 v v' v''
  have r5 : ∀ v, (wI w 24 c v).1 44 3 = nI τ.2.1 := fun v => by rw [wI_ne (by decide)]; exact c3
  refine Cl_of k_X3_add.1 (Nat.le_of_ble_eq_true rfl) (show Wp m_X3_add _ 0 _ 0 [.ref 23, .ref 44, .int (nI so), .int (nI nu)] [] _ from S_X3_add_0 _ _ _ ?_)
  simp +decide (disch := omega) only [↓EQA, CEA, LIA, NIA, Nat.lt_irrefl, Option.toList_some, Option.toList_none, List.cons_append, List.nil_append, true_and, and_true, Nat.reduceAdd, Nat.reduceLeDiff, not_true_eq_false, not_false_eq_true, if_true, if_false, ite_true, ite_false, Int32.reduceLT, ite_not, eq_self, or_true, true_or, ite_self, reduceIte, B_X3_add_0, h1, hc, c2, r1, r2, r3, r4, r5, nI_1, B_X3_add_J1]
  refine hQ _ (((((Ag.rf.wI ⟨by decide, by decide⟩).wI ⟨by decide, by decide⟩).wI ⟨by decide, by decide⟩).wI ⟨by decide, by decide⟩).wI ⟨by decide, by decide⟩) ⟨by simp [wI], by omega, fun i hi => ?_⟩
  unfold adN
  by_cases e : i = c
  · subst e
    rw [if_pos rfl]
    exact ⟨⟨by simp [wI], by simp [wI], by simp [wI], by simp [wI]⟩, hT.1, hT.2.1, hso, hnu⟩
  · rw [if_neg e]
    obtain ⟨⟨a1, a2, a3, a4⟩, b⟩ := h3 i (by omega)
    exact ⟨⟨by rw [← a1]; simp [wI, e], by rw [← a2]; simp [wI, e], by rw [← a3]; simp [wI, e], by rw [← a4]; simp [wI, e]⟩, b⟩
end Names
