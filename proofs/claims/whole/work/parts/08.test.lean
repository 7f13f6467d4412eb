theorem t_granted {d : Nat} {w : Mem} {Q : Option Value → Mem → Prop} {x : Int32} (hQ : Q (some (.int x)) (wI w 0 13 0)) : Cl (d + 1) m_X10_granted [.ref 0, .int x] w Q := by
  refine Cl_of k_X10_granted.1 (Nat.le_of_ble_eq_true rfl) (show Wp m_X10_granted _ 0 _ 0 [.ref 0, .int x] [] _ from S_X10_granted_0 _ _ _ ?_)
  simp +decide only [↓EQA, CEA, LIA, Option.toList_some, Option.toList_none, List.cons_append, List.nil_append, true_and, and_true, Nat.reduceAdd, Nat.reduceLeDiff, not_true_eq_false, not_false_eq_true, if_true, if_false, ite_true, ite_false, Int32.reduceLT, ite_not, eq_self, or_true, true_or, ite_self, reduceIte, B_X10_granted_0]
  exact hQ
theorem t_isHouse {d : Nat} {w : Mem} {Q : Option Value → Mem → Prop} {h : Int32} (hQ : Q (some (.int (bI (¬ h < 0 ∧ h < w.1 3 6)))) w) : Cl (d + 1) m_X10_isHouse [.ref 0, .int h] w Q := by
  refine Cl_of k_X10_isHouse.1 (Nat.le_of_ble_eq_true rfl) (show Wp m_X10_isHouse _ 0 _ 0 [.ref 0, .int h] [] _ from S_X10_isHouse_0 _ _ _ ?_)
  simp +decide only [↓EQA, CEA, LIA, Option.toList_some, Option.toList_none, List.cons_append, List.nil_append, true_and, and_true, Nat.reduceAdd, Nat.reduceLeDiff, not_true_eq_false, not_false_eq_true, if_true, if_false, ite_true, ite_false, Int32.reduceLT, ite_not, eq_self, or_true, true_or, ite_self, reduceIte, B_X10_isHouse_0, B_X10_isHouse_22, B_X10_isHouse_23]
  unfold bI at hQ
  split <;> (try split) <;> simp_all
def fld {α : Type} (f : Nat → α → α) : Nat → α → α
  | 0, a => a
  | n + 1, a => f n (fld f n a)
theorem fld_loop {α : Type} {f : Nat → α → α} {n : Nat} {a : α} (head : Nat → α → Prop) (hs : ∀ j, j < n → head (j + 1) (f j (fld f j a)) → head j (fld f j a)) (he : head n (fld f n a)) : head 0 a := by
  have key : ∀ i j, j + i = n → head j (fld f j a) := by
    intro i
    induction i with
    | zero => intro j hj; have : j = n := by omega
              subst this; exact he
    | succ i ih => intro j hj; exact hs j (by omega) (ih (j + 1) (by omega))
  exact key n 0 (by omega)
def bt (x : Int32) (l : Nat) : Prop := (x >>> (nI l &&& 31)) &&& 1 = 1
