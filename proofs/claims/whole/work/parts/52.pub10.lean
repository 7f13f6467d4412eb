/-! ===== weir, rests, rest; fault, where, trouble, size ===== -/
def rsP (x : Int32) (j : Nat) : Bool := irB x (decide (2 ≤ j)) (decide (j % 2 = 1))
section Pub10
variable {d : Nat} {w : Mem} {Q : Option Value → Mem → Prop} {T : Tv} {D F : Nat → Nat} {x y : Int32}
theorem IV.thr {v : Int32} (hI : IV w T D F) : INV (wI w 59 0 v) := by
  have ha : Ag (fun j i => j = 59 ∧ i = 0) w (wI w 59 0 v) := Ag.rf.wI ⟨rfl, rfl⟩
  generalize wI w 59 0 v = w2 at ha
  obtain ⟨hZ, hP, ⟨c1, c2, c3⟩, ⟨m1, m2, m3, m4, m5, m6⟩, ⟨n, m, A, B, k1, k2, k3, k4, k5, k6, k7, k8, k9⟩, ⟨t, t1, t2, t3, t4⟩, f1, f2, f3⟩ := hI
  have g : ∀ j i, ¬ (j = 59 ∧ i = 0) → w2.1 j i = w.1 j i := fun j i z => (ha j i z).1
  have gL : ∀ j i, ¬ (j = 59 ∧ i = 0) → w2.2 j i = w.2 j i := fun j i z => (ha j i z).2
  exact ⟨T, D, F, hZ, hP, ⟨c1.ag ha (fun a b p q z => by omega), c2.ag ha (fun i z => by omega) (fun i z => by omega), c3.ag ha (fun i _ z => by omega) (fun i z => by omega)⟩, ⟨m1.ag ha (fun i z => by omega), m2.ag ha (fun i z => by omega), m3.ag ha (fun i z => by omega), by rw [g 59 22 (by omega)]; exact m4, by rw [g 59 14 (by omega)]; exact m5, fun l hl => by rw [g 62 _ (by omega)]; exact m6 l hl⟩, ⟨n, m, A, B, k1, k2, by rw [g 56 3 (by omega)]; exact k3, by rw [g 56 4 (by omega)]; exact k4, by rw [g 59 20 (by omega)]; exact k5, by rw [g 59 21 (by omega)]; exact k6, fun i hi => ⟨(k7 i hi).1, by rw [gL 57 i (by omega)]; exact (k7 i hi).2.1, fun q hq => by rw [g 65 _ (by omega)]; exact (k7 i hi).2.2 q hq⟩, fun i hi => ⟨(k8 i hi).1, by rw [gL 58 i (by omega)]; exact (k8 i hi).2.1, fun q hq => by rw [g 66 _ (by omega)]; exact (k8 i hi).2.2 q hq⟩, k9⟩, ⟨t, t1, by rw [g 0 1 (by omega)]; exact t2, by rw [g 59 2 (by omega)]; exact t3, fun i hi => by rw [g 60 i (by omega), g 1 i (by omega)]; exact t4 i hi⟩, by rw [g 0 11 (by omega), g 59 9 (by omega)]; exact f1, by rw [g 0 13 (by omega), g 59 11 (by omega)]; exact f2, fun z => by rw [g 0 12 (by omega), g 59 10 (by omega)]; rw [g 0 13 (by omega)] at z; exact f3 z⟩
theorem p_fault (hI : IV w T D F) : PRI (d + 20) m_X10_fault m_X11_fault [.ref 0] [.ref 59] w := by
  intro Q hQ
  refine Cl_of k_X10_fault.1 (Nat.le_of_ble_eq_true rfl) (show Wp m_X10_fault _ 0 _ 0 [.ref 0] [] _ from S_X10_fault_0 _ _ _ ?_)
  simp +decide (disch := omega) only [↓EQA, CEA, LIA, NIA, Nat.lt_irrefl, Option.toList_some, Option.toList_none, List.cons_append, List.nil_append, true_and, and_true, Nat.reduceAdd, Nat.reduceLeDiff, not_true_eq_false, not_false_eq_true, if_true, if_false, ite_true, ite_false, Int32.reduceLT, ite_not, eq_self, or_true, true_or, ite_self, reduceIte, B_X10_fault_0]
  refine hQ _ w fun K hK => ?_
  refine Cl_of k_X11_fault.1 (Nat.le_of_ble_eq_true rfl) (show Wp m_X11_fault _ 0 _ 0 [.ref 59] [] _ from S_X11_fault_0 _ _ _ ?_)
  simp +decide (disch := omega) only [↓EQA, CEA, LIA, NIA, Nat.lt_irrefl, Option.toList_some, Option.toList_none, List.cons_append, List.nil_append, true_and, and_true, Nat.reduceAdd, Nat.reduceLeDiff, not_true_eq_false, not_false_eq_true, if_true, if_false, ite_true, ite_false, Int32.reduceLT, ite_not, eq_self, or_true, true_or, ite_self, reduceIte, B_X11_fault_0]
  have e : (wI w 59 0 0).1 59 9 = w.1 0 11 := by
    have := hI.2.2.2.2.2.2.1
    rw [this]; simp [wI]
  rw [e]
  exact hK _ hI.thr
theorem p_trouble (hI : IV w T D F) : PRI (d + 20) m_X10_trouble m_X11_trouble [.ref 0] [.ref 59] w := by
  intro Q hQ
  refine Cl_of k_X10_trouble.1 (Nat.le_of_ble_eq_true rfl) (show Wp m_X10_trouble _ 0 _ 0 [.ref 0] [] _ from S_X10_trouble_0 _ _ _ ?_)
  simp +decide (disch := omega) only [↓EQA, CEA, LIA, NIA, Nat.lt_irrefl, Option.toList_some, Option.toList_none, List.cons_append, List.nil_append, true_and, and_true, Nat.reduceAdd, Nat.reduceLeDiff, not_true_eq_false, not_false_eq_true, if_true, if_false, ite_true, ite_false, Int32.reduceLT, ite_not, eq_self, or_true, true_or, ite_self, reduceIte, B_X10_trouble_0]
  refine hQ _ w fun K hK => ?_
  refine Cl_of k_X11_trouble.1 (Nat.le_of_ble_eq_true rfl) (show Wp m_X11_trouble _ 0 _ 0 [.ref 59] [] _ from S_X11_trouble_0 _ _ _ ?_)
  simp +decide (disch := omega) only [↓EQA, CEA, LIA, NIA, Nat.lt_irrefl, Option.toList_some, Option.toList_none, List.cons_append, List.nil_append, true_and, and_true, Nat.reduceAdd, Nat.reduceLeDiff, not_true_eq_false, not_false_eq_true, if_true, if_false, ite_true, ite_false, Int32.reduceLT, ite_not, eq_self, or_true, true_or, ite_self, reduceIte, B_X11_trouble_0]
  have e : (wI w 59 0 0).1 59 11 = w.1 0 13 := by
    have := hI.2.2.2.2.2.2.2.1
    rw [this]; simp [wI]
  rw [e]
  exact hK _ hI.thr
theorem p_where (hI : IV w T D F) : PRI (d + 20) m_X10_where m_X11_where [.ref 0] [.ref 59] w := by
  have e11 : (wI w 59 0 0).1 59 11 = w.1 0 13 := by
    have := hI.2.2.2.2.2.2.2.1
    rw [this]; simp [wI]
  intro Q hQ
  refine Cl_of k_X10_where.1 (Nat.le_of_ble_eq_true rfl) (show Wp m_X10_where _ 0 _ 0 [.ref 0] [] _ from S_X10_where_0 _ _ _ ?_)
  simp +decide (disch := omega) only [↓EQA, CEA, LIA, NIA, Nat.lt_irrefl, Option.toList_some, Option.toList_none, List.cons_append, List.nil_append, true_and, and_true, Nat.reduceAdd, Nat.reduceLeDiff, not_true_eq_false, not_false_eq_true, if_true, if_false, ite_true, ite_false, Int32.reduceLT, ite_not, eq_self, or_true, true_or, ite_self, reduceIte, B_X10_where_0, B_X10_where_J1]
  by_cases q : w.1 0 13 = 4
  · rw [if_pos q]
    refine hQ _ w fun K hK => ?_
    refine Cl_of k_X11_where.1 (Nat.le_of_ble_eq_true rfl) (show Wp m_X11_where _ 0 _ 0 [.ref 59] [] _ from S_X11_where_0 _ _ _ ?_)
    have e10 : (wI w 59 0 0).1 59 10 = w.1 0 12 := by
      have := hI.2.2.2.2.2.2.2.2 q
      rw [this]; simp [wI]
    simp +decide (disch := omega) only [↓EQA, CEA, LIA, NIA, Nat.lt_irrefl, Option.toList_some, Option.toList_none, List.cons_append, List.nil_append, true_and, and_true, Nat.reduceAdd, Nat.reduceLeDiff, not_true_eq_false, not_false_eq_true, if_true, if_false, ite_true, ite_false, Int32.reduceLT, ite_not, eq_self, or_true, true_or, ite_self, reduceIte, B_X11_where_0, B_X11_where_J1, e11, q, e10]
    exact hK _ hI.thr
  · rw [if_neg q]
    refine hQ _ w fun K hK => ?_
    refine Cl_of k_X11_where.1 (Nat.le_of_ble_eq_true rfl) (show Wp m_X11_where _ 0 _ 0 [.ref 59] [] _ from S_X11_where_0 _ _ _ ?_)
    simp +decide (disch := omega) only [↓EQA, CEA, LIA, NIA, Nat.lt_irrefl, Option.toList_some, Option.toList_none, List.cons_append, List.nil_append, true_and, and_true, Nat.reduceAdd, Nat.reduceLeDiff, not_true_eq_false, not_false_eq_true, if_true, if_false, ite_true, ite_false, Int32.reduceLT, ite_not, eq_self, or_true, true_or, ite_self, reduceIte, B_X11_where_0, B_X11_where_J1, e11, q]
    exact hK _ hI.thr
theorem u_why1 {q : Prop} [Decidable q] (hQ : Q (some (.int (if q then 0 else 2))) w) : Cl (d + 1) m_X11_why [.ref 59, .int 1, .int (bI q)] w Q := by
  refine Cl_of k_X11_why.1 (Nat.le_of_ble_eq_true rfl) (show Wp m_X11_why _ 0 _ 0 [.ref 59, .int 1, .int (bI q)] [] _ from S_X11_why_0 _ _ _ ?_)
  by_cases h : q
  · rw [show bI q = 1 from if_pos h]; rw [if_pos h] at hQ; simp +decide (disch := omega) only [↓EQA, CEA, LIA, NIA, Nat.lt_irrefl, Option.toList_some, Option.toList_none, List.cons_append, List.nil_append, true_and, and_true, Nat.reduceAdd, Nat.reduceLeDiff, not_true_eq_false, not_false_eq_true, if_true, if_false, ite_true, ite_false, Int32.reduceLT, ite_not, eq_self, or_true, true_or, ite_self, reduceIte, B_X11_why_0, B_X11_why_J1]; exact hQ
  · rw [show bI q = 0 from if_neg h]; rw [if_neg h] at hQ; simp +decide (disch := omega) only [↓EQA, CEA, LIA, NIA, Nat.lt_irrefl, Option.toList_some, Option.toList_none, List.cons_append, List.nil_append, true_and, and_true, Nat.reduceAdd, Nat.reduceLeDiff, not_true_eq_false, not_false_eq_true, if_true, if_false, ite_true, ite_false, Int32.reduceLT, ite_not, eq_self, or_true, true_or, ite_self, reduceIte, B_X11_why_0, B_X11_why_J1]; exact hQ
theorem u_why0 (hQ : Q (some (.int 1)) w) : Cl (d + 1) m_X11_why [.ref 59, .int 0, .int y] w Q := by
  refine Cl_of k_X11_why.1 (Nat.le_of_ble_eq_true rfl) (show Wp m_X11_why _ 0 _ 0 [.ref 59, .int 0, .int y] [] _ from S_X11_why_0 _ _ _ ?_)
  simp +decide (disch := omega) only [↓EQA, CEA, LIA, NIA, Nat.lt_irrefl, Option.toList_some, Option.toList_none, List.cons_append, List.nil_append, true_and, and_true, Nat.reduceAdd, Nat.reduceLeDiff, not_true_eq_false, not_false_eq_true, if_true, if_false, ite_true, ite_false, Int32.reduceLT, ite_not, eq_self, or_true, true_or, ite_self, reduceIte, B_X11_why_0, B_X11_why_J1]
  exact hQ
theorem why_4 {a b : Bool} : ¬ (if a = false then (1 : Int32) else if b = true then 0 else 2) = 4 := by cases a <;> cases b <;> decide
theorem p_weir {b1 b2 b3 : Bool} (hI : IV w T D F) : PRI (d + 20) m_X10_weir m_X11_weir [.ref 0, .int x, .int (bI (b1 = true)), .int (bI (b2 = true)), .int (bI (b3 = true))] [.ref 59, .int x, .int (bI (b1 = true)), .int (bI (b2 = true)), .int (bI (b3 = true))] w := by
  obtain ⟨hZ, hP, ⟨c1, c2, c3⟩, -⟩ := id hI
  by_cases g : 1 ≤ nH T ∧ (¬ x < 0 ∧ ¬ 9 < x)
  · have e1 : decide (1 ≤ nH T) = true := decide_eq_true g.1
    have e2 : decide (¬ x < 0 ∧ ¬ 9 < x) = true := decide_eq_true g.2
    refine askI (v := if b3 then wvI x b2 b1 else wvI x b1 b2) (tr := 0) hI (by decide) (fun Q hQ => ?_) (fun w1 K hM hK => ?_)
    · have hf : CAf w (wI w 0 13 0) T 0 := ⟨Ag.rf.wI (Or.inl ⟨rfl, rfl⟩), c3.ag (P := fun j _ => j = 0) (Ag.rf.wI rfl) (fun i _ z => by omega) (fun i z => by omega), by simp [wI]⟩
      refine Cl_of k_X10_weir.1 (Nat.le_of_ble_eq_true rfl) (show Wp m_X10_weir _ 0 _ 0 [.ref 0, .int x, .int (bI (b1 = true)), .int (bI (b2 = true)), .int (bI (b3 = true)), .null] [] _ from S_X10_weir_0 _ _ _ ?_)
      simp +decide (disch := omega) only [↓EQA, CEA, LIA, NIA, Nat.lt_irrefl, Option.toList_some, Option.toList_none, List.cons_append, List.nil_append, true_and, and_true, Nat.reduceAdd, Nat.reduceLeDiff, not_true_eq_false, not_false_eq_true, if_true, if_false, ite_true, ite_false, Int32.reduceLT, ite_not, eq_self, or_true, true_or, ite_self, reduceIte, B_X10_weir_0]
      refine t_whyNoWeir c1 hZ ?_
      rw [e1, e2]
      cases b3 <;> (simp +decide (disch := omega) only [↓EQA, CEA, LIA, NIA, Nat.lt_irrefl, Option.toList_some, Option.toList_none, List.cons_append, List.nil_append, true_and, and_true, Nat.reduceAdd, Nat.reduceLeDiff, not_true_eq_false, not_false_eq_true, if_true, if_false, ite_true, ite_false, Int32.reduceLT, ite_not, eq_self, or_true, true_or, ite_self, reduceIte]; refine t_payoff ?_; simp +decide (disch := omega) only [↓EQA, CEA, LIA, NIA, Nat.lt_irrefl, Option.toList_some, Option.toList_none, List.cons_append, List.nil_append, true_and, and_true, Nat.reduceAdd, Nat.reduceLeDiff, not_true_eq_false, not_false_eq_true, if_true, if_false, ite_true, ite_false, Int32.reduceLT, ite_not, eq_self, or_true, true_or, ite_self, reduceIte, B_X10_weir_J1]; exact hQ _ hf)
    · refine Cl_of k_X11_weir.1 (Nat.le_of_ble_eq_true rfl) (show Wp m_X11_weir _ 0 _ 0 [.ref 59, .int x, .int (bI (b1 = true)), .int (bI (b2 = true)), .int (bI (b3 = true)), .null] [] _ from S_X11_weir_0 _ _ _ ?_)
      simp +decide (disch := omega) only [↓EQA, CEA, LIA, NIA, Nat.lt_irrefl, Option.toList_some, Option.toList_none, List.cons_append, List.nil_append, true_and, and_true, Nat.reduceAdd, Nat.reduceLeDiff, not_true_eq_false, not_false_eq_true, if_true, if_false, ite_true, ite_false, Int32.reduceLT, ite_not, eq_self, or_true, true_or, ite_self, reduceIte, B_X11_weir_0]
      refine u_goodG hM fun wg hMg hA h11 => ?_
      simp +decide (disch := omega) only [↓EQA, CEA, LIA, NIA, Nat.lt_irrefl, Option.toList_some, Option.toList_none, List.cons_append, List.nil_append, true_and, and_true, Nat.reduceAdd, Nat.reduceLeDiff, not_true_eq_false, not_false_eq_true, if_true, if_false, ite_true, ite_false, Int32.reduceLT, ite_not, eq_self, or_true, true_or, ite_self, reduceIte, e14 hMg g.1]
      refine u_in ?_
      simp +decide (disch := omega) only [↓EQA, CEA, LIA, NIA, Nat.lt_irrefl, Option.toList_some, Option.toList_none, List.cons_append, List.nil_append, true_and, and_true, Nat.reduceAdd, Nat.reduceLeDiff, not_true_eq_false, not_false_eq_true, if_true, if_false, ite_true, ite_false, Int32.reduceLT, ite_not, eq_self, or_true, true_or, ite_self, reduceIte]
      have := u_why (d := d + 18) (w := wg) (a := true) (b := decide (¬ x < 0 ∧ ¬ 9 < x)) (Q := fun v w' => o_istore 5 (o_iload 5 (o_ifne (o_iload 4 (o_ifeq (o_iload 1 (o_iload 2 (o_iload 3 (o_callS3 m_X11_weirOf (d + 19) (B_X11_weir_J1 (d + 19) 0 K))))) (o_iload 1 (o_iload 3 (o_iload 2 (o_callS3 m_X11_weirOf (d + 19) (B_X11_weir_J1 (d + 19) 0 K))))))) (o_aload 0 (o_iload 5 (o_putI 11 11 (o_iconst (-100) (o_iret K))))))) [.ref 59, .int x, .int (bI (b1 = true)), .int (bI (b2 = true)), .int (bI (b3 = true)), .null] (v.toList ++ []) w') (by
        rw [e2]
        cases b3 <;> (simp +decide (disch := omega) only [↓EQA, CEA, LIA, NIA, Nat.lt_irrefl, Option.toList_some, Option.toList_none, List.cons_append, List.nil_append, true_and, and_true, Nat.reduceAdd, Nat.reduceLeDiff, not_true_eq_false, not_false_eq_true, if_true, if_false, ite_true, ite_false, Int32.reduceLT, ite_not, eq_self, or_true, true_or, ite_self, reduceIte]; refine u_weirOf ?_; simp +decide (disch := omega) only [↓EQA, CEA, LIA, NIA, Nat.lt_irrefl, Option.toList_some, Option.toList_none, List.cons_append, List.nil_append, true_and, and_true, Nat.reduceAdd, Nat.reduceLeDiff, not_true_eq_false, not_false_eq_true, if_true, if_false, ite_true, ite_false, Int32.reduceLT, ite_not, eq_self, or_true, true_or, ite_self, reduceIte, B_X11_weir_J1]; exact hK _ ⟨hA, hMg.2.2.2.1, h11⟩))
      rw [show bI (decide (¬ x < 0 ∧ ¬ 9 < x) = true) = bI (¬ x < 0 ∧ ¬ 9 < x) by unfold bI; simp only [decide_eq_true_eq]] at this
      exact this
  · refine askI (v := -100) (tr := if decide (1 ≤ nH T) = false then 1 else if decide (¬ x < 0 ∧ ¬ 9 < x) = true then 0 else 2) hI why_4 (fun Q hQ => ?_) (fun w1 K hM hK => ?_)
    · have e0 : ((if decide (1 ≤ nH T) = false then (1 : Int32) else if decide (¬ x < 0 ∧ ¬ 9 < x) = true then 0 else 2) = 0) = False := eq_false fun z => by
        by_cases a : 1 ≤ nH T
        · by_cases b : ¬ x < 0 ∧ ¬ 9 < x
          · exact g ⟨a, b⟩
          · rw [if_neg (by rw [decide_eq_false_iff_not]; exact fun y => y a), if_neg (fun y => b (of_decide_eq_true y))] at z; exact absurd z (by decide)
        · rw [if_pos (decide_eq_false a)] at z; exact absurd z (by decide)
      refine Cl_of k_X10_weir.1 (Nat.le_of_ble_eq_true rfl) (show Wp m_X10_weir _ 0 _ 0 [.ref 0, .int x, .int (bI (b1 = true)), .int (bI (b2 = true)), .int (bI (b3 = true)), .null] [] _ from S_X10_weir_0 _ _ _ ?_)
      simp +decide (disch := omega) only [↓EQA, CEA, LIA, NIA, Nat.lt_irrefl, Option.toList_some, Option.toList_none, List.cons_append, List.nil_append, true_and, and_true, Nat.reduceAdd, Nat.reduceLeDiff, not_true_eq_false, not_false_eq_true, if_true, if_false, ite_true, ite_false, Int32.reduceLT, ite_not, eq_self, or_true, true_or, ite_self, reduceIte, B_X10_weir_0]
      refine t_whyNoWeir c1 hZ ?_
      generalize (if decide (1 ≤ nH T) = false then (1 : Int32) else if decide (¬ x < 0 ∧ ¬ 9 < x) = true then 0 else 2) = tr at e0 hQ
      simp +decide (disch := omega) only [↓EQA, CEA, LIA, NIA, Nat.lt_irrefl, Option.toList_some, Option.toList_none, List.cons_append, List.nil_append, true_and, and_true, Nat.reduceAdd, Nat.reduceLeDiff, not_true_eq_false, not_false_eq_true, if_true, if_false, ite_true, ite_false, Int32.reduceLT, ite_not, eq_self, or_true, true_or, ite_self, reduceIte, e0]
      exact hQ _ ⟨Ag.rf.wI (Or.inl ⟨rfl, rfl⟩), c3.ag (P := fun j _ => j = 0) (Ag.rf.wI rfl) (fun i _ z => by omega) (fun i z => by omega), by simp [wI]⟩
    · refine Cl_of k_X11_weir.1 (Nat.le_of_ble_eq_true rfl) (show Wp m_X11_weir _ 0 _ 0 [.ref 59, .int x, .int (bI (b1 = true)), .int (bI (b2 = true)), .int (bI (b3 = true)), .null] [] _ from S_X11_weir_0 _ _ _ ?_)
      simp +decide (disch := omega) only [↓EQA, CEA, LIA, NIA, Nat.lt_irrefl, Option.toList_some, Option.toList_none, List.cons_append, List.nil_append, true_and, and_true, Nat.reduceAdd, Nat.reduceLeDiff, not_true_eq_false, not_false_eq_true, if_true, if_false, ite_true, ite_false, Int32.reduceLT, ite_not, eq_self, or_true, true_or, ite_self, reduceIte, B_X11_weir_0]
      refine u_goodG hM fun wg hMg hA h11 => ?_
      have fin : ∀ v : Int32, MAf w1 (wI wg 59 11 v) v := fun v => ⟨hA.wI (Or.inl ⟨rfl, Or.inr (Or.inl rfl)⟩), by rw [← hMg.2.2.2.1]; simp [wI], by simp [wI]⟩
      by_cases a : 1 ≤ nH T
      · have b : ¬ (¬ x < 0 ∧ ¬ 9 < x) := fun b => g ⟨a, b⟩
        rw [if_neg (by rw [decide_eq_false_iff_not]; exact fun y => y a), if_neg (fun y => b (of_decide_eq_true y))] at hK
        simp +decide (disch := omega) only [↓EQA, CEA, LIA, NIA, Nat.lt_irrefl, Option.toList_some, Option.toList_none, List.cons_append, List.nil_append, true_and, and_true, Nat.reduceAdd, Nat.reduceLeDiff, not_true_eq_false, not_false_eq_true, if_true, if_false, ite_true, ite_false, Int32.reduceLT, ite_not, eq_self, or_true, true_or, ite_self, reduceIte, e14 hMg a]
        refine u_in ?_
        simp +decide (disch := omega) only [↓EQA, CEA, LIA, NIA, Nat.lt_irrefl, Option.toList_some, Option.toList_none, List.cons_append, List.nil_append, true_and, and_true, Nat.reduceAdd, Nat.reduceLeDiff, not_true_eq_false, not_false_eq_true, if_true, if_false, ite_true, ite_false, Int32.reduceLT, ite_not, eq_self, or_true, true_or, ite_self, reduceIte]
        refine u_why1 ?_
        rw [if_neg b]
        simp +decide (disch := omega) only [↓EQA, CEA, LIA, NIA, Nat.lt_irrefl, Option.toList_some, Option.toList_none, List.cons_append, List.nil_append, true_and, and_true, Nat.reduceAdd, Nat.reduceLeDiff, not_true_eq_false, not_false_eq_true, if_true, if_false, ite_true, ite_false, Int32.reduceLT, ite_not, eq_self, or_true, true_or, ite_self, reduceIte]
        exact hK _ (fin 2)
      · rw [if_pos (decide_eq_false a)] at hK
        simp +decide (disch := omega) only [↓EQA, CEA, LIA, NIA, Nat.lt_irrefl, Option.toList_some, Option.toList_none, List.cons_append, List.nil_append, true_and, and_true, Nat.reduceAdd, Nat.reduceLeDiff, not_true_eq_false, not_false_eq_true, if_true, if_false, ite_true, ite_false, Int32.reduceLT, ite_not, eq_self, or_true, true_or, ite_self, reduceIte, e14n hMg a]
        refine u_in ?_
        simp +decide (disch := omega) only [↓EQA, CEA, LIA, NIA, Nat.lt_irrefl, Option.toList_some, Option.toList_none, List.cons_append, List.nil_append, true_and, and_true, Nat.reduceAdd, Nat.reduceLeDiff, not_true_eq_false, not_false_eq_true, if_true, if_false, ite_true, ite_false, Int32.reduceLT, ite_not, eq_self, or_true, true_or, ite_self, reduceIte]
        refine u_why0 ?_
        simp +decide (disch := omega) only [↓EQA, CEA, LIA, NIA, Nat.lt_irrefl, Option.toList_some, Option.toList_none, List.cons_append, List.nil_append, true_and, and_true, Nat.reduceAdd, Nat.reduceLeDiff, not_true_eq_false, not_false_eq_true, if_true, if_false, ite_true, ite_false, Int32.reduceLT, ite_not, eq_self, or_true, true_or, ite_self, reduceIte]
        exact hK _ (fin 1)
theorem u_seekRests (hQ : ∀ w', Ag (fun j i => j = 59 ∧ i = 42) w w' → w'.1 59 42 = (if frst (rsP x) 4 < 4 then nI (frst (rsP x) 4 / 2 * 10 + frst (rsP x) 4 % 2) else -2) → Q (some (.int (nI (cnt (rsP x) 4)))) w') : Cl (d + 3) m_X11_seekRests [.ref 59, .int x] w Q := by
  refine Cl_of k_X11_seekRests.1 (Nat.le_of_ble_eq_true rfl) (show Wp m_X11_seekRests _ 0 _ 0 [.ref 59, .int x, .null, .null] [] _ from S_X11_seekRests_0 _ _ _ ?_)
  simp +decide (disch := omega) only [↓EQA, CEA, LIA, NIA, Nat.lt_irrefl, Option.toList_some, Option.toList_none, List.cons_append, List.nil_append, true_and, and_true, Nat.reduceAdd, Nat.reduceLeDiff, not_true_eq_false, not_false_eq_true, if_true, if_false, ite_true, ite_false, Int32.reduceLT, ite_not, eq_self, or_true, true_or, ite_self, reduceIte, B_X11_seekRests_0]
  have key : ∀ m j, j + m = 4 → ∀ w1, Ag (fun j i => j = 59 ∧ i = 42) w w1 → w1.1 59 42 = (if frst (rsP x) j < j then nI (frst (rsP x) j / 2 * 10 + frst (rsP x) j % 2) else -2) → Wp m_X11_seekRests (d + 2) 0 Q 10 [.ref 59, .int x, .int (nI (cnt (rsP x) j)), .int (nI j)] [] w1 := by
    intro m
    induction m with
    | zero =>
      intro j hj w1 ha h42
      have : j = 4 := by omega
      subst this
      refine S_X11_seekRests_L1 _ _ _ ?_
      simp +decide (disch := omega) only [↓EQA, CEA, LIA, NIA, Nat.lt_irrefl, Option.toList_some, Option.toList_none, List.cons_append, List.nil_append, true_and, and_true, Nat.reduceAdd, Nat.reduceLeDiff, not_true_eq_false, not_false_eq_true, if_true, if_false, ite_true, ite_false, Int32.reduceLT, ite_not, eq_self, or_true, true_or, ite_self, reduceIte, B_X11_seekRests_L1]
      exact hQ w1 ha h42
    | succ m ih =>
      intro j hj w1 ha h42
      have hc := cnt_le (rsP x) j
      have hs := frst_spec (rsP x) j
      have ec : cnt (rsP x) (j + 1) = if (rsP x) j = true then cnt (rsP x) j + 1 else cnt (rsP x) j := rfl
      have ef : frst (rsP x) (j + 1) = if frst (rsP x) j < j then frst (rsP x) j else if (rsP x) j = true then j else j + 1 := rfl
      have e0 : cnt (rsP x) j = 0 ↔ ¬ frst (rsP x) j < j := by
        constructor
        · intro z hlt
          have := cnt_mono hlt (hs.2.2 hlt)
          omega
        · intro z
          exact cnt_false fun i hi => hs.2.1 i (by omega)
      have ih2 := ih (j + 1) (by omega)
      generalize hcn : cnt (rsP x) j = c at hc ec e0 ⊢
      generalize hfn : frst (rsP x) j = f at ef e0 hs h42
      rcases (by omega : j = 0 ∨ j = 1 ∨ j = 2 ∨ j = 3) with rfl | rfl | rfl | rfl
      · have e9 : nI 0 - nI 0 / 2 * 2 = 0 := by decide
        have e8 : (10 : Int32) * (nI 0 / 2) + 0 = nI (0 / 2 * 10 + 0 % 2) := by decide
        have ep : rsP x 0 = irB x false false := rfl
        rw [ep] at ec ef
        refine S_X11_seekRests_L1 _ _ _ ?_
        simp +decide (disch := omega) only [↓EQA, CEA, LIA, NIA, Nat.lt_irrefl, Option.toList_some, Option.toList_none, List.cons_append, List.nil_append, true_and, and_true, Nat.reduceAdd, Nat.reduceLeDiff, not_true_eq_false, not_false_eq_true, if_true, if_false, ite_true, ite_false, Int32.reduceLT, ite_not, eq_self, or_true, true_or, ite_self, reduceIte, B_X11_seekRests_L1, B_X11_seekRests_J1, B_X11_seekRests_J2, B_X11_seekRests_J3, B_X11_seekRests_J4, e9]
        refine u_isRest (b := false) (o := false) ?_
        cases hb : irB x false false
        · simp only [hb, if_false, Bool.false_eq_true] at ec ef
          simp +decide (disch := omega) only [↓EQA, CEA, LIA, NIA, Nat.lt_irrefl, Option.toList_some, Option.toList_none, List.cons_append, List.nil_append, true_and, and_true, Nat.reduceAdd, Nat.reduceLeDiff, not_true_eq_false, not_false_eq_true, if_true, if_false, ite_true, ite_false, Int32.reduceLT, ite_not, eq_self, or_true, true_or, ite_self, reduceIte, B_X11_seekRests_J1, B_X11_seekRests_J2, B_X11_seekRests_J3, B_X11_seekRests_J4]
          have := ih2 w1 ha (by
            rw [h42, ef]
            by_cases z : f < 0
            · rw [if_pos z, if_pos z, if_pos (by omega)]
            · rw [if_neg z, if_neg z, if_neg (by omega)])
          rw [ec] at this
          exact this
        · simp only [hb, if_true] at ec ef
          by_cases z : c = 0
          · have z2 := e0.mp z
            simp +decide (disch := omega) only [↓EQA, CEA, LIA, NIA, Nat.lt_irrefl, Option.toList_some, Option.toList_none, List.cons_append, List.nil_append, true_and, and_true, Nat.reduceAdd, Nat.reduceLeDiff, not_true_eq_false, not_false_eq_true, if_true, if_false, ite_true, ite_false, Int32.reduceLT, ite_not, eq_self, or_true, true_or, ite_self, reduceIte, z, e9, e8, B_X11_seekRests_J1, B_X11_seekRests_J2, B_X11_seekRests_J3, B_X11_seekRests_J4]
            have := ih2 (wI w1 59 42 (nI (0 / 2 * 10 + 0 % 2))) (ha.wI ⟨rfl, rfl⟩) (by
              rw [ef, if_neg z2, if_pos (by decide)]
              simp [wI])
            rw [ec, z] at this
            exact this
          · have z2 : f < 0 := Classical.byContradiction fun y => z (e0.mpr y)
            simp +decide (disch := omega) only [↓EQA, CEA, LIA, NIA, Nat.lt_irrefl, Option.toList_some, Option.toList_none, List.cons_append, List.nil_append, true_and, and_true, Nat.reduceAdd, Nat.reduceLeDiff, not_true_eq_false, not_false_eq_true, if_true, if_false, ite_true, ite_false, Int32.reduceLT, ite_not, eq_self, or_true, true_or, ite_self, reduceIte, z, B_X11_seekRests_J1, B_X11_seekRests_J2, B_X11_seekRests_J3, B_X11_seekRests_J4]
            have := ih2 w1 ha (by
              rw [h42, ef, if_pos z2, if_pos z2, if_pos (by omega)])
            rw [ec] at this
            exact this
      · have e9 : nI 1 - nI 1 / 2 * 2 = 1 := by decide
        have e8 : (10 : Int32) * (nI 1 / 2) + 1 = nI (1 / 2 * 10 + 1 % 2) := by decide
        have ep : rsP x 1 = irB x false true := rfl
        rw [ep] at ec ef
        refine S_X11_seekRests_L1 _ _ _ ?_
        simp +decide (disch := omega) only [↓EQA, CEA, LIA, NIA, Nat.lt_irrefl, Option.toList_some, Option.toList_none, List.cons_append, List.nil_append, true_and, and_true, Nat.reduceAdd, Nat.reduceLeDiff, not_true_eq_false, not_false_eq_true, if_true, if_false, ite_true, ite_false, Int32.reduceLT, ite_not, eq_self, or_true, true_or, ite_self, reduceIte, B_X11_seekRests_L1, B_X11_seekRests_J1, B_X11_seekRests_J2, B_X11_seekRests_J3, B_X11_seekRests_J4, e9]
        refine u_isRest (b := false) (o := true) ?_
        cases hb : irB x false true
        · simp only [hb, if_false, Bool.false_eq_true] at ec ef
          simp +decide (disch := omega) only [↓EQA, CEA, LIA, NIA, Nat.lt_irrefl, Option.toList_some, Option.toList_none, List.cons_append, List.nil_append, true_and, and_true, Nat.reduceAdd, Nat.reduceLeDiff, not_true_eq_false, not_false_eq_true, if_true, if_false, ite_true, ite_false, Int32.reduceLT, ite_not, eq_self, or_true, true_or, ite_self, reduceIte, B_X11_seekRests_J1, B_X11_seekRests_J2, B_X11_seekRests_J3, B_X11_seekRests_J4]
          have := ih2 w1 ha (by
            rw [h42, ef]
            by_cases z : f < 1
            · rw [if_pos z, if_pos z, if_pos (by omega)]
            · rw [if_neg z, if_neg z, if_neg (by omega)])
          rw [ec] at this
          exact this
        · simp only [hb, if_true] at ec ef
          by_cases z : c = 0
          · have z2 := e0.mp z
            simp +decide (disch := omega) only [↓EQA, CEA, LIA, NIA, Nat.lt_irrefl, Option.toList_some, Option.toList_none, List.cons_append, List.nil_append, true_and, and_true, Nat.reduceAdd, Nat.reduceLeDiff, not_true_eq_false, not_false_eq_true, if_true, if_false, ite_true, ite_false, Int32.reduceLT, ite_not, eq_self, or_true, true_or, ite_self, reduceIte, z, e9, e8, B_X11_seekRests_J1, B_X11_seekRests_J2, B_X11_seekRests_J3, B_X11_seekRests_J4]
            have := ih2 (wI w1 59 42 (nI (1 / 2 * 10 + 1 % 2))) (ha.wI ⟨rfl, rfl⟩) (by
              rw [ef, if_neg z2, if_pos (by decide)]
              simp [wI])
            rw [ec, z] at this
            exact this
          · have z2 : f < 1 := Classical.byContradiction fun y => z (e0.mpr y)
            simp +decide (disch := omega) only [↓EQA, CEA, LIA, NIA, Nat.lt_irrefl, Option.toList_some, Option.toList_none, List.cons_append, List.nil_append, true_and, and_true, Nat.reduceAdd, Nat.reduceLeDiff, not_true_eq_false, not_false_eq_true, if_true, if_false, ite_true, ite_false, Int32.reduceLT, ite_not, eq_self, or_true, true_or, ite_self, reduceIte, z, B_X11_seekRests_J1, B_X11_seekRests_J2, B_X11_seekRests_J3, B_X11_seekRests_J4]
            have := ih2 w1 ha (by
              rw [h42, ef, if_pos z2, if_pos z2, if_pos (by omega)])
            rw [ec] at this
            exact this
      · have e9 : nI 2 - nI 2 / 2 * 2 = 0 := by decide
        have e8 : (10 : Int32) * (nI 2 / 2) + 0 = nI (2 / 2 * 10 + 2 % 2) := by decide
        have ep : rsP x 2 = irB x true false := rfl
        rw [ep] at ec ef
        refine S_X11_seekRests_L1 _ _ _ ?_
        simp +decide (disch := omega) only [↓EQA, CEA, LIA, NIA, Nat.lt_irrefl, Option.toList_some, Option.toList_none, List.cons_append, List.nil_append, true_and, and_true, Nat.reduceAdd, Nat.reduceLeDiff, not_true_eq_false, not_false_eq_true, if_true, if_false, ite_true, ite_false, Int32.reduceLT, ite_not, eq_self, or_true, true_or, ite_self, reduceIte, B_X11_seekRests_L1, B_X11_seekRests_J1, B_X11_seekRests_J2, B_X11_seekRests_J3, B_X11_seekRests_J4, e9]
        refine u_isRest (b := true) (o := false) ?_
        cases hb : irB x true false
        · simp only [hb, if_false, Bool.false_eq_true] at ec ef
          simp +decide (disch := omega) only [↓EQA, CEA, LIA, NIA, Nat.lt_irrefl, Option.toList_some, Option.toList_none, List.cons_append, List.nil_append, true_and, and_true, Nat.reduceAdd, Nat.reduceLeDiff, not_true_eq_false, not_false_eq_true, if_true, if_false, ite_true, ite_false, Int32.reduceLT, ite_not, eq_self, or_true, true_or, ite_self, reduceIte, B_X11_seekRests_J1, B_X11_seekRests_J2, B_X11_seekRests_J3, B_X11_seekRests_J4]
          have := ih2 w1 ha (by
            rw [h42, ef]
            by_cases z : f < 2
            · rw [if_pos z, if_pos z, if_pos (by omega)]
            · rw [if_neg z, if_neg z, if_neg (by omega)])
          rw [ec] at this
          exact this
        · simp only [hb, if_true] at ec ef
          by_cases z : c = 0
          · have z2 := e0.mp z
            simp +decide (disch := omega) only [↓EQA, CEA, LIA, NIA, Nat.lt_irrefl, Option.toList_some, Option.toList_none, List.cons_append, List.nil_append, true_and, and_true, Nat.reduceAdd, Nat.reduceLeDiff, not_true_eq_false, not_false_eq_true, if_true, if_false, ite_true, ite_false, Int32.reduceLT, ite_not, eq_self, or_true, true_or, ite_self, reduceIte, z, e9, e8, B_X11_seekRests_J1, B_X11_seekRests_J2, B_X11_seekRests_J3, B_X11_seekRests_J4]
            have := ih2 (wI w1 59 42 (nI (2 / 2 * 10 + 2 % 2))) (ha.wI ⟨rfl, rfl⟩) (by
              rw [ef, if_neg z2, if_pos (by decide)]
              simp [wI])
            rw [ec, z] at this
            exact this
          · have z2 : f < 2 := Classical.byContradiction fun y => z (e0.mpr y)
            simp +decide (disch := omega) only [↓EQA, CEA, LIA, NIA, Nat.lt_irrefl, Option.toList_some, Option.toList_none, List.cons_append, List.nil_append, true_and, and_true, Nat.reduceAdd, Nat.reduceLeDiff, not_true_eq_false, not_false_eq_true, if_true, if_false, ite_true, ite_false, Int32.reduceLT, ite_not, eq_self, or_true, true_or, ite_self, reduceIte, z, B_X11_seekRests_J1, B_X11_seekRests_J2, B_X11_seekRests_J3, B_X11_seekRests_J4]
            have := ih2 w1 ha (by
              rw [h42, ef, if_pos z2, if_pos z2, if_pos (by omega)])
            rw [ec] at this
            exact this
      · have e9 : nI 3 - nI 3 / 2 * 2 = 1 := by decide
        have e8 : (10 : Int32) * (nI 3 / 2) + 1 = nI (3 / 2 * 10 + 3 % 2) := by decide
        have ep : rsP x 3 = irB x true true := rfl
        rw [ep] at ec ef
        refine S_X11_seekRests_L1 _ _ _ ?_
        simp +decide (disch := omega) only [↓EQA, CEA, LIA, NIA, Nat.lt_irrefl, Option.toList_some, Option.toList_none, List.cons_append, List.nil_append, true_and, and_true, Nat.reduceAdd, Nat.reduceLeDiff, not_true_eq_false, not_false_eq_true, if_true, if_false, ite_true, ite_false, Int32.reduceLT, ite_not, eq_self, or_true, true_or, ite_self, reduceIte, B_X11_seekRests_L1, B_X11_seekRests_J1, B_X11_seekRests_J2, B_X11_seekRests_J3, B_X11_seekRests_J4, e9]
        refine u_isRest (b := true) (o := true) ?_
        cases hb : irB x true true
        · simp only [hb, if_false, Bool.false_eq_true] at ec ef
          simp +decide (disch := omega) only [↓EQA, CEA, LIA, NIA, Nat.lt_irrefl, Option.toList_some, Option.toList_none, List.cons_append, List.nil_append, true_and, and_true, Nat.reduceAdd, Nat.reduceLeDiff, not_true_eq_false, not_false_eq_true, if_true, if_false, ite_true, ite_false, Int32.reduceLT, ite_not, eq_self, or_true, true_or, ite_self, reduceIte, B_X11_seekRests_J1, B_X11_seekRests_J2, B_X11_seekRests_J3, B_X11_seekRests_J4]
          have := ih2 w1 ha (by
            rw [h42, ef]
            by_cases z : f < 3
            · rw [if_pos z, if_pos z, if_pos (by omega)]
            · rw [if_neg z, if_neg z, if_neg (by omega)])
          rw [ec] at this
          exact this
        · simp only [hb, if_true] at ec ef
          by_cases z : c = 0
          · have z2 := e0.mp z
            simp +decide (disch := omega) only [↓EQA, CEA, LIA, NIA, Nat.lt_irrefl, Option.toList_some, Option.toList_none, List.cons_append, List.nil_append, true_and, and_true, Nat.reduceAdd, Nat.reduceLeDiff, not_true_eq_false, not_false_eq_true, if_true, if_false, ite_true, ite_false, Int32.reduceLT, ite_not, eq_self, or_true, true_or, ite_self, reduceIte, z, e9, e8, B_X11_seekRests_J1, B_X11_seekRests_J2, B_X11_seekRests_J3, B_X11_seekRests_J4]
            have := ih2 (wI w1 59 42 (nI (3 / 2 * 10 + 3 % 2))) (ha.wI ⟨rfl, rfl⟩) (by
              rw [ef, if_neg z2, if_pos (by decide)]
              simp [wI])
            rw [ec, z] at this
            exact this
          · have z2 : f < 3 := Classical.byContradiction fun y => z (e0.mpr y)
            simp +decide (disch := omega) only [↓EQA, CEA, LIA, NIA, Nat.lt_irrefl, Option.toList_some, Option.toList_none, List.cons_append, List.nil_append, true_and, and_true, Nat.reduceAdd, Nat.reduceLeDiff, not_true_eq_false, not_false_eq_true, if_true, if_false, ite_true, ite_false, Int32.reduceLT, ite_not, eq_self, or_true, true_or, ite_self, reduceIte, z, B_X11_seekRests_J1, B_X11_seekRests_J2, B_X11_seekRests_J3, B_X11_seekRests_J4]
            have := ih2 w1 ha (by
              rw [h42, ef, if_pos z2, if_pos z2, if_pos (by omega)])
            rw [ec] at this
            exact this
  exact key 4 0 (by omega) _ (Ag.rf.wI ⟨rfl, rfl⟩) (by simp [wI])
theorem p_rests (hI : IV w T D F) : PRI (d + 20) m_X10_rests m_X11_rests [.ref 0, .int x] [.ref 59, .int x] w := by
  obtain ⟨hZ, hP, ⟨c1, c2, c3⟩, -⟩ := id hI
  by_cases g : 1 ≤ nH T ∧ (¬ x < 0 ∧ ¬ 9 < x)
  · have e1 : decide (1 ≤ nH T) = true := decide_eq_true g.1
    have e2 : decide (¬ x < 0 ∧ ¬ 9 < x) = true := decide_eq_true g.2
    refine askI (v := nI (cnt (rsP x) 4)) (tr := 0) hI (by decide) (fun Q hQ => ?_) (fun w1 K hM hK => ?_)
    · refine Cl_of k_X10_rests.1 (Nat.le_of_ble_eq_true rfl) (show Wp m_X10_rests _ 0 _ 0 [.ref 0, .int x, .null, .null, .null] [] _ from S_X10_rests_0 _ _ _ ?_)
      simp +decide (disch := omega) only [↓EQA, CEA, LIA, NIA, Nat.lt_irrefl, Option.toList_some, Option.toList_none, List.cons_append, List.nil_append, true_and, and_true, Nat.reduceAdd, Nat.reduceLeDiff, not_true_eq_false, not_false_eq_true, if_true, if_false, ite_true, ite_false, Int32.reduceLT, ite_not, eq_self, or_true, true_or, ite_self, reduceIte, B_X10_rests_0]
      refine t_whyNoWeir c1 hZ ?_
      rw [e1, e2]
      simp +decide (disch := omega) only [↓EQA, CEA, LIA, NIA, Nat.lt_irrefl, Option.toList_some, Option.toList_none, List.cons_append, List.nil_append, true_and, and_true, Nat.reduceAdd, Nat.reduceLeDiff, not_true_eq_false, not_false_eq_true, if_true, if_false, ite_true, ite_false, Int32.reduceLT, ite_not, eq_self, or_true, true_or, ite_self, reduceIte]
      refine cnt_loop (p := rsP x) (n := 4) (fun j a => Wp m_X10_rests (d + 19) 0 Q 21 [.ref 0, .int x, .int 0, .int a, .int (nI j)] [] w) (fun j hj hd => ?_) ?_
      · generalize cnt (rsP x) j = c at hd ⊢
        rcases (by omega : j = 0 ∨ j = 1 ∨ j = 2 ∨ j = 3) with rfl | rfl | rfl | rfl
        · have e9 : nI 0 - nI 0 / 2 * 2 = 0 := by decide
          refine S_X10_rests_L1 _ _ _ ?_
          simp +decide (disch := omega) only [↓EQA, CEA, LIA, NIA, Nat.lt_irrefl, Option.toList_some, Option.toList_none, List.cons_append, List.nil_append, true_and, and_true, Nat.reduceAdd, Nat.reduceLeDiff, not_true_eq_false, not_false_eq_true, if_true, if_false, ite_true, ite_false, Int32.reduceLT, ite_not, eq_self, or_true, true_or, ite_self, reduceIte, B_X10_rests_L1, B_X10_rests_J1, B_X10_rests_J2, B_X10_rests_J3, e9]
          refine t_isRest (b := false) (o := false) ?_
          simp +decide (disch := omega) only [↓EQA, CEA, LIA, NIA, Nat.lt_irrefl, Option.toList_some, Option.toList_none, List.cons_append, List.nil_append, true_and, and_true, Nat.reduceAdd, Nat.reduceLeDiff, not_true_eq_false, not_false_eq_true, if_true, if_false, ite_true, ite_false, Int32.reduceLT, ite_not, eq_self, or_true, true_or, ite_self, reduceIte, B_X10_rests_J1, B_X10_rests_J2, B_X10_rests_J3, ite_not]
          have ep : rsP x 0 = irB x false false := rfl
          rw [ep] at hd
          cases hb : irB x false false <;> simp only [hb, if_true, if_false, Bool.false_eq_true] at hd ⊢ <;> exact hd
        · have e9 : nI 1 - nI 1 / 2 * 2 = 1 := by decide
          refine S_X10_rests_L1 _ _ _ ?_
          simp +decide (disch := omega) only [↓EQA, CEA, LIA, NIA, Nat.lt_irrefl, Option.toList_some, Option.toList_none, List.cons_append, List.nil_append, true_and, and_true, Nat.reduceAdd, Nat.reduceLeDiff, not_true_eq_false, not_false_eq_true, if_true, if_false, ite_true, ite_false, Int32.reduceLT, ite_not, eq_self, or_true, true_or, ite_self, reduceIte, B_X10_rests_L1, B_X10_rests_J1, B_X10_rests_J2, B_X10_rests_J3, e9]
          refine t_isRest (b := false) (o := true) ?_
          simp +decide (disch := omega) only [↓EQA, CEA, LIA, NIA, Nat.lt_irrefl, Option.toList_some, Option.toList_none, List.cons_append, List.nil_append, true_and, and_true, Nat.reduceAdd, Nat.reduceLeDiff, not_true_eq_false, not_false_eq_true, if_true, if_false, ite_true, ite_false, Int32.reduceLT, ite_not, eq_self, or_true, true_or, ite_self, reduceIte, B_X10_rests_J1, B_X10_rests_J2, B_X10_rests_J3, ite_not]
          have ep : rsP x 1 = irB x false true := rfl
          rw [ep] at hd
          cases hb : irB x false true <;> simp only [hb, if_true, if_false, Bool.false_eq_true] at hd ⊢ <;> exact hd
        · have e9 : nI 2 - nI 2 / 2 * 2 = 0 := by decide
          refine S_X10_rests_L1 _ _ _ ?_
          simp +decide (disch := omega) only [↓EQA, CEA, LIA, NIA, Nat.lt_irrefl, Option.toList_some, Option.toList_none, List.cons_append, List.nil_append, true_and, and_true, Nat.reduceAdd, Nat.reduceLeDiff, not_true_eq_false, not_false_eq_true, if_true, if_false, ite_true, ite_false, Int32.reduceLT, ite_not, eq_self, or_true, true_or, ite_self, reduceIte, B_X10_rests_L1, B_X10_rests_J1, B_X10_rests_J2, B_X10_rests_J3, e9]
          refine t_isRest (b := true) (o := false) ?_
          simp +decide (disch := omega) only [↓EQA, CEA, LIA, NIA, Nat.lt_irrefl, Option.toList_some, Option.toList_none, List.cons_append, List.nil_append, true_and, and_true, Nat.reduceAdd, Nat.reduceLeDiff, not_true_eq_false, not_false_eq_true, if_true, if_false, ite_true, ite_false, Int32.reduceLT, ite_not, eq_self, or_true, true_or, ite_self, reduceIte, B_X10_rests_J1, B_X10_rests_J2, B_X10_rests_J3, ite_not]
          have ep : rsP x 2 = irB x true false := rfl
          rw [ep] at hd
          cases hb : irB x true false <;> simp only [hb, if_true, if_false, Bool.false_eq_true] at hd ⊢ <;> exact hd
        · have e9 : nI 3 - nI 3 / 2 * 2 = 1 := by decide
          refine S_X10_rests_L1 _ _ _ ?_
          simp +decide (disch := omega) only [↓EQA, CEA, LIA, NIA, Nat.lt_irrefl, Option.toList_some, Option.toList_none, List.cons_append, List.nil_append, true_and, and_true, Nat.reduceAdd, Nat.reduceLeDiff, not_true_eq_false, not_false_eq_true, if_true, if_false, ite_true, ite_false, Int32.reduceLT, ite_not, eq_self, or_true, true_or, ite_self, reduceIte, B_X10_rests_L1, B_X10_rests_J1, B_X10_rests_J2, B_X10_rests_J3, e9]
          refine t_isRest (b := true) (o := true) ?_
          simp +decide (disch := omega) only [↓EQA, CEA, LIA, NIA, Nat.lt_irrefl, Option.toList_some, Option.toList_none, List.cons_append, List.nil_append, true_and, and_true, Nat.reduceAdd, Nat.reduceLeDiff, not_true_eq_false, not_false_eq_true, if_true, if_false, ite_true, ite_false, Int32.reduceLT, ite_not, eq_self, or_true, true_or, ite_self, reduceIte, B_X10_rests_J1, B_X10_rests_J2, B_X10_rests_J3, ite_not]
          have ep : rsP x 3 = irB x true true := rfl
          rw [ep] at hd
          cases hb : irB x true true <;> simp only [hb, if_true, if_false, Bool.false_eq_true] at hd ⊢ <;> exact hd
      · refine S_X10_rests_L1 _ _ _ ?_
        simp +decide (disch := omega) only [↓EQA, CEA, LIA, NIA, Nat.lt_irrefl, Option.toList_some, Option.toList_none, List.cons_append, List.nil_append, true_and, and_true, Nat.reduceAdd, Nat.reduceLeDiff, not_true_eq_false, not_false_eq_true, if_true, if_false, ite_true, ite_false, Int32.reduceLT, ite_not, eq_self, or_true, true_or, ite_self, reduceIte, B_X10_rests_L1]
        refine t_grantedG Ag.rf c3 fun w9 h9 => ?_
        simp +decide (disch := omega) only [↓EQA, CEA, LIA, NIA, Nat.lt_irrefl, Option.toList_some, Option.toList_none, List.cons_append, List.nil_append, true_and, and_true, Nat.reduceAdd, Nat.reduceLeDiff, not_true_eq_false, not_false_eq_true, if_true, if_false, ite_true, ite_false, Int32.reduceLT, ite_not, eq_self, or_true, true_or, ite_self, reduceIte]
        exact hQ _ h9
    · refine Cl_of k_X11_rests.1 (Nat.le_of_ble_eq_true rfl) (show Wp m_X11_rests _ 0 _ 0 [.ref 59, .int x, .null] [] _ from S_X11_rests_0 _ _ _ ?_)
      simp +decide (disch := omega) only [↓EQA, CEA, LIA, NIA, Nat.lt_irrefl, Option.toList_some, Option.toList_none, List.cons_append, List.nil_append, true_and, and_true, Nat.reduceAdd, Nat.reduceLeDiff, not_true_eq_false, not_false_eq_true, if_true, if_false, ite_true, ite_false, Int32.reduceLT, ite_not, eq_self, or_true, true_or, ite_self, reduceIte, B_X11_rests_0]
      refine u_goodG hM fun wg hMg hA h11 => ?_
      simp +decide (disch := omega) only [↓EQA, CEA, LIA, NIA, Nat.lt_irrefl, Option.toList_some, Option.toList_none, List.cons_append, List.nil_append, true_and, and_true, Nat.reduceAdd, Nat.reduceLeDiff, not_true_eq_false, not_false_eq_true, if_true, if_false, ite_true, ite_false, Int32.reduceLT, ite_not, eq_self, or_true, true_or, ite_self, reduceIte, e14 hMg g.1]
      refine u_in ?_
      simp +decide (disch := omega) only [↓EQA, CEA, LIA, NIA, Nat.lt_irrefl, Option.toList_some, Option.toList_none, List.cons_append, List.nil_append, true_and, and_true, Nat.reduceAdd, Nat.reduceLeDiff, not_true_eq_false, not_false_eq_true, if_true, if_false, ite_true, ite_false, Int32.reduceLT, ite_not, eq_self, or_true, true_or, ite_self, reduceIte]
      refine u_why1 ?_
      rw [if_pos g.2]
      simp +decide (disch := omega) only [↓EQA, CEA, LIA, NIA, Nat.lt_irrefl, Option.toList_some, Option.toList_none, List.cons_append, List.nil_append, true_and, and_true, Nat.reduceAdd, Nat.reduceLeDiff, not_true_eq_false, not_false_eq_true, if_true, if_false, ite_true, ite_false, Int32.reduceLT, ite_not, eq_self, or_true, true_or, ite_self, reduceIte]
      refine u_seekRests fun w2 ha2 h42 => ?_
      simp +decide (disch := omega) only [↓EQA, CEA, LIA, NIA, Nat.lt_irrefl, Option.toList_some, Option.toList_none, List.cons_append, List.nil_append, true_and, and_true, Nat.reduceAdd, Nat.reduceLeDiff, not_true_eq_false, not_false_eq_true, if_true, if_false, ite_true, ite_false, Int32.reduceLT, ite_not, eq_self, or_true, true_or, ite_self, reduceIte, B_X11_rests_J1]
      exact hK _ (MAfq hA hMg h11 ha2 (fun j i z => by omega) (by omega) (by omega))
  · refine askI (v := -1) (tr := if 1 ≤ nH T then 2 else 1) hI (by split <;> decide) (fun Q hQ => ?_) (fun w1 K hM hK => ?_)
    · refine Cl_of k_X10_rests.1 (Nat.le_of_ble_eq_true rfl) (show Wp m_X10_rests _ 0 _ 0 [.ref 0, .int x, .null, .null, .null] [] _ from S_X10_rests_0 _ _ _ ?_)
      simp +decide (disch := omega) only [↓EQA, CEA, LIA, NIA, Nat.lt_irrefl, Option.toList_some, Option.toList_none, List.cons_append, List.nil_append, true_and, and_true, Nat.reduceAdd, Nat.reduceLeDiff, not_true_eq_false, not_false_eq_true, if_true, if_false, ite_true, ite_false, Int32.reduceLT, ite_not, eq_self, or_true, true_or, ite_self, reduceIte, B_X10_rests_0]
      refine t_whyNoWeir c1 hZ ?_
      by_cases a : 1 ≤ nH T
      · have b : ¬ (¬ x < 0 ∧ ¬ 9 < x) := fun b => g ⟨a, b⟩
        rw [if_neg (by rw [decide_eq_false_iff_not]; exact fun y => y a), if_neg (fun y => b (of_decide_eq_true y))]
        rw [if_pos a] at hQ
        simp +decide (disch := omega) only [↓EQA, CEA, LIA, NIA, Nat.lt_irrefl, Option.toList_some, Option.toList_none, List.cons_append, List.nil_append, true_and, and_true, Nat.reduceAdd, Nat.reduceLeDiff, not_true_eq_false, not_false_eq_true, if_true, if_false, ite_true, ite_false, Int32.reduceLT, ite_not, eq_self, or_true, true_or, ite_self, reduceIte]
        refine t_refusedG Ag.rf c3 fun w9 h9 => ?_
        simp +decide (disch := omega) only [↓EQA, CEA, LIA, NIA, Nat.lt_irrefl, Option.toList_some, Option.toList_none, List.cons_append, List.nil_append, true_and, and_true, Nat.reduceAdd, Nat.reduceLeDiff, not_true_eq_false, not_false_eq_true, if_true, if_false, ite_true, ite_false, Int32.reduceLT, ite_not, eq_self, or_true, true_or, ite_self, reduceIte]
        exact hQ _ h9
      · rw [if_pos (decide_eq_false a)]
        rw [if_neg a] at hQ
        simp +decide (disch := omega) only [↓EQA, CEA, LIA, NIA, Nat.lt_irrefl, Option.toList_some, Option.toList_none, List.cons_append, List.nil_append, true_and, and_true, Nat.reduceAdd, Nat.reduceLeDiff, not_true_eq_false, not_false_eq_true, if_true, if_false, ite_true, ite_false, Int32.reduceLT, ite_not, eq_self, or_true, true_or, ite_self, reduceIte]
        refine t_refusedG Ag.rf c3 fun w9 h9 => ?_
        simp +decide (disch := omega) only [↓EQA, CEA, LIA, NIA, Nat.lt_irrefl, Option.toList_some, Option.toList_none, List.cons_append, List.nil_append, true_and, and_true, Nat.reduceAdd, Nat.reduceLeDiff, not_true_eq_false, not_false_eq_true, if_true, if_false, ite_true, ite_false, Int32.reduceLT, ite_not, eq_self, or_true, true_or, ite_self, reduceIte]
        exact hQ _ h9
    · refine Cl_of k_X11_rests.1 (Nat.le_of_ble_eq_true rfl) (show Wp m_X11_rests _ 0 _ 0 [.ref 59, .int x, .null] [] _ from S_X11_rests_0 _ _ _ ?_)
      simp +decide (disch := omega) only [↓EQA, CEA, LIA, NIA, Nat.lt_irrefl, Option.toList_some, Option.toList_none, List.cons_append, List.nil_append, true_and, and_true, Nat.reduceAdd, Nat.reduceLeDiff, not_true_eq_false, not_false_eq_true, if_true, if_false, ite_true, ite_false, Int32.reduceLT, ite_not, eq_self, or_true, true_or, ite_self, reduceIte, B_X11_rests_0]
      refine u_goodG hM fun wg hMg hA h11 => ?_
      by_cases a : 1 ≤ nH T
      · have b : ¬ (¬ x < 0 ∧ ¬ 9 < x) := fun b => g ⟨a, b⟩
        rw [if_pos a] at hK
        simp +decide (disch := omega) only [↓EQA, CEA, LIA, NIA, Nat.lt_irrefl, Option.toList_some, Option.toList_none, List.cons_append, List.nil_append, true_and, and_true, Nat.reduceAdd, Nat.reduceLeDiff, not_true_eq_false, not_false_eq_true, if_true, if_false, ite_true, ite_false, Int32.reduceLT, ite_not, eq_self, or_true, true_or, ite_self, reduceIte, e14 hMg a]
        refine u_in ?_
        simp +decide (disch := omega) only [↓EQA, CEA, LIA, NIA, Nat.lt_irrefl, Option.toList_some, Option.toList_none, List.cons_append, List.nil_append, true_and, and_true, Nat.reduceAdd, Nat.reduceLeDiff, not_true_eq_false, not_false_eq_true, if_true, if_false, ite_true, ite_false, Int32.reduceLT, ite_not, eq_self, or_true, true_or, ite_self, reduceIte]
        refine u_why1 ?_
        rw [if_neg b]
        simp +decide (disch := omega) only [↓EQA, CEA, LIA, NIA, Nat.lt_irrefl, Option.toList_some, Option.toList_none, List.cons_append, List.nil_append, true_and, and_true, Nat.reduceAdd, Nat.reduceLeDiff, not_true_eq_false, not_false_eq_true, if_true, if_false, ite_true, ite_false, Int32.reduceLT, ite_not, eq_self, or_true, true_or, ite_self, reduceIte]
        refine u_noG hMg hA fun w9 h9 => ?_
        simp +decide (disch := omega) only [↓EQA, CEA, LIA, NIA, Nat.lt_irrefl, Option.toList_some, Option.toList_none, List.cons_append, List.nil_append, true_and, and_true, Nat.reduceAdd, Nat.reduceLeDiff, not_true_eq_false, not_false_eq_true, if_true, if_false, ite_true, ite_false, Int32.reduceLT, ite_not, eq_self, or_true, true_or, ite_self, reduceIte, B_X11_rests_J1]
        exact hK _ h9
      · rw [if_neg a] at hK
        simp +decide (disch := omega) only [↓EQA, CEA, LIA, NIA, Nat.lt_irrefl, Option.toList_some, Option.toList_none, List.cons_append, List.nil_append, true_and, and_true, Nat.reduceAdd, Nat.reduceLeDiff, not_true_eq_false, not_false_eq_true, if_true, if_false, ite_true, ite_false, Int32.reduceLT, ite_not, eq_self, or_true, true_or, ite_self, reduceIte, e14n hMg a]
        refine u_in ?_
        simp +decide (disch := omega) only [↓EQA, CEA, LIA, NIA, Nat.lt_irrefl, Option.toList_some, Option.toList_none, List.cons_append, List.nil_append, true_and, and_true, Nat.reduceAdd, Nat.reduceLeDiff, not_true_eq_false, not_false_eq_true, if_true, if_false, ite_true, ite_false, Int32.reduceLT, ite_not, eq_self, or_true, true_or, ite_self, reduceIte]
        refine u_why0 ?_
        simp +decide (disch := omega) only [↓EQA, CEA, LIA, NIA, Nat.lt_irrefl, Option.toList_some, Option.toList_none, List.cons_append, List.nil_append, true_and, and_true, Nat.reduceAdd, Nat.reduceLeDiff, not_true_eq_false, not_false_eq_true, if_true, if_false, ite_true, ite_false, Int32.reduceLT, ite_not, eq_self, or_true, true_or, ite_self, reduceIte]
        refine u_noG hMg hA fun w9 h9 => ?_
        simp +decide (disch := omega) only [↓EQA, CEA, LIA, NIA, Nat.lt_irrefl, Option.toList_some, Option.toList_none, List.cons_append, List.nil_append, true_and, and_true, Nat.reduceAdd, Nat.reduceLeDiff, not_true_eq_false, not_false_eq_true, if_true, if_false, ite_true, ite_false, Int32.reduceLT, ite_not, eq_self, or_true, true_or, ite_self, reduceIte, B_X11_rests_J1]
        exact hK _ h9
theorem p_rest (hI : IV w T D F) : PRI (d + 20) m_X10_rest m_X11_rest [.ref 0, .int x] [.ref 59, .int x] w := by
  obtain ⟨hZ, hP, ⟨c1, c2, c3⟩, -⟩ := id hI
  by_cases g : 1 ≤ nH T ∧ (¬ x < 0 ∧ ¬ 9 < x)
  · have e1 : decide (1 ≤ nH T) = true := decide_eq_true g.1
    have e2 : decide (¬ x < 0 ∧ ¬ 9 < x) = true := decide_eq_true g.2
    refine askI (v := if frst (rsP x) 4 < 4 then nI (frst (rsP x) 4 / 2 * 10 + frst (rsP x) 4 % 2) else -2) (tr := 0) hI (by decide) (fun Q hQ => ?_) (fun w1 K hM hK => ?_)
    · refine Cl_of k_X10_rest.1 (Nat.le_of_ble_eq_true rfl) (show Wp m_X10_rest _ 0 _ 0 [.ref 0, .int x, .null, .null] [] _ from S_X10_rest_0 _ _ _ ?_)
      simp +decide (disch := omega) only [↓EQA, CEA, LIA, NIA, Nat.lt_irrefl, Option.toList_some, Option.toList_none, List.cons_append, List.nil_append, true_and, and_true, Nat.reduceAdd, Nat.reduceLeDiff, not_true_eq_false, not_false_eq_true, if_true, if_false, ite_true, ite_false, Int32.reduceLT, ite_not, eq_self, or_true, true_or, ite_self, reduceIte, B_X10_rest_0]
      refine t_whyNoWeir c1 hZ ?_
      rw [e1, e2]
      simp +decide (disch := omega) only [↓EQA, CEA, LIA, NIA, Nat.lt_irrefl, Option.toList_some, Option.toList_none, List.cons_append, List.nil_append, true_and, and_true, Nat.reduceAdd, Nat.reduceLeDiff, not_true_eq_false, not_false_eq_true, if_true, if_false, ite_true, ite_false, Int32.reduceLT, ite_not, eq_self, or_true, true_or, ite_self, reduceIte]
      refine frst_loop (p := rsP x) (n := 4) (fun j => Wp m_X10_rest (d + 19) 0 Q 18 [.ref 0, .int x, .int 0, .int (nI j)] [] w) ?_ ?_ ?_
      · intro j hj hp he
        rw [he, if_pos hj] at hQ
        rcases (by omega : j = 0 ∨ j = 1 ∨ j = 2 ∨ j = 3) with rfl | rfl | rfl | rfl
        · have e9 : nI 0 - nI 0 / 2 * 2 = 0 := by decide
          have e8 : (nI 0 / 2) * 10 + 0 = nI (0 / 2 * 10 + 0 % 2) := by decide
          have hp2 : irB x false false = true := hp
          refine S_X10_rest_L1 _ _ _ ?_
          simp +decide (disch := omega) only [↓EQA, CEA, LIA, NIA, Nat.lt_irrefl, Option.toList_some, Option.toList_none, List.cons_append, List.nil_append, true_and, and_true, Nat.reduceAdd, Nat.reduceLeDiff, not_true_eq_false, not_false_eq_true, if_true, if_false, ite_true, ite_false, Int32.reduceLT, ite_not, eq_self, or_true, true_or, ite_self, reduceIte, B_X10_rest_L1, B_X10_rest_J1, B_X10_rest_J2, e9]
          refine t_isRest (b := false) (o := false) ?_
          simp +decide (disch := omega) only [↓EQA, CEA, LIA, NIA, Nat.lt_irrefl, Option.toList_some, Option.toList_none, List.cons_append, List.nil_append, true_and, and_true, Nat.reduceAdd, Nat.reduceLeDiff, not_true_eq_false, not_false_eq_true, if_true, if_false, ite_true, ite_false, Int32.reduceLT, ite_not, eq_self, or_true, true_or, ite_self, reduceIte, hp2, e9, e8]
          refine t_grantedG Ag.rf c3 fun w9 h9 => ?_
          simp +decide (disch := omega) only [↓EQA, CEA, LIA, NIA, Nat.lt_irrefl, Option.toList_some, Option.toList_none, List.cons_append, List.nil_append, true_and, and_true, Nat.reduceAdd, Nat.reduceLeDiff, not_true_eq_false, not_false_eq_true, if_true, if_false, ite_true, ite_false, Int32.reduceLT, ite_not, eq_self, or_true, true_or, ite_self, reduceIte]
          exact hQ _ h9
        · have e9 : nI 1 - nI 1 / 2 * 2 = 1 := by decide
          have e8 : (nI 1 / 2) * 10 + 1 = nI (1 / 2 * 10 + 1 % 2) := by decide
          have hp2 : irB x false true = true := hp
          refine S_X10_rest_L1 _ _ _ ?_
          simp +decide (disch := omega) only [↓EQA, CEA, LIA, NIA, Nat.lt_irrefl, Option.toList_some, Option.toList_none, List.cons_append, List.nil_append, true_and, and_true, Nat.reduceAdd, Nat.reduceLeDiff, not_true_eq_false, not_false_eq_true, if_true, if_false, ite_true, ite_false, Int32.reduceLT, ite_not, eq_self, or_true, true_or, ite_self, reduceIte, B_X10_rest_L1, B_X10_rest_J1, B_X10_rest_J2, e9]
          refine t_isRest (b := false) (o := true) ?_
          simp +decide (disch := omega) only [↓EQA, CEA, LIA, NIA, Nat.lt_irrefl, Option.toList_some, Option.toList_none, List.cons_append, List.nil_append, true_and, and_true, Nat.reduceAdd, Nat.reduceLeDiff, not_true_eq_false, not_false_eq_true, if_true, if_false, ite_true, ite_false, Int32.reduceLT, ite_not, eq_self, or_true, true_or, ite_self, reduceIte, hp2, e9, e8]
          refine t_grantedG Ag.rf c3 fun w9 h9 => ?_
          simp +decide (disch := omega) only [↓EQA, CEA, LIA, NIA, Nat.lt_irrefl, Option.toList_some, Option.toList_none, List.cons_append, List.nil_append, true_and, and_true, Nat.reduceAdd, Nat.reduceLeDiff, not_true_eq_false, not_false_eq_true, if_true, if_false, ite_true, ite_false, Int32.reduceLT, ite_not, eq_self, or_true, true_or, ite_self, reduceIte]
          exact hQ _ h9
        · have e9 : nI 2 - nI 2 / 2 * 2 = 0 := by decide
          have e8 : (nI 2 / 2) * 10 + 0 = nI (2 / 2 * 10 + 2 % 2) := by decide
          have hp2 : irB x true false = true := hp
          refine S_X10_rest_L1 _ _ _ ?_
          simp +decide (disch := omega) only [↓EQA, CEA, LIA, NIA, Nat.lt_irrefl, Option.toList_some, Option.toList_none, List.cons_append, List.nil_append, true_and, and_true, Nat.reduceAdd, Nat.reduceLeDiff, not_true_eq_false, not_false_eq_true, if_true, if_false, ite_true, ite_false, Int32.reduceLT, ite_not, eq_self, or_true, true_or, ite_self, reduceIte, B_X10_rest_L1, B_X10_rest_J1, B_X10_rest_J2, e9]
          refine t_isRest (b := true) (o := false) ?_
          simp +decide (disch := omega) only [↓EQA, CEA, LIA, NIA, Nat.lt_irrefl, Option.toList_some, Option.toList_none, List.cons_append, List.nil_append, true_and, and_true, Nat.reduceAdd, Nat.reduceLeDiff, not_true_eq_false, not_false_eq_true, if_true, if_false, ite_true, ite_false, Int32.reduceLT, ite_not, eq_self, or_true, true_or, ite_self, reduceIte, hp2, e9, e8]
          refine t_grantedG Ag.rf c3 fun w9 h9 => ?_
          simp +decide (disch := omega) only [↓EQA, CEA, LIA, NIA, Nat.lt_irrefl, Option.toList_some, Option.toList_none, List.cons_append, List.nil_append, true_and, and_true, Nat.reduceAdd, Nat.reduceLeDiff, not_true_eq_false, not_false_eq_true, if_true, if_false, ite_true, ite_false, Int32.reduceLT, ite_not, eq_self, or_true, true_or, ite_self, reduceIte]
          exact hQ _ h9
        · have e9 : nI 3 - nI 3 / 2 * 2 = 1 := by decide
          have e8 : (nI 3 / 2) * 10 + 1 = nI (3 / 2 * 10 + 3 % 2) := by decide
          have hp2 : irB x true true = true := hp
          refine S_X10_rest_L1 _ _ _ ?_
          simp +decide (disch := omega) only [↓EQA, CEA, LIA, NIA, Nat.lt_irrefl, Option.toList_some, Option.toList_none, List.cons_append, List.nil_append, true_and, and_true, Nat.reduceAdd, Nat.reduceLeDiff, not_true_eq_false, not_false_eq_true, if_true, if_false, ite_true, ite_false, Int32.reduceLT, ite_not, eq_self, or_true, true_or, ite_self, reduceIte, B_X10_rest_L1, B_X10_rest_J1, B_X10_rest_J2, e9]
          refine t_isRest (b := true) (o := true) ?_
          simp +decide (disch := omega) only [↓EQA, CEA, LIA, NIA, Nat.lt_irrefl, Option.toList_some, Option.toList_none, List.cons_append, List.nil_append, true_and, and_true, Nat.reduceAdd, Nat.reduceLeDiff, not_true_eq_false, not_false_eq_true, if_true, if_false, ite_true, ite_false, Int32.reduceLT, ite_not, eq_self, or_true, true_or, ite_self, reduceIte, hp2, e9, e8]
          refine t_grantedG Ag.rf c3 fun w9 h9 => ?_
          simp +decide (disch := omega) only [↓EQA, CEA, LIA, NIA, Nat.lt_irrefl, Option.toList_some, Option.toList_none, List.cons_append, List.nil_append, true_and, and_true, Nat.reduceAdd, Nat.reduceLeDiff, not_true_eq_false, not_false_eq_true, if_true, if_false, ite_true, ite_false, Int32.reduceLT, ite_not, eq_self, or_true, true_or, ite_self, reduceIte]
          exact hQ _ h9
      · intro j hj hp hd
        rcases (by omega : j = 0 ∨ j = 1 ∨ j = 2 ∨ j = 3) with rfl | rfl | rfl | rfl
        · have e9 : nI 0 - nI 0 / 2 * 2 = 0 := by decide
          have hp2 : irB x false false = false := hp
          refine S_X10_rest_L1 _ _ _ ?_
          simp +decide (disch := omega) only [↓EQA, CEA, LIA, NIA, Nat.lt_irrefl, Option.toList_some, Option.toList_none, List.cons_append, List.nil_append, true_and, and_true, Nat.reduceAdd, Nat.reduceLeDiff, not_true_eq_false, not_false_eq_true, if_true, if_false, ite_true, ite_false, Int32.reduceLT, ite_not, eq_self, or_true, true_or, ite_self, reduceIte, B_X10_rest_L1, B_X10_rest_J1, B_X10_rest_J2, e9]
          refine t_isRest (b := false) (o := false) ?_
          simp +decide (disch := omega) only [↓EQA, CEA, LIA, NIA, Nat.lt_irrefl, Option.toList_some, Option.toList_none, List.cons_append, List.nil_append, true_and, and_true, Nat.reduceAdd, Nat.reduceLeDiff, not_true_eq_false, not_false_eq_true, if_true, if_false, ite_true, ite_false, Int32.reduceLT, ite_not, eq_self, or_true, true_or, ite_self, reduceIte, hp2]
          exact hd
        · have e9 : nI 1 - nI 1 / 2 * 2 = 1 := by decide
          have hp2 : irB x false true = false := hp
          refine S_X10_rest_L1 _ _ _ ?_
          simp +decide (disch := omega) only [↓EQA, CEA, LIA, NIA, Nat.lt_irrefl, Option.toList_some, Option.toList_none, List.cons_append, List.nil_append, true_and, and_true, Nat.reduceAdd, Nat.reduceLeDiff, not_true_eq_false, not_false_eq_true, if_true, if_false, ite_true, ite_false, Int32.reduceLT, ite_not, eq_self, or_true, true_or, ite_self, reduceIte, B_X10_rest_L1, B_X10_rest_J1, B_X10_rest_J2, e9]
          refine t_isRest (b := false) (o := true) ?_
          simp +decide (disch := omega) only [↓EQA, CEA, LIA, NIA, Nat.lt_irrefl, Option.toList_some, Option.toList_none, List.cons_append, List.nil_append, true_and, and_true, Nat.reduceAdd, Nat.reduceLeDiff, not_true_eq_false, not_false_eq_true, if_true, if_false, ite_true, ite_false, Int32.reduceLT, ite_not, eq_self, or_true, true_or, ite_self, reduceIte, hp2]
          exact hd
        · have e9 : nI 2 - nI 2 / 2 * 2 = 0 := by decide
          have hp2 : irB x true false = false := hp
          refine S_X10_rest_L1 _ _ _ ?_
          simp +decide (disch := omega) only [↓EQA, CEA, LIA, NIA, Nat.lt_irrefl, Option.toList_some, Option.toList_none, List.cons_append, List.nil_append, true_and, and_true, Nat.reduceAdd, Nat.reduceLeDiff, not_true_eq_false, not_false_eq_true, if_true, if_false, ite_true, ite_false, Int32.reduceLT, ite_not, eq_self, or_true, true_or, ite_self, reduceIte, B_X10_rest_L1, B_X10_rest_J1, B_X10_rest_J2, e9]
          refine t_isRest (b := true) (o := false) ?_
          simp +decide (disch := omega) only [↓EQA, CEA, LIA, NIA, Nat.lt_irrefl, Option.toList_some, Option.toList_none, List.cons_append, List.nil_append, true_and, and_true, Nat.reduceAdd, Nat.reduceLeDiff, not_true_eq_false, not_false_eq_true, if_true, if_false, ite_true, ite_false, Int32.reduceLT, ite_not, eq_self, or_true, true_or, ite_self, reduceIte, hp2]
          exact hd
        · have e9 : nI 3 - nI 3 / 2 * 2 = 1 := by decide
          have hp2 : irB x true true = false := hp
          refine S_X10_rest_L1 _ _ _ ?_
          simp +decide (disch := omega) only [↓EQA, CEA, LIA, NIA, Nat.lt_irrefl, Option.toList_some, Option.toList_none, List.cons_append, List.nil_append, true_and, and_true, Nat.reduceAdd, Nat.reduceLeDiff, not_true_eq_false, not_false_eq_true, if_true, if_false, ite_true, ite_false, Int32.reduceLT, ite_not, eq_self, or_true, true_or, ite_self, reduceIte, B_X10_rest_L1, B_X10_rest_J1, B_X10_rest_J2, e9]
          refine t_isRest (b := true) (o := true) ?_
          simp +decide (disch := omega) only [↓EQA, CEA, LIA, NIA, Nat.lt_irrefl, Option.toList_some, Option.toList_none, List.cons_append, List.nil_append, true_and, and_true, Nat.reduceAdd, Nat.reduceLeDiff, not_true_eq_false, not_false_eq_true, if_true, if_false, ite_true, ite_false, Int32.reduceLT, ite_not, eq_self, or_true, true_or, ite_self, reduceIte, hp2]
          exact hd
      · intro he
        rw [he, if_neg (Nat.lt_irrefl _)] at hQ
        refine S_X10_rest_L1 _ _ _ ?_
        simp +decide (disch := omega) only [↓EQA, CEA, LIA, NIA, Nat.lt_irrefl, Option.toList_some, Option.toList_none, List.cons_append, List.nil_append, true_and, and_true, Nat.reduceAdd, Nat.reduceLeDiff, not_true_eq_false, not_false_eq_true, if_true, if_false, ite_true, ite_false, Int32.reduceLT, ite_not, eq_self, or_true, true_or, ite_self, reduceIte, B_X10_rest_L1]
        refine t_grantedG Ag.rf c3 fun w9 h9 => ?_
        simp +decide (disch := omega) only [↓EQA, CEA, LIA, NIA, Nat.lt_irrefl, Option.toList_some, Option.toList_none, List.cons_append, List.nil_append, true_and, and_true, Nat.reduceAdd, Nat.reduceLeDiff, not_true_eq_false, not_false_eq_true, if_true, if_false, ite_true, ite_false, Int32.reduceLT, ite_not, eq_self, or_true, true_or, ite_self, reduceIte]
        exact hQ _ h9
    · refine Cl_of k_X11_rest.1 (Nat.le_of_ble_eq_true rfl) (show Wp m_X11_rest _ 0 _ 0 [.ref 59, .int x, .null] [] _ from S_X11_rest_0 _ _ _ ?_)
      simp +decide (disch := omega) only [↓EQA, CEA, LIA, NIA, Nat.lt_irrefl, Option.toList_some, Option.toList_none, List.cons_append, List.nil_append, true_and, and_true, Nat.reduceAdd, Nat.reduceLeDiff, not_true_eq_false, not_false_eq_true, if_true, if_false, ite_true, ite_false, Int32.reduceLT, ite_not, eq_self, or_true, true_or, ite_self, reduceIte, B_X11_rest_0]
      refine u_goodG hM fun wg hMg hA h11 => ?_
      simp +decide (disch := omega) only [↓EQA, CEA, LIA, NIA, Nat.lt_irrefl, Option.toList_some, Option.toList_none, List.cons_append, List.nil_append, true_and, and_true, Nat.reduceAdd, Nat.reduceLeDiff, not_true_eq_false, not_false_eq_true, if_true, if_false, ite_true, ite_false, Int32.reduceLT, ite_not, eq_self, or_true, true_or, ite_self, reduceIte, e14 hMg g.1]
      refine u_in ?_
      simp +decide (disch := omega) only [↓EQA, CEA, LIA, NIA, Nat.lt_irrefl, Option.toList_some, Option.toList_none, List.cons_append, List.nil_append, true_and, and_true, Nat.reduceAdd, Nat.reduceLeDiff, not_true_eq_false, not_false_eq_true, if_true, if_false, ite_true, ite_false, Int32.reduceLT, ite_not, eq_self, or_true, true_or, ite_self, reduceIte]
      refine u_why1 ?_
      rw [if_pos g.2]
      simp +decide (disch := omega) only [↓EQA, CEA, LIA, NIA, Nat.lt_irrefl, Option.toList_some, Option.toList_none, List.cons_append, List.nil_append, true_and, and_true, Nat.reduceAdd, Nat.reduceLeDiff, not_true_eq_false, not_false_eq_true, if_true, if_false, ite_true, ite_false, Int32.reduceLT, ite_not, eq_self, or_true, true_or, ite_self, reduceIte]
      refine u_seekRests fun w2 ha2 h42 => ?_
      simp +decide (disch := omega) only [↓EQA, CEA, LIA, NIA, Nat.lt_irrefl, Option.toList_some, Option.toList_none, List.cons_append, List.nil_append, true_and, and_true, Nat.reduceAdd, Nat.reduceLeDiff, not_true_eq_false, not_false_eq_true, if_true, if_false, ite_true, ite_false, Int32.reduceLT, ite_not, eq_self, or_true, true_or, ite_self, reduceIte, h42]
      exact hK _ (MAfq hA hMg h11 ha2 (fun j i z => by omega) (by omega) (by omega))
  · refine askI (v := -1) (tr := if 1 ≤ nH T then 2 else 1) hI (by split <;> decide) (fun Q hQ => ?_) (fun w1 K hM hK => ?_)
    · refine Cl_of k_X10_rest.1 (Nat.le_of_ble_eq_true rfl) (show Wp m_X10_rest _ 0 _ 0 [.ref 0, .int x, .null, .null] [] _ from S_X10_rest_0 _ _ _ ?_)
      simp +decide (disch := omega) only [↓EQA, CEA, LIA, NIA, Nat.lt_irrefl, Option.toList_some, Option.toList_none, List.cons_append, List.nil_append, true_and, and_true, Nat.reduceAdd, Nat.reduceLeDiff, not_true_eq_false, not_false_eq_true, if_true, if_false, ite_true, ite_false, Int32.reduceLT, ite_not, eq_self, or_true, true_or, ite_self, reduceIte, B_X10_rest_0]
      refine t_whyNoWeir c1 hZ ?_
      by_cases a : 1 ≤ nH T
      · have b : ¬ (¬ x < 0 ∧ ¬ 9 < x) := fun b => g ⟨a, b⟩
        rw [if_neg (by rw [decide_eq_false_iff_not]; exact fun y => y a), if_neg (fun y => b (of_decide_eq_true y))]
        rw [if_pos a] at hQ
        simp +decide (disch := omega) only [↓EQA, CEA, LIA, NIA, Nat.lt_irrefl, Option.toList_some, Option.toList_none, List.cons_append, List.nil_append, true_and, and_true, Nat.reduceAdd, Nat.reduceLeDiff, not_true_eq_false, not_false_eq_true, if_true, if_false, ite_true, ite_false, Int32.reduceLT, ite_not, eq_self, or_true, true_or, ite_self, reduceIte]
        refine t_refusedG Ag.rf c3 fun w9 h9 => ?_
        simp +decide (disch := omega) only [↓EQA, CEA, LIA, NIA, Nat.lt_irrefl, Option.toList_some, Option.toList_none, List.cons_append, List.nil_append, true_and, and_true, Nat.reduceAdd, Nat.reduceLeDiff, not_true_eq_false, not_false_eq_true, if_true, if_false, ite_true, ite_false, Int32.reduceLT, ite_not, eq_self, or_true, true_or, ite_self, reduceIte]
        exact hQ _ h9
      · rw [if_pos (decide_eq_false a)]
        rw [if_neg a] at hQ
        simp +decide (disch := omega) only [↓EQA, CEA, LIA, NIA, Nat.lt_irrefl, Option.toList_some, Option.toList_none, List.cons_append, List.nil_append, true_and, and_true, Nat.reduceAdd, Nat.reduceLeDiff, not_true_eq_false, not_false_eq_true, if_true, if_false, ite_true, ite_false, Int32.reduceLT, ite_not, eq_self, or_true, true_or, ite_self, reduceIte]
        refine t_refusedG Ag.rf c3 fun w9 h9 => ?_
        simp +decide (disch := omega) only [↓EQA, CEA, LIA, NIA, Nat.lt_irrefl, Option.toList_some, Option.toList_none, List.cons_append, List.nil_append, true_and, and_true, Nat.reduceAdd, Nat.reduceLeDiff, not_true_eq_false, not_false_eq_true, if_true, if_false, ite_true, ite_false, Int32.reduceLT, ite_not, eq_self, or_true, true_or, ite_self, reduceIte]
        exact hQ _ h9
    · refine Cl_of k_X11_rest.1 (Nat.le_of_ble_eq_true rfl) (show Wp m_X11_rest _ 0 _ 0 [.ref 59, .int x, .null] [] _ from S_X11_rest_0 _ _ _ ?_)
      simp +decide (disch := omega) only [↓EQA, CEA, LIA, NIA, Nat.lt_irrefl, Option.toList_some, Option.toList_none, List.cons_append, List.nil_append, true_and, and_true, Nat.reduceAdd, Nat.reduceLeDiff, not_true_eq_false, not_false_eq_true, if_true, if_false, ite_true, ite_false, Int32.reduceLT, ite_not, eq_self, or_true, true_or, ite_self, reduceIte, B_X11_rest_0]
      refine u_goodG hM fun wg hMg hA h11 => ?_
      by_cases a : 1 ≤ nH T
      · have b : ¬ (¬ x < 0 ∧ ¬ 9 < x) := fun b => g ⟨a, b⟩
        rw [if_pos a] at hK
        simp +decide (disch := omega) only [↓EQA, CEA, LIA, NIA, Nat.lt_irrefl, Option.toList_some, Option.toList_none, List.cons_append, List.nil_append, true_and, and_true, Nat.reduceAdd, Nat.reduceLeDiff, not_true_eq_false, not_false_eq_true, if_true, if_false, ite_true, ite_false, Int32.reduceLT, ite_not, eq_self, or_true, true_or, ite_self, reduceIte, e14 hMg a]
        refine u_in ?_
        simp +decide (disch := omega) only [↓EQA, CEA, LIA, NIA, Nat.lt_irrefl, Option.toList_some, Option.toList_none, List.cons_append, List.nil_append, true_and, and_true, Nat.reduceAdd, Nat.reduceLeDiff, not_true_eq_false, not_false_eq_true, if_true, if_false, ite_true, ite_false, Int32.reduceLT, ite_not, eq_self, or_true, true_or, ite_self, reduceIte]
        refine u_why1 ?_
        rw [if_neg b]
        simp +decide (disch := omega) only [↓EQA, CEA, LIA, NIA, Nat.lt_irrefl, Option.toList_some, Option.toList_none, List.cons_append, List.nil_append, true_and, and_true, Nat.reduceAdd, Nat.reduceLeDiff, not_true_eq_false, not_false_eq_true, if_true, if_false, ite_true, ite_false, Int32.reduceLT, ite_not, eq_self, or_true, true_or, ite_self, reduceIte]
        refine u_noG hMg hA fun w9 h9 => ?_
        simp +decide (disch := omega) only [↓EQA, CEA, LIA, NIA, Nat.lt_irrefl, Option.toList_some, Option.toList_none, List.cons_append, List.nil_append, true_and, and_true, Nat.reduceAdd, Nat.reduceLeDiff, not_true_eq_false, not_false_eq_true, if_true, if_false, ite_true, ite_false, Int32.reduceLT, ite_not, eq_self, or_true, true_or, ite_self, reduceIte, mrg]
        exact hK _ h9
      · rw [if_neg a] at hK
        simp +decide (disch := omega) only [↓EQA, CEA, LIA, NIA, Nat.lt_irrefl, Option.toList_some, Option.toList_none, List.cons_append, List.nil_append, true_and, and_true, Nat.reduceAdd, Nat.reduceLeDiff, not_true_eq_false, not_false_eq_true, if_true, if_false, ite_true, ite_false, Int32.reduceLT, ite_not, eq_self, or_true, true_or, ite_self, reduceIte, e14n hMg a]
        refine u_in ?_
        simp +decide (disch := omega) only [↓EQA, CEA, LIA, NIA, Nat.lt_irrefl, Option.toList_some, Option.toList_none, List.cons_append, List.nil_append, true_and, and_true, Nat.reduceAdd, Nat.reduceLeDiff, not_true_eq_false, not_false_eq_true, if_true, if_false, ite_true, ite_false, Int32.reduceLT, ite_not, eq_self, or_true, true_or, ite_self, reduceIte]
        refine u_why0 ?_
        simp +decide (disch := omega) only [↓EQA, CEA, LIA, NIA, Nat.lt_irrefl, Option.toList_some, Option.toList_none, List.cons_append, List.nil_append, true_and, and_true, Nat.reduceAdd, Nat.reduceLeDiff, not_true_eq_false, not_false_eq_true, if_true, if_false, ite_true, ite_false, Int32.reduceLT, ite_not, eq_self, or_true, true_or, ite_self, reduceIte]
        refine u_noG hMg hA fun w9 h9 => ?_
        simp +decide (disch := omega) only [↓EQA, CEA, LIA, NIA, Nat.lt_irrefl, Option.toList_some, Option.toList_none, List.cons_append, List.nil_append, true_and, and_true, Nat.reduceAdd, Nat.reduceLeDiff, not_true_eq_false, not_false_eq_true, if_true, if_false, ite_true, ite_false, Int32.reduceLT, ite_not, eq_self, or_true, true_or, ite_self, reduceIte, mrg]
        exact hK _ h9
end Pub10
