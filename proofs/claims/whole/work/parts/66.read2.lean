/-! ===== reading a whole, a side, a kind; the sort of a line ===== -/
theorem sbt_n {b : Nat} (h : b < 128) : sbt b = nI b := if_pos h
section Read2
variable {d : Nat} {w : Mem} {Q : Option Value → Mem → Prop} {B : Nat → Nat} {n : Nat} {τ : Tk3} {bl : Option (Nat × Nat)}
def valT (B : Nat → Nat) (τ : Tk3) : Nat := if τ.2.2 = 2 then vlN B τ.1 (τ.2.1 - τ.1) else 0
theorem valT_lt (h : TKp B n τ) : valT B τ < 1000 := by
  unfold valT
  split
  · next q => exact vl_lt (h.2.1 q).2 (h.2.1 q).1
  · decide
theorem t_value (hX : TX w B n) (hC : CTK w τ) (hT : TKp B n τ) (hQ : Q (some (.int (nI (valT B τ)))) w) : Cl (d + 1) m_X8_value [.ref 44] w Q := by
  obtain ⟨x1, x2, x3⟩ := id hX
  obtain ⟨c2, c3, c4⟩ := hC
  obtain ⟨⟨n1, n2, n3⟩, t2, t3⟩ := id hT
  have e2 : (nI τ.2.2 = 2) = (τ.2.2 = 2) := eq_n (b := 2) (by omega) (by decide)
  unfold valT at hQ
  refine Cl_of k_X8_value.1 (Nat.le_of_ble_eq_true rfl) (show Wp m_X8_value _ 0 _ 0 [.ref 44, .null, .null] [] _ from S_X8_value_0 _ _ _ ?_)
  simp +decide (disch := omega) only [↓EQA, CEA, LIA, NIA, Nat.lt_irrefl, Option.toList_some, Option.toList_none, List.cons_append, List.nil_append, true_and, and_true, Nat.reduceAdd, Nat.reduceLeDiff, not_true_eq_false, not_false_eq_true, if_true, if_false, ite_true, ite_false, Int32.reduceLT, ite_not, eq_self, or_true, true_or, ite_self, reduceIte, B_X8_value_0, c2]
  by_cases q : τ.2.2 = 2
  · rw [if_pos q] at hQ
    obtain ⟨l3, dig⟩ := t2 q
    suffices key : Wp m_X8_value d 0 Q 7 [.ref 44, .int (nI 0), .int (nI (τ.1 + 0))] [] w from key
    refine fld_loop (f := fun i a => 10 * a + (B (τ.1 + i) - 48)) (n := τ.2.1 - τ.1) (a := 0) (fun i a => Wp m_X8_value d 0 Q 7 [.ref 44, .int (nI a), .int (nI (τ.1 + i))] [] w) (fun i hi hd => ?_) ?_
    · have hv := vl_lt (B := B) (s := τ.1) (m := i) (fun j hj => dig j (by omega)) (by omega)
      unfold vlN at hv
      generalize fld (fun i a => 10 * a + (B (τ.1 + i) - 48)) i 0 = a at hv hd ⊢
      have hb := dig i hi
      have hlt : τ.1 + i < τ.2.1 := by omega
      have h900 : τ.1 + i < 900 := by omega
      have ex : w.1 1 (τ.1 + i) = nI (B (τ.1 + i)) := by rw [x1 (τ.1 + i) (by omega)]; exact sbt_n (by omega)
      have ev : nI (10 * a + B (τ.1 + i)) - 48 = nI (10 * a + (B (τ.1 + i) - 48)) := by
        rw [show nI (10 * a + B (τ.1 + i)) - 48 = nI (10 * a + B (τ.1 + i) - 48) from nI_sub (b := 48) (by omega)]
        exact congrArg nI (by omega)
      refine S_X8_value_L1 _ _ _ ?_
      simp +decide (disch := omega) only [↓EQA, CEA, LIA, NIA, Nat.lt_irrefl, Option.toList_some, Option.toList_none, List.cons_append, List.nil_append, true_and, and_true, Nat.reduceAdd, Nat.reduceLeDiff, not_true_eq_false, not_false_eq_true, if_true, if_false, ite_true, ite_false, Int32.reduceLT, ite_not, eq_self, or_true, true_or, ite_self, reduceIte, B_X8_value_L1, c3, c4, e2, q, hlt, h900, ex, ev, nI_1]
      exact hd
    · refine S_X8_value_L1 _ _ _ ?_
      rw [show τ.1 + (τ.2.1 - τ.1) = τ.2.1 by omega]
      simp +decide (disch := omega) only [↓EQA, CEA, LIA, NIA, Nat.lt_irrefl, Option.toList_some, Option.toList_none, List.cons_append, List.nil_append, true_and, and_true, Nat.reduceAdd, Nat.reduceLeDiff, not_true_eq_false, not_false_eq_true, if_true, if_false, ite_true, ite_false, Int32.reduceLT, ite_not, eq_self, or_true, true_or, ite_self, reduceIte, B_X8_value_L1, c3, B_X8_value_J1]
      exact hQ
  · rw [if_neg q] at hQ
    refine S_X8_value_L1 _ _ _ ?_
    simp +decide (disch := omega) only [↓EQA, CEA, LIA, NIA, Nat.lt_irrefl, Option.toList_some, Option.toList_none, List.cons_append, List.nil_append, true_and, and_true, Nat.reduceAdd, Nat.reduceLeDiff, not_true_eq_false, not_false_eq_true, if_true, if_false, ite_true, ite_false, Int32.reduceLT, ite_not, eq_self, or_true, true_or, ite_self, reduceIte, B_X8_value_L1, c3, c4, e2, q, B_X8_value_J1, ite_self]
    exact hQ
def eWhole (B : Nat → Nat) (n lo hi : Nat) (τ : Tk3) : Ans := if τ.2.2 = 2 then (if valT B τ < lo ∨ hi < valT B τ then .inl (4, τ.1) else .inr (nxT B n τ, valT B τ)) else .inl (1, τ.1)
theorem t_readWhole {lo hi : Nat} (hlo : lo < 1000) (hhi : hi < 1000) (hC : CSt w B n τ bl) (hQ : ∀ w', Ag TkP w w' → CSt w' B n (stT bl (eWhole B n lo hi τ) τ) (stB bl (eWhole B n lo hi τ)) → Q (some (.int (nI (valT B τ)))) w') : Cl (d + 6) m_X6_readWhole [.ref 22, .int (nI lo), .int (nI hi)] w Q := by
  obtain ⟨hX, c1, ⟨c2, c3, c4⟩, ct, cb⟩ := id hC
  have hv := valT_lt ct
  have hk4 : τ.2.2 ≤ 4 := ct.1.2.2
  have e2 : (nI τ.2.2 = 2) = (τ.2.2 = 2) := eq_n (b := 2) (by omega) (by decide)
  have ll : (nI (valT B τ) < nI lo) = (valT B τ < lo) := lt_n (by omega) (by omega)
  have lh : (nI hi < nI (valT B τ)) = (hi < valT B τ) := lt_n (by omega) (by omega)
  -- the end
  have three : ∀ w1 bl', Ag TkP w w1 → CSt w1 B n τ bl' → stpT B n bl' τ = stT bl (eWhole B n lo hi τ) τ → bl' = stB bl (eWhole B n lo hi τ) → B_X6_readWhole_J3 (d + 5) 0 Q [.ref 22, .int (nI lo), .int (nI hi), .int (nI (valT B τ))] [] w1 := by
    intro w1 bl' ha hC1 e1 e3
    simp +decide (disch := omega) only [↓EQA, CEA, LIA, NIA, Nat.lt_irrefl, Option.toList_some, Option.toList_none, List.cons_append, List.nil_append, true_and, and_true, Nat.reduceAdd, Nat.reduceLeDiff, not_true_eq_false, not_false_eq_true, if_true, if_false, ite_true, ite_false, Int32.reduceLT, ite_not, eq_self, or_true, true_or, ite_self, reduceIte, B_X6_readWhole_J3]
    refine t_stepS hC1 fun w2 ha2 hC2 => ?_
    simp +decide (disch := omega) only [↓EQA, CEA, LIA, NIA, Nat.lt_irrefl, Option.toList_some, Option.toList_none, List.cons_append, List.nil_append, true_and, and_true, Nat.reduceAdd, Nat.reduceLeDiff, not_true_eq_false, not_false_eq_true, if_true, if_false, ite_true, ite_false, Int32.reduceLT, ite_not, eq_self, or_true, true_or, ite_self, reduceIte]
    rw [e1, e3] at hC2
    exact hQ w2 (ha.tr ha2) hC2
  have one : ∀ w1 bl', Ag TkP w w1 → CSt w1 B n τ bl' → (bl' = (if τ.2.2 = 2 then bl else blm bl 1 τ)) → B_X6_readWhole_J1 (d + 5) 0 Q [.ref 22, .int (nI lo), .int (nI hi), .null] [] w1 := by
    intro w1 bl' ha hC1 hbl
    simp +decide (disch := omega) only [↓EQA, CEA, LIA, NIA, Nat.lt_irrefl, Option.toList_some, Option.toList_none, List.cons_append, List.nil_append, true_and, and_true, Nat.reduceAdd, Nat.reduceLeDiff, not_true_eq_false, not_false_eq_true, if_true, if_false, ite_true, ite_false, Int32.reduceLT, ite_not, eq_self, or_true, true_or, ite_self, reduceIte, B_X6_readWhole_J1]
    refine t_value hC1.1 hC1.2.2.1 ct ?_
    simp +decide (disch := omega) only [↓EQA, CEA, LIA, NIA, Nat.lt_irrefl, Option.toList_some, Option.toList_none, List.cons_append, List.nil_append, true_and, and_true, Nat.reduceAdd, Nat.reduceLeDiff, not_true_eq_false, not_false_eq_true, if_true, if_false, ite_true, ite_false, Int32.reduceLT, ite_not, eq_self, or_true, true_or, ite_self, reduceIte, ll, lh]
    have two : valT B τ < lo ∨ hi < valT B τ → B_X6_readWhole_J2 (d + 5) 0 Q [.ref 22, .int (nI lo), .int (nI hi), .int (nI (valT B τ))] [] w1 := by
      intro hbad
      simp +decide (disch := omega) only [↓EQA, CEA, LIA, NIA, Nat.lt_irrefl, Option.toList_some, Option.toList_none, List.cons_append, List.nil_append, true_and, and_true, Nat.reduceAdd, Nat.reduceLeDiff, not_true_eq_false, not_false_eq_true, if_true, if_false, ite_true, ite_false, Int32.reduceLT, ite_not, eq_self, or_true, true_or, ite_self, reduceIte, B_X6_readWhole_J2]
      refine t_blame (f := 4) hC1 (by decide) (by decide) fun w2 ha2 hC2 => ?_
      simp +decide (disch := omega) only [↓EQA, CEA, LIA, NIA, Nat.lt_irrefl, Option.toList_some, Option.toList_none, List.cons_append, List.nil_append, true_and, and_true, Nat.reduceAdd, Nat.reduceLeDiff, not_true_eq_false, not_false_eq_true, if_true, if_false, ite_true, ite_false, Int32.reduceLT, ite_not, eq_self, or_true, true_or, ite_self, reduceIte]
      refine three w2 _ (ha.tr ha2) hC2 ?_ ?_
      · rw [hbl]
        unfold eWhole
        by_cases q : τ.2.2 = 2
        · rw [if_pos q, if_pos q, if_pos hbad]; cases bl <;> rfl
        · rw [if_neg q, if_neg q]; cases bl <;> rfl
      · rw [hbl]
        unfold eWhole
        by_cases q : τ.2.2 = 2
        · rw [if_pos q, if_pos q, if_pos hbad]; cases bl <;> rfl
        · rw [if_neg q, if_neg q]; cases bl <;> rfl
    by_cases q1 : valT B τ < lo
    · rw [if_pos q1]; exact two (Or.inl q1)
    · rw [if_neg q1]
      by_cases q2 : hi < valT B τ
      · rw [if_pos q2]; exact two (Or.inr q2)
      · rw [if_neg q2]
        refine three w1 bl' ha hC1 ?_ ?_
        · rw [hbl]
          unfold eWhole
          by_cases q : τ.2.2 = 2
          · rw [if_pos q, if_pos q, if_neg (fun z => z.elim q1 q2)]; cases bl <;> rfl
          · rw [if_neg q, if_neg q]; cases bl <;> rfl
        · rw [hbl]
          unfold eWhole
          by_cases q : τ.2.2 = 2
          · rw [if_pos q, if_pos q, if_neg (fun z => z.elim q1 q2)]; cases bl <;> rfl
          · rw [if_neg q, if_neg q]; cases bl <;> rfl
  refine Cl_of k_X6_readWhole.1 (Nat.le_of_ble_eq_true rfl) (show Wp m_X6_readWhole _ 0 _ 0 [.ref 22, .int (nI lo), .int (nI hi), .null] [] _ from S_X6_readWhole_0 _ _ _ ?_)
  simp +decide (disch := omega) only [↓EQA, CEA, LIA, NIA, Nat.lt_irrefl, Option.toList_some, Option.toList_none, List.cons_append, List.nil_append, true_and, and_true, Nat.reduceAdd, Nat.reduceLeDiff, not_true_eq_false, not_false_eq_true, if_true, if_false, ite_true, ite_false, Int32.reduceLT, ite_not, eq_self, or_true, true_or, ite_self, reduceIte, B_X6_readWhole_0, c4, e2]
  by_cases q : τ.2.2 = 2
  · rw [if_pos q] at one ⊢
    exact one w bl Ag.rf hC rfl
  · rw [if_neg q] at one ⊢
    refine t_blame (f := 1) hC (by decide) (by decide) fun w1 ha1 hC1 => ?_
    simp +decide (disch := omega) only [↓EQA, CEA, LIA, NIA, Nat.lt_irrefl, Option.toList_some, Option.toList_none, List.cons_append, List.nil_append, true_and, and_true, Nat.reduceAdd, Nat.reduceLeDiff, not_true_eq_false, not_false_eq_true, if_true, if_false, ite_true, ite_false, Int32.reduceLT, ite_not, eq_self, or_true, true_or, ite_self, reduceIte]
    exact one w1 _ ha1 hC1 rfl
def eSide (B : Nat → Nat) (n : Nat) (τ : Tk3) : Ans := if isWb B τ 14 = true then .inr (nxT B n τ, 1) else if isWb B τ 15 = true then .inr (nxT B n τ, 0) else .inl (1, τ.1)
def sdV (B : Nat → Nat) (τ : Tk3) : Nat := if isWb B τ 14 = true then 1 else 0
theorem t_readSide (hC : CSt w B n τ bl) (hQ : ∀ w', Ag TkP w w' → CSt w' B n (stT bl (eSide B n τ) τ) (stB bl (eSide B n τ)) → Q (some (.int (nI (sdV B τ)))) w') : Cl (d + 6) m_X6_readSide [.ref 22] w Q := by
  have two : ∀ (v : Nat) w1 bl', v = sdV B τ → Ag TkP w w1 → CSt w1 B n τ bl' → stpT B n bl' τ = stT bl (eSide B n τ) τ → bl' = stB bl (eSide B n τ) → B_X6_readSide_J2 (d + 5) 0 Q [.ref 22, .int (nI v)] [] w1 := by
    intro v w1 bl' hv ha hC1 e1 e3
    simp +decide (disch := omega) only [↓EQA, CEA, LIA, NIA, Nat.lt_irrefl, Option.toList_some, Option.toList_none, List.cons_append, List.nil_append, true_and, and_true, Nat.reduceAdd, Nat.reduceLeDiff, not_true_eq_false, not_false_eq_true, if_true, if_false, ite_true, ite_false, Int32.reduceLT, ite_not, eq_self, or_true, true_or, ite_self, reduceIte, B_X6_readSide_J2]
    refine t_stepS hC1 fun w2 ha2 hC2 => ?_
    simp +decide (disch := omega) only [↓EQA, CEA, LIA, NIA, Nat.lt_irrefl, Option.toList_some, Option.toList_none, List.cons_append, List.nil_append, true_and, and_true, Nat.reduceAdd, Nat.reduceLeDiff, not_true_eq_false, not_false_eq_true, if_true, if_false, ite_true, ite_false, Int32.reduceLT, ite_not, eq_self, or_true, true_or, ite_self, reduceIte]
    rw [e1, e3] at hC2
    rw [hv]
    exact hQ w2 (ha.tr ha2) hC2
  refine Cl_of k_X6_readSide.1 (Nat.le_of_ble_eq_true rfl) (show Wp m_X6_readSide _ 0 _ 0 [.ref 22, .null] [] _ from S_X6_readSide_0 _ _ _ ?_)
  simp +decide (disch := omega) only [↓EQA, CEA, LIA, NIA, Nat.lt_irrefl, Option.toList_some, Option.toList_none, List.cons_append, List.nil_append, true_and, and_true, Nat.reduceAdd, Nat.reduceLeDiff, not_true_eq_false, not_false_eq_true, if_true, if_false, ite_true, ite_false, Int32.reduceLT, ite_not, eq_self, or_true, true_or, ite_self, reduceIte, B_X6_readSide_0]
  refine t_is hC.1 hC.2.2.1 hC.2.2.2.1.1 (by decide : 14 < 24) ?_
  cases q : isWb B τ 14
  · simp +decide (disch := omega) only [↓EQA, CEA, LIA, NIA, Nat.lt_irrefl, Option.toList_some, Option.toList_none, List.cons_append, List.nil_append, true_and, and_true, Nat.reduceAdd, Nat.reduceLeDiff, not_true_eq_false, not_false_eq_true, if_true, if_false, ite_true, ite_false, Int32.reduceLT, ite_not, eq_self, or_true, true_or, ite_self, reduceIte, B_X6_readSide_J1]
    refine t_is hC.1 hC.2.2.1 hC.2.2.2.1.1 (by decide : 15 < 24) ?_
    cases q2 : isWb B τ 15
    · simp +decide (disch := omega) only [↓EQA, CEA, LIA, NIA, Nat.lt_irrefl, Option.toList_some, Option.toList_none, List.cons_append, List.nil_append, true_and, and_true, Nat.reduceAdd, Nat.reduceLeDiff, not_true_eq_false, not_false_eq_true, if_true, if_false, ite_true, ite_false, Int32.reduceLT, ite_not, eq_self, or_true, true_or, ite_self, reduceIte]
      refine t_blame (f := 1) hC (by decide) (by decide) fun w1 ha1 hC1 => ?_
      simp +decide (disch := omega) only [↓EQA, CEA, LIA, NIA, Nat.lt_irrefl, Option.toList_some, Option.toList_none, List.cons_append, List.nil_append, true_and, and_true, Nat.reduceAdd, Nat.reduceLeDiff, not_true_eq_false, not_false_eq_true, if_true, if_false, ite_true, ite_false, Int32.reduceLT, ite_not, eq_self, or_true, true_or, ite_self, reduceIte]
      refine two 0 w1 _ (by unfold sdV; rw [q]; rfl) ha1 hC1 ?_ ?_
      · unfold eSide; rw [q, q2]; cases bl <;> rfl
      · unfold eSide; rw [q, q2]; cases bl <;> rfl
    · simp +decide (disch := omega) only [↓EQA, CEA, LIA, NIA, Nat.lt_irrefl, Option.toList_some, Option.toList_none, List.cons_append, List.nil_append, true_and, and_true, Nat.reduceAdd, Nat.reduceLeDiff, not_true_eq_false, not_false_eq_true, if_true, if_false, ite_true, ite_false, Int32.reduceLT, ite_not, eq_self, or_true, true_or, ite_self, reduceIte]
      refine two 0 w bl (by unfold sdV; rw [q]; rfl) Ag.rf hC ?_ ?_
      · unfold eSide; rw [q, q2]; cases bl <;> rfl
      · unfold eSide; rw [q, q2]; cases bl <;> rfl
  · simp +decide (disch := omega) only [↓EQA, CEA, LIA, NIA, Nat.lt_irrefl, Option.toList_some, Option.toList_none, List.cons_append, List.nil_append, true_and, and_true, Nat.reduceAdd, Nat.reduceLeDiff, not_true_eq_false, not_false_eq_true, if_true, if_false, ite_true, ite_false, Int32.reduceLT, ite_not, eq_self, or_true, true_or, ite_self, reduceIte, B_X6_readSide_J1]
    refine two 1 w bl (by unfold sdV; rw [q]; rfl) Ag.rf hC ?_ ?_
    · unfold eSide; rw [q]; cases bl <;> rfl
    · unfold eSide; rw [q]; cases bl <;> rfl
def kiV (B : Nat → Nat) (τ : Tk3) : Nat := if isWb B τ 16 = true then 1 else if isWb B τ 17 = true then 2 else if isWb B τ 18 = true then 3 else 0
def eKind (B : Nat → Nat) (n : Nat) (τ : Tk3) : Ans := if (isWb B τ 16 || isWb B τ 17 || isWb B τ 18 || isWb B τ 19) = true then .inr (nxT B n τ, kiV B τ) else .inl (1, τ.1)
theorem t_readKind (hC : CSt w B n τ bl) (hQ : ∀ w', Ag TkP w w' → CSt w' B n (stT bl (eKind B n τ) τ) (stB bl (eKind B n τ)) → Q (some (.int (nI (kiV B τ)))) w') : Cl (d + 6) m_X6_readKind [.ref 22] w Q := by
  have two : ∀ (v : Nat) w1 bl', v = kiV B τ → Ag TkP w w1 → CSt w1 B n τ bl' → stpT B n bl' τ = stT bl (eKind B n τ) τ → bl' = stB bl (eKind B n τ) → B_X6_readKind_J1 (d + 5) 0 Q [.ref 22, .int (nI v)] [] w1 := by
    intro v w1 bl' hv ha hC1 e1 e3
    simp +decide (disch := omega) only [↓EQA, CEA, LIA, NIA, Nat.lt_irrefl, Option.toList_some, Option.toList_none, List.cons_append, List.nil_append, true_and, and_true, Nat.reduceAdd, Nat.reduceLeDiff, not_true_eq_false, not_false_eq_true, if_true, if_false, ite_true, ite_false, Int32.reduceLT, ite_not, eq_self, or_true, true_or, ite_self, reduceIte, B_X6_readKind_J1]
    refine t_stepS hC1 fun w2 ha2 hC2 => ?_
    simp +decide (disch := omega) only [↓EQA, CEA, LIA, NIA, Nat.lt_irrefl, Option.toList_some, Option.toList_none, List.cons_append, List.nil_append, true_and, and_true, Nat.reduceAdd, Nat.reduceLeDiff, not_true_eq_false, not_false_eq_true, if_true, if_false, ite_true, ite_false, Int32.reduceLT, ite_not, eq_self, or_true, true_or, ite_self, reduceIte]
    rw [e1, e3] at hC2
    rw [hv]
    exact hQ w2 (ha.tr ha2) hC2
  refine Cl_of k_X6_readKind.1 (Nat.le_of_ble_eq_true rfl) (show Wp m_X6_readKind _ 0 _ 0 [.ref 22, .null] [] _ from S_X6_readKind_0 _ _ _ ?_)
  simp +decide (disch := omega) only [↓EQA, CEA, LIA, NIA, Nat.lt_irrefl, Option.toList_some, Option.toList_none, List.cons_append, List.nil_append, true_and, and_true, Nat.reduceAdd, Nat.reduceLeDiff, not_true_eq_false, not_false_eq_true, if_true, if_false, ite_true, ite_false, Int32.reduceLT, ite_not, eq_self, or_true, true_or, ite_self, reduceIte, B_X6_readKind_0]
  refine t_is hC.1 hC.2.2.1 hC.2.2.2.1.1 (by decide : 16 < 24) ?_
  cases q : isWb B τ 16
  · simp +decide (disch := omega) only [↓EQA, CEA, LIA, NIA, Nat.lt_irrefl, Option.toList_some, Option.toList_none, List.cons_append, List.nil_append, true_and, and_true, Nat.reduceAdd, Nat.reduceLeDiff, not_true_eq_false, not_false_eq_true, if_true, if_false, ite_true, ite_false, Int32.reduceLT, ite_not, eq_self, or_true, true_or, ite_self, reduceIte]
    refine t_is hC.1 hC.2.2.1 hC.2.2.2.1.1 (by decide : 17 < 24) ?_
    cases q2 : isWb B τ 17
    · simp +decide (disch := omega) only [↓EQA, CEA, LIA, NIA, Nat.lt_irrefl, Option.toList_some, Option.toList_none, List.cons_append, List.nil_append, true_and, and_true, Nat.reduceAdd, Nat.reduceLeDiff, not_true_eq_false, not_false_eq_true, if_true, if_false, ite_true, ite_false, Int32.reduceLT, ite_not, eq_self, or_true, true_or, ite_self, reduceIte]
      refine t_is hC.1 hC.2.2.1 hC.2.2.2.1.1 (by decide : 18 < 24) ?_
      cases q3 : isWb B τ 18
      · simp +decide (disch := omega) only [↓EQA, CEA, LIA, NIA, Nat.lt_irrefl, Option.toList_some, Option.toList_none, List.cons_append, List.nil_append, true_and, and_true, Nat.reduceAdd, Nat.reduceLeDiff, not_true_eq_false, not_false_eq_true, if_true, if_false, ite_true, ite_false, Int32.reduceLT, ite_not, eq_self, or_true, true_or, ite_self, reduceIte]
        refine t_is hC.1 hC.2.2.1 hC.2.2.2.1.1 (by decide : 19 < 24) ?_
        cases q4 : isWb B τ 19
        · simp +decide (disch := omega) only [↓EQA, CEA, LIA, NIA, Nat.lt_irrefl, Option.toList_some, Option.toList_none, List.cons_append, List.nil_append, true_and, and_true, Nat.reduceAdd, Nat.reduceLeDiff, not_true_eq_false, not_false_eq_true, if_true, if_false, ite_true, ite_false, Int32.reduceLT, ite_not, eq_self, or_true, true_or, ite_self, reduceIte]
          refine t_blame (f := 1) hC (by decide) (by decide) fun w1 ha1 hC1 => ?_
          simp +decide (disch := omega) only [↓EQA, CEA, LIA, NIA, Nat.lt_irrefl, Option.toList_some, Option.toList_none, List.cons_append, List.nil_append, true_and, and_true, Nat.reduceAdd, Nat.reduceLeDiff, not_true_eq_false, not_false_eq_true, if_true, if_false, ite_true, ite_false, Int32.reduceLT, ite_not, eq_self, or_true, true_or, ite_self, reduceIte]
          refine two 0 w1 _ (by unfold kiV; rw [q, q2, q3]; rfl) ha1 hC1 ?_ ?_ <;> (unfold eKind; rw [q, q2, q3, q4]; cases bl <;> rfl)
        · simp +decide (disch := omega) only [↓EQA, CEA, LIA, NIA, Nat.lt_irrefl, Option.toList_some, Option.toList_none, List.cons_append, List.nil_append, true_and, and_true, Nat.reduceAdd, Nat.reduceLeDiff, not_true_eq_false, not_false_eq_true, if_true, if_false, ite_true, ite_false, Int32.reduceLT, ite_not, eq_self, or_true, true_or, ite_self, reduceIte]
          refine two 0 w bl (by unfold kiV; rw [q, q2, q3]; rfl) Ag.rf hC ?_ ?_ <;> (unfold eKind; rw [q, q2, q3, q4]; cases bl <;> rfl)
      · simp +decide (disch := omega) only [↓EQA, CEA, LIA, NIA, Nat.lt_irrefl, Option.toList_some, Option.toList_none, List.cons_append, List.nil_append, true_and, and_true, Nat.reduceAdd, Nat.reduceLeDiff, not_true_eq_false, not_false_eq_true, if_true, if_false, ite_true, ite_false, Int32.reduceLT, ite_not, eq_self, or_true, true_or, ite_self, reduceIte]
        refine two 3 w bl (by unfold kiV; rw [q, q2, q3]; rfl) Ag.rf hC ?_ ?_ <;> (unfold eKind; rw [q, q2, q3]; cases bl <;> rfl)
    · simp +decide (disch := omega) only [↓EQA, CEA, LIA, NIA, Nat.lt_irrefl, Option.toList_some, Option.toList_none, List.cons_append, List.nil_append, true_and, and_true, Nat.reduceAdd, Nat.reduceLeDiff, not_true_eq_false, not_false_eq_true, if_true, if_false, ite_true, ite_false, Int32.reduceLT, ite_not, eq_self, or_true, true_or, ite_self, reduceIte]
      refine two 2 w bl (by unfold kiV; rw [q, q2]; rfl) Ag.rf hC ?_ ?_ <;> (unfold eKind; rw [q, q2]; cases bl <;> rfl)
  · simp +decide (disch := omega) only [↓EQA, CEA, LIA, NIA, Nat.lt_irrefl, Option.toList_some, Option.toList_none, List.cons_append, List.nil_append, true_and, and_true, Nat.reduceAdd, Nat.reduceLeDiff, not_true_eq_false, not_false_eq_true, if_true, if_false, ite_true, ite_false, Int32.reduceLT, ite_not, eq_self, or_true, true_or, ite_self, reduceIte]
    refine two 1 w bl (by unfold kiV; rw [q]; rfl) Ag.rf hC ?_ ?_ <;> (unfold eKind; rw [q]; cases bl <;> rfl)
/-- the sort of the line that a token begins -/
def lnI (B : Nat → Nat) (τ : Tk3) : Int32 := if isWb B τ 0 = true then 11 else if isWb B τ 1 = true then 12 else if isWb B τ 2 = true then 5 else if isWb B τ 3 = true then 6 else if isWb B τ 4 = true then 7 else if isWb B τ 5 = true then 8 else if isWb B τ 6 = true then 9 else if isWb B τ 7 = true then 10 else -1
theorem t_sortOfLine (hX : TX w B n) (hC : CTK w τ) (hn : TOKn n τ) (hQ : Q (some (.int (lnI B τ))) w) : Cl (d + 6) m_X6_sortOfLine [.ref 22] w Q := by
  unfold lnI at hQ
  refine Cl_of k_X6_sortOfLine.1 (Nat.le_of_ble_eq_true rfl) (show Wp m_X6_sortOfLine _ 0 _ 0 [.ref 22] [] _ from S_X6_sortOfLine_0 _ _ _ ?_)
  simp +decide (disch := omega) only [↓EQA, CEA, LIA, NIA, Nat.lt_irrefl, Option.toList_some, Option.toList_none, List.cons_append, List.nil_append, true_and, and_true, Nat.reduceAdd, Nat.reduceLeDiff, not_true_eq_false, not_false_eq_true, if_true, if_false, ite_true, ite_false, Int32.reduceLT, ite_not, eq_self, or_true, true_or, ite_self, reduceIte, B_X6_sortOfLine_0]
  refine t_is hX hC hn (by decide : 0 < 24) ?_
  cases q0 : isWb B τ 0
  · rw [q0] at hQ
    simp +decide (disch := omega) only [↓EQA, CEA, LIA, NIA, Nat.lt_irrefl, Option.toList_some, Option.toList_none, List.cons_append, List.nil_append, true_and, and_true, Nat.reduceAdd, Nat.reduceLeDiff, not_true_eq_false, not_false_eq_true, if_true, if_false, ite_true, ite_false, Int32.reduceLT, ite_not, eq_self, or_true, true_or, ite_self, reduceIte]
    refine t_is hX hC hn (by decide : 1 < 24) ?_
    cases q1 : isWb B τ 1
    · rw [q1] at hQ
      simp +decide (disch := omega) only [↓EQA, CEA, LIA, NIA, Nat.lt_irrefl, Option.toList_some, Option.toList_none, List.cons_append, List.nil_append, true_and, and_true, Nat.reduceAdd, Nat.reduceLeDiff, not_true_eq_false, not_false_eq_true, if_true, if_false, ite_true, ite_false, Int32.reduceLT, ite_not, eq_self, or_true, true_or, ite_self, reduceIte]
      refine t_is hX hC hn (by decide : 2 < 24) ?_
      cases q2 : isWb B τ 2
      · rw [q2] at hQ
        simp +decide (disch := omega) only [↓EQA, CEA, LIA, NIA, Nat.lt_irrefl, Option.toList_some, Option.toList_none, List.cons_append, List.nil_append, true_and, and_true, Nat.reduceAdd, Nat.reduceLeDiff, not_true_eq_false, not_false_eq_true, if_true, if_false, ite_true, ite_false, Int32.reduceLT, ite_not, eq_self, or_true, true_or, ite_self, reduceIte]
        refine t_is hX hC hn (by decide : 3 < 24) ?_
        cases q3 : isWb B τ 3
        · rw [q3] at hQ
          simp +decide (disch := omega) only [↓EQA, CEA, LIA, NIA, Nat.lt_irrefl, Option.toList_some, Option.toList_none, List.cons_append, List.nil_append, true_and, and_true, Nat.reduceAdd, Nat.reduceLeDiff, not_true_eq_false, not_false_eq_true, if_true, if_false, ite_true, ite_false, Int32.reduceLT, ite_not, eq_self, or_true, true_or, ite_self, reduceIte]
          refine t_is hX hC hn (by decide : 4 < 24) ?_
          cases q4 : isWb B τ 4
          · rw [q4] at hQ
            simp +decide (disch := omega) only [↓EQA, CEA, LIA, NIA, Nat.lt_irrefl, Option.toList_some, Option.toList_none, List.cons_append, List.nil_append, true_and, and_true, Nat.reduceAdd, Nat.reduceLeDiff, not_true_eq_false, not_false_eq_true, if_true, if_false, ite_true, ite_false, Int32.reduceLT, ite_not, eq_self, or_true, true_or, ite_self, reduceIte]
            refine t_is hX hC hn (by decide : 5 < 24) ?_
            cases q5 : isWb B τ 5
            · rw [q5] at hQ
              simp +decide (disch := omega) only [↓EQA, CEA, LIA, NIA, Nat.lt_irrefl, Option.toList_some, Option.toList_none, List.cons_append, List.nil_append, true_and, and_true, Nat.reduceAdd, Nat.reduceLeDiff, not_true_eq_false, not_false_eq_true, if_true, if_false, ite_true, ite_false, Int32.reduceLT, ite_not, eq_self, or_true, true_or, ite_self, reduceIte]
              refine t_is hX hC hn (by decide : 6 < 24) ?_
              cases q6 : isWb B τ 6
              · rw [q6] at hQ
                simp +decide (disch := omega) only [↓EQA, CEA, LIA, NIA, Nat.lt_irrefl, Option.toList_some, Option.toList_none, List.cons_append, List.nil_append, true_and, and_true, Nat.reduceAdd, Nat.reduceLeDiff, not_true_eq_false, not_false_eq_true, if_true, if_false, ite_true, ite_false, Int32.reduceLT, ite_not, eq_self, or_true, true_or, ite_self, reduceIte]
                refine t_is hX hC hn (by decide : 7 < 24) ?_
                cases q7 : isWb B τ 7
                · rw [q7] at hQ
                  simp +decide (disch := omega) only [↓EQA, CEA, LIA, NIA, Nat.lt_irrefl, Option.toList_some, Option.toList_none, List.cons_append, List.nil_append, true_and, and_true, Nat.reduceAdd, Nat.reduceLeDiff, not_true_eq_false, not_false_eq_true, if_true, if_false, ite_true, ite_false, Int32.reduceLT, ite_not, eq_self, or_true, true_or, ite_self, reduceIte, B_X6_sortOfLine_J1]; exact hQ
                · rw [q7] at hQ
                  simp +decide (disch := omega) only [↓EQA, CEA, LIA, NIA, Nat.lt_irrefl, Option.toList_some, Option.toList_none, List.cons_append, List.nil_append, true_and, and_true, Nat.reduceAdd, Nat.reduceLeDiff, not_true_eq_false, not_false_eq_true, if_true, if_false, ite_true, ite_false, Int32.reduceLT, ite_not, eq_self, or_true, true_or, ite_self, reduceIte, B_X6_sortOfLine_J1]; exact hQ
              · rw [q6] at hQ
                simp +decide (disch := omega) only [↓EQA, CEA, LIA, NIA, Nat.lt_irrefl, Option.toList_some, Option.toList_none, List.cons_append, List.nil_append, true_and, and_true, Nat.reduceAdd, Nat.reduceLeDiff, not_true_eq_false, not_false_eq_true, if_true, if_false, ite_true, ite_false, Int32.reduceLT, ite_not, eq_self, or_true, true_or, ite_self, reduceIte]; exact hQ
            · rw [q5] at hQ
              simp +decide (disch := omega) only [↓EQA, CEA, LIA, NIA, Nat.lt_irrefl, Option.toList_some, Option.toList_none, List.cons_append, List.nil_append, true_and, and_true, Nat.reduceAdd, Nat.reduceLeDiff, not_true_eq_false, not_false_eq_true, if_true, if_false, ite_true, ite_false, Int32.reduceLT, ite_not, eq_self, or_true, true_or, ite_self, reduceIte]; exact hQ
          · rw [q4] at hQ
            simp +decide (disch := omega) only [↓EQA, CEA, LIA, NIA, Nat.lt_irrefl, Option.toList_some, Option.toList_none, List.cons_append, List.nil_append, true_and, and_true, Nat.reduceAdd, Nat.reduceLeDiff, not_true_eq_false, not_false_eq_true, if_true, if_false, ite_true, ite_false, Int32.reduceLT, ite_not, eq_self, or_true, true_or, ite_self, reduceIte]; exact hQ
        · rw [q3] at hQ
          simp +decide (disch := omega) only [↓EQA, CEA, LIA, NIA, Nat.lt_irrefl, Option.toList_some, Option.toList_none, List.cons_append, List.nil_append, true_and, and_true, Nat.reduceAdd, Nat.reduceLeDiff, not_true_eq_false, not_false_eq_true, if_true, if_false, ite_true, ite_false, Int32.reduceLT, ite_not, eq_self, or_true, true_or, ite_self, reduceIte]; exact hQ
      · rw [q2] at hQ
        simp +decide (disch := omega) only [↓EQA, CEA, LIA, NIA, Nat.lt_irrefl, Option.toList_some, Option.toList_none, List.cons_append, List.nil_append, true_and, and_true, Nat.reduceAdd, Nat.reduceLeDiff, not_true_eq_false, not_false_eq_true, if_true, if_false, ite_true, ite_false, Int32.reduceLT, ite_not, eq_self, or_true, true_or, ite_self, reduceIte]; exact hQ
    · rw [q1] at hQ
      simp +decide (disch := omega) only [↓EQA, CEA, LIA, NIA, Nat.lt_irrefl, Option.toList_some, Option.toList_none, List.cons_append, List.nil_append, true_and, and_true, Nat.reduceAdd, Nat.reduceLeDiff, not_true_eq_false, not_false_eq_true, if_true, if_false, ite_true, ite_false, Int32.reduceLT, ite_not, eq_self, or_true, true_or, ite_self, reduceIte]; exact hQ
  · rw [q0] at hQ
    simp +decide (disch := omega) only [↓EQA, CEA, LIA, NIA, Nat.lt_irrefl, Option.toList_some, Option.toList_none, List.cons_append, List.nil_append, true_and, and_true, Nat.reduceAdd, Nat.reduceLeDiff, not_true_eq_false, not_false_eq_true, if_true, if_false, ite_true, ite_false, Int32.reduceLT, ite_not, eq_self, or_true, true_or, ite_self, reduceIte]; exact hQ
end Read2
