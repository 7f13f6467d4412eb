/-! ===== telling a name, naming one ===== -/
def isNm (B : Nat → Nat) (τ : Tk3) : Bool := decide (τ.2.2 = 1) && decide (lnI B τ = -1)
def eTell (B : Nat → Nat) (n : Nat) (N : Nat → Nm4) (c : Nat) (τ : Tk3) : Ans := if isNm B τ = true then (if fnN B τ N c < c then .inl (3, τ.1) else .inr (nxT B n τ, 0)) else .inl (1, τ.1)
def eNum (B : Nat → Nat) (N : Nat → Nm4) (c so : Nat) (τ : Tk3) : Ans := if isNm B τ = true then (if fnN B τ N c < c ∧ (N (fnN B τ N c)).2.2.1 = so then .inr (τ, (N (fnN B τ N c)).2.2.2) else .inl (2, τ.1)) else .inl (1, τ.1)
def nuV (B : Nat → Nat) (N : Nat → Nm4) (c so : Nat) (τ : Tk3) : Nat := if fnN B τ N c < c ∧ (N (fnN B τ N c)).2.2.1 = so then (N (fnN B τ N c)).2.2.2 else 0
section Names2
variable {d : Nat} {w : Mem} {Q : Option Value → Mem → Prop} {B : Nat → Nat} {n c so nu : Nat} {τ : Tk3} {bl : Option (Nat × Nat)} {N : Nat → Nm4}
theorem t_numberOfName (hC : CSt w B n τ bl) (hN : NMs w n c N) (hso : so ≤ 12) (hQ : ∀ w', Ag TkP w w' → CSt w' B n τ (stB bl (eNum B N c so τ)) → Q (some (.int (nI (nuV B N c so τ)))) w') : Cl (d + 7) m_X6_numberOfName [.ref 22, .int (nI so)] w Q := by
  obtain ⟨hX, c1, hK, ct, cb⟩ := id hC
  obtain ⟨n1, n2, n3⟩ := id hN
  have hk4 : τ.2.2 ≤ 4 := ct.1.2.2
  have e1 : (nI τ.2.2 = 1) = (τ.2.2 = 1) := eq_n (b := 1) (by omega) (by decide)
  -- the name is sought, whatever was blamed
  have two : ∀ w1 bl', Ag TkP w w1 → CSt w1 B n τ bl' → bl' = (if isNm B τ = true then bl else blm bl 1 τ) → B_X6_numberOfName_J2 (d + 6) 0 Q [.ref 22, .int (nI so), .null] [] w1 := by
    intro w1 bl' ha hC1 hbl
    have hN1 : NMs w1 n c N := hN.ag ha (fun j i a b z => by omega)
    obtain ⟨m1, m2, m3⟩ := id hN1
    have three : ∀ v : Value, ¬ (fnN B τ N c < c ∧ (N (fnN B τ N c)).2.2.1 = so) → B_X6_numberOfName_J3 (d + 6) 0 Q [.ref 22, .int (nI so), v] [] w1 := by
      intro v hno
      simp +decide (disch := omega) only [↓EQA, CEA, LIA, NIA, Nat.lt_irrefl, Option.toList_some, Option.toList_none, List.cons_append, List.nil_append, true_and, and_true, Nat.reduceAdd, Nat.reduceLeDiff, not_true_eq_false, not_false_eq_true, if_true, if_false, ite_true, ite_false, Int32.reduceLT, ite_not, eq_self, or_true, true_or, ite_self, reduceIte, B_X6_numberOfName_J3]
      refine t_blame (f := 2) hC1 (by decide) (by decide) fun w2 ha2 hC2 => ?_
      simp +decide (disch := omega) only [↓EQA, CEA, LIA, NIA, Nat.lt_irrefl, Option.toList_some, Option.toList_none, List.cons_append, List.nil_append, true_and, and_true, Nat.reduceAdd, Nat.reduceLeDiff, not_true_eq_false, not_false_eq_true, if_true, if_false, ite_true, ite_false, Int32.reduceLT, ite_not, eq_self, or_true, true_or, ite_self, reduceIte]
      have := hQ w2 (ha.tr ha2) (by
        have e : blm bl' 2 τ = stB bl (eNum B N c so τ) := by
          rw [hbl]
          unfold eNum
          by_cases q : isNm B τ = true
          · rw [if_pos q, if_pos q, if_neg hno]; cases bl <;> rfl
          · rw [if_neg q, if_neg q]; cases bl <;> rfl
        rw [← e]; exact hC2)
      rw [show nuV B N c so τ = 0 by unfold nuV; rw [if_neg hno]] at this
      exact this
    simp +decide (disch := omega) only [↓EQA, CEA, LIA, NIA, Nat.lt_irrefl, Option.toList_some, Option.toList_none, List.cons_append, List.nil_append, true_and, and_true, Nat.reduceAdd, Nat.reduceLeDiff, not_true_eq_false, not_false_eq_true, if_true, if_false, ite_true, ite_false, Int32.reduceLT, ite_not, eq_self, or_true, true_or, ite_self, reduceIte, B_X6_numberOfName_J2]
    refine t_findN hC1.1 hC1.2.2.1 ct.1 hN1 ?_
    by_cases q : fnN B τ N c < c
    · rw [if_pos q]
      obtain ⟨⟨a1, a2, a3, a4⟩, b1, b2, b3, b4⟩ := m3 _ q
      have h13 : fnN B τ N c < 13 := by omega
      have em : (nI (fnN B τ N c) = -1) = False := ngNe (by omega) (by decide)
      have es : (nI (N (fnN B τ N c)).2.2.1 = nI so) = ((N (fnN B τ N c)).2.2.1 = so) := eq_n (by omega) (by omega)
      simp +decide (disch := omega) only [↓EQA, CEA, LIA, NIA, Nat.lt_irrefl, Option.toList_some, Option.toList_none, List.cons_append, List.nil_append, true_and, and_true, Nat.reduceAdd, Nat.reduceLeDiff, not_true_eq_false, not_false_eq_true, if_true, if_false, ite_true, ite_false, Int32.reduceLT, ite_not, eq_self, or_true, true_or, ite_self, reduceIte, em, h13, a3, es]
      by_cases q2 : (N (fnN B τ N c)).2.2.1 = so
      · rw [if_pos q2]
        simp +decide (disch := omega) only [↓EQA, CEA, LIA, NIA, Nat.lt_irrefl, Option.toList_some, Option.toList_none, List.cons_append, List.nil_append, true_and, and_true, Nat.reduceAdd, Nat.reduceLeDiff, not_true_eq_false, not_false_eq_true, if_true, if_false, ite_true, ite_false, Int32.reduceLT, ite_not, eq_self, or_true, true_or, ite_self, reduceIte, h13, a4]
        have := hQ w1 ha (by
          have e : bl' = stB bl (eNum B N c so τ) := by
            rw [hbl]
            unfold eNum
            by_cases z : isNm B τ = true
            · rw [if_pos z, if_pos z, if_pos ⟨q, q2⟩]; cases bl <;> rfl
            · rw [if_neg z, if_neg z]; cases bl <;> rfl
          rw [← e]; exact hC1)
        rw [show nuV B N c so τ = (N (fnN B τ N c)).2.2.2 by unfold nuV; rw [if_pos ⟨q, q2⟩]] at this
        exact this
      · rw [if_neg q2]
        exact three _ fun z => q2 z.2
    · rw [if_neg q]
      simp +decide (disch := omega) only [↓EQA, CEA, LIA, NIA, Nat.lt_irrefl, Option.toList_some, Option.toList_none, List.cons_append, List.nil_append, true_and, and_true, Nat.reduceAdd, Nat.reduceLeDiff, not_true_eq_false, not_false_eq_true, if_true, if_false, ite_true, ite_false, Int32.reduceLT, ite_not, eq_self, or_true, true_or, ite_self, reduceIte]
      exact three _ fun z => q z.1
  have one : ¬ isNm B τ = true → B_X6_numberOfName_J1 (d + 6) 0 Q [.ref 22, .int (nI so), .null] [] w := by
    intro hno
    simp +decide (disch := omega) only [↓EQA, CEA, LIA, NIA, Nat.lt_irrefl, Option.toList_some, Option.toList_none, List.cons_append, List.nil_append, true_and, and_true, Nat.reduceAdd, Nat.reduceLeDiff, not_true_eq_false, not_false_eq_true, if_true, if_false, ite_true, ite_false, Int32.reduceLT, ite_not, eq_self, or_true, true_or, ite_self, reduceIte, B_X6_numberOfName_J1]
    refine t_blame (f := 1) hC (by decide) (by decide) fun w1 ha1 hC1 => ?_
    simp +decide (disch := omega) only [↓EQA, CEA, LIA, NIA, Nat.lt_irrefl, Option.toList_some, Option.toList_none, List.cons_append, List.nil_append, true_and, and_true, Nat.reduceAdd, Nat.reduceLeDiff, not_true_eq_false, not_false_eq_true, if_true, if_false, ite_true, ite_false, Int32.reduceLT, ite_not, eq_self, or_true, true_or, ite_self, reduceIte]
    exact two w1 _ ha1 hC1 (by rw [if_neg hno])
  refine Cl_of k_X6_numberOfName.1 (Nat.le_of_ble_eq_true rfl) (show Wp m_X6_numberOfName _ 0 _ 0 [.ref 22, .int (nI so), .null] [] _ from S_X6_numberOfName_0 _ _ _ ?_)
  simp +decide (disch := omega) only [↓EQA, CEA, LIA, NIA, Nat.lt_irrefl, Option.toList_some, Option.toList_none, List.cons_append, List.nil_append, true_and, and_true, Nat.reduceAdd, Nat.reduceLeDiff, not_true_eq_false, not_false_eq_true, if_true, if_false, ite_true, ite_false, Int32.reduceLT, ite_not, eq_self, or_true, true_or, ite_self, reduceIte, B_X6_numberOfName_0, hK.2.2, e1]
  by_cases q : τ.2.2 = 1
  · rw [if_pos q]
    refine t_sortOfLine hX hK ct.1 ?_
    simp +decide (disch := omega) only [↓EQA, CEA, LIA, NIA, Nat.lt_irrefl, Option.toList_some, Option.toList_none, List.cons_append, List.nil_append, true_and, and_true, Nat.reduceAdd, Nat.reduceLeDiff, not_true_eq_false, not_false_eq_true, if_true, if_false, ite_true, ite_false, Int32.reduceLT, ite_not, eq_self, or_true, true_or, ite_self, reduceIte]
    by_cases q2 : lnI B τ = -1
    · rw [if_pos q2]
      exact two w bl Ag.rf hC (by rw [if_pos (by unfold isNm; simp [q, q2])])
    · rw [if_neg q2]
      exact one (by unfold isNm; simp [q2])
  · rw [if_neg q]
    exact one (by unfold isNm; simp [q])
theorem t_tellName (hC : CSt w B n τ bl) (hN : NMs w n c N) (hc : bl = none → c < 13) (hso : so ≤ 10) (hnu : nu ≤ 5) (h29 : w.1 29 so = nI nu) (hQ : ∀ w', Ag NaP w w' → CSt w' B n (stT bl (eTell B n N c τ) τ) (stB bl (eTell B n N c τ)) → (stB bl (eTell B n N c τ) = none → NMs w' n (c + 1) (adN N c (τ.1, τ.2.1, so, nu))) → (stB bl (eTell B n N c τ) ≠ none → NMs w' n c N) → Q none w') : Cl (d + 7) m_X6_tellName [.ref 22, .int (nI so)] w Q := by
  obtain ⟨hX, c1, hK, ct, cb⟩ := id hC
  have hk4 : τ.2.2 ≤ 4 := ct.1.2.2
  have e1 : (nI τ.2.2 = 1) = (τ.2.2 = 1) := eq_n (b := 1) (by omega) (by decide)
  have three : ∀ w1 bl', Ag TkP w w1 → CSt w1 B n τ bl' → bl' = stB bl (eTell B n N c τ) → B_X6_tellName_J3 (d + 6) 0 Q [.ref 22, .int (nI so)] [] w1 := by
    intro w1 bl' ha hC1 hbl
    have hN1 : NMs w1 n c N := hN.ag ha (fun j i a b z => by omega)
    have hso11 : so < 11 := by omega
    have k29 : w1.1 29 so = nI nu := by rw [(ha 29 so (by omega)).1]; exact h29
    cases hb : bl' with
    | none =>
      rw [hb] at hC1 hbl
      have hbln : bl = none := by
        cases bl with
        | none => rfl
        | some e => exact absurd hbl (by unfold stB; exact fun z => by cases z)
      have k5 : w1.1 44 5 = 0 := hC1.2.2.2.2
      simp +decide (disch := omega) only [↓EQA, CEA, LIA, NIA, Nat.lt_irrefl, Option.toList_some, Option.toList_none, List.cons_append, List.nil_append, true_and, and_true, Nat.reduceAdd, Nat.reduceLeDiff, not_true_eq_false, not_false_eq_true, if_true, if_false, ite_true, ite_false, Int32.reduceLT, ite_not, eq_self, or_true, true_or, ite_self, reduceIte, B_X6_tellName_J3, k5, hso11, k29]
      refine t_addN hC1.2.2.1 ct.1 hN1 (hc hbln) (by omega) hnu fun w2 ha2 hN2 => ?_
      have hC2 : CSt w2 B n τ none := ⟨hC1.1.ag ha2 (fun i z => by omega), by rw [(ha2 44 1 (by omega)).1]; exact hC1.2.1, ⟨by rw [(ha2 44 2 (by omega)).1]; exact hC1.2.2.1.1, by rw [(ha2 44 3 (by omega)).1]; exact hC1.2.2.1.2.1, by rw [(ha2 44 4 (by omega)).1]; exact hC1.2.2.1.2.2⟩, ct, by show w2.1 44 5 = 0; rw [(ha2 44 5 (by omega)).1]; exact k5⟩
      simp +decide (disch := omega) only [↓EQA, CEA, LIA, NIA, Nat.lt_irrefl, Option.toList_some, Option.toList_none, List.cons_append, List.nil_append, true_and, and_true, Nat.reduceAdd, Nat.reduceLeDiff, not_true_eq_false, not_false_eq_true, if_true, if_false, ite_true, ite_false, Int32.reduceLT, ite_not, eq_self, or_true, true_or, ite_self, reduceIte, B_X6_tellName_J4]
      refine t_stepS hC2 fun w3 ha3 hC3 => ?_
      simp +decide (disch := omega) only [↓EQA, CEA, LIA, NIA, Nat.lt_irrefl, Option.toList_some, Option.toList_none, List.cons_append, List.nil_append, true_and, and_true, Nat.reduceAdd, Nat.reduceLeDiff, not_true_eq_false, not_false_eq_true, if_true, if_false, ite_true, ite_false, Int32.reduceLT, ite_not, eq_self, or_true, true_or, ite_self, reduceIte]
      refine hQ w3 (((ha.wk fun j i z => by omega).tr (ha2.wk fun j i z => by omega)).tr (ha3.wk fun j i z => by omega)) ?_ (fun _ => hN2.ag ha3 (fun j i a b z => by omega)) (fun z => absurd hbl.symm z)
      rw [← hbl]
      have : stT bl (eTell B n N c τ) τ = stpT B n none τ := by
        rw [hbln] at hbl ⊢
        unfold eTell at hbl ⊢
        by_cases z : isNm B τ = true
        · rw [if_pos z] at hbl ⊢
          by_cases y : fnN B τ N c < c
          · rw [if_pos y] at hbl; cases hbl
          · rw [if_neg y]; rfl
        · rw [if_neg z] at hbl; cases hbl
      rw [this]
      exact hC3
    | some e =>
      rw [hb] at hC1 hbl
      obtain ⟨b1, b2, b3, b4⟩ : w1.1 44 5 = nI e.1 ∧ 1 ≤ e.1 ∧ e.1 ≤ 7 ∧ w1.1 44 6 = nI e.2 := hC1.2.2.2.2
      have e0 : (nI e.1 = 0) = False := eq_false fun z => by have := (nI_eq (b := 0) (by omega) (by decide)).mp z; omega
      simp +decide (disch := omega) only [↓EQA, CEA, LIA, NIA, Nat.lt_irrefl, Option.toList_some, Option.toList_none, List.cons_append, List.nil_append, true_and, and_true, Nat.reduceAdd, Nat.reduceLeDiff, not_true_eq_false, not_false_eq_true, if_true, if_false, ite_true, ite_false, Int32.reduceLT, ite_not, eq_self, or_true, true_or, ite_self, reduceIte, B_X6_tellName_J3, b1, e0, B_X6_tellName_J4]
      refine t_stepS hC1 fun w3 ha3 hC3 => ?_
      simp +decide (disch := omega) only [↓EQA, CEA, LIA, NIA, Nat.lt_irrefl, Option.toList_some, Option.toList_none, List.cons_append, List.nil_append, true_and, and_true, Nat.reduceAdd, Nat.reduceLeDiff, not_true_eq_false, not_false_eq_true, if_true, if_false, ite_true, ite_false, Int32.reduceLT, ite_not, eq_self, or_true, true_or, ite_self, reduceIte]
      refine hQ w3 ((ha.wk fun j i z => by omega).tr (ha3.wk fun j i z => by omega)) ?_ (fun z => by rw [z] at hbl; cases hbl) (fun _ => hN1.ag ha3 (fun j i a b z => by omega))
      rw [← hbl]
      have : stT bl (eTell B n N c τ) τ = τ := by
        cases bl with
        | some e' => rfl
        | none =>
          unfold eTell at hbl ⊢
          by_cases z : isNm B τ = true
          · rw [if_pos z] at hbl ⊢
            by_cases y : fnN B τ N c < c
            · rw [if_pos y]; rfl
            · rw [if_neg y] at hbl; cases hbl
          · rw [if_neg z]; rfl
      rw [this]
      exact hC3
  have two : ∀ w1 bl', Ag TkP w w1 → CSt w1 B n τ bl' → bl' = (if isNm B τ = true then bl else blm bl 1 τ) → B_X6_tellName_J2 (d + 6) 0 Q [.ref 22, .int (nI so)] [] w1 := by
    intro w1 bl' ha hC1 hbl
    have hN1 : NMs w1 n c N := hN.ag ha (fun j i a b z => by omega)
    have hc13 := hN1.2.1
    simp +decide (disch := omega) only [↓EQA, CEA, LIA, NIA, Nat.lt_irrefl, Option.toList_some, Option.toList_none, List.cons_append, List.nil_append, true_and, and_true, Nat.reduceAdd, Nat.reduceLeDiff, not_true_eq_false, not_false_eq_true, if_true, if_false, ite_true, ite_false, Int32.reduceLT, ite_not, eq_self, or_true, true_or, ite_self, reduceIte, B_X6_tellName_J2]
    refine t_findN hC1.1 hC1.2.2.1 ct.1 hN1 ?_
    by_cases q : fnN B τ N c < c
    · rw [if_pos q]
      have em : (nI (fnN B τ N c) = -1) = False := ngNe (by omega) (by decide)
      simp +decide (disch := omega) only [↓EQA, CEA, LIA, NIA, Nat.lt_irrefl, Option.toList_some, Option.toList_none, List.cons_append, List.nil_append, true_and, and_true, Nat.reduceAdd, Nat.reduceLeDiff, not_true_eq_false, not_false_eq_true, if_true, if_false, ite_true, ite_false, Int32.reduceLT, ite_not, eq_self, or_true, true_or, ite_self, reduceIte, em]
      refine t_blame (f := 3) hC1 (by decide) (by decide) fun w2 ha2 hC2 => ?_
      simp +decide (disch := omega) only [↓EQA, CEA, LIA, NIA, Nat.lt_irrefl, Option.toList_some, Option.toList_none, List.cons_append, List.nil_append, true_and, and_true, Nat.reduceAdd, Nat.reduceLeDiff, not_true_eq_false, not_false_eq_true, if_true, if_false, ite_true, ite_false, Int32.reduceLT, ite_not, eq_self, or_true, true_or, ite_self, reduceIte]
      refine three w2 _ (ha.tr ha2) hC2 ?_
      rw [hbl]
      unfold eTell
      by_cases z : isNm B τ = true
      · rw [if_pos z, if_pos z, if_pos q]; cases bl <;> rfl
      · rw [if_neg z, if_neg z]; cases bl <;> rfl
    · rw [if_neg q]
      simp +decide (disch := omega) only [↓EQA, CEA, LIA, NIA, Nat.lt_irrefl, Option.toList_some, Option.toList_none, List.cons_append, List.nil_append, true_and, and_true, Nat.reduceAdd, Nat.reduceLeDiff, not_true_eq_false, not_false_eq_true, if_true, if_false, ite_true, ite_false, Int32.reduceLT, ite_not, eq_self, or_true, true_or, ite_self, reduceIte]
      refine three w1 bl' ha hC1 ?_
      rw [hbl]
      unfold eTell
      by_cases z : isNm B τ = true
      · rw [if_pos z, if_pos z, if_neg q]; cases bl <;> rfl
      · rw [if_neg z, if_neg z]; cases bl <;> rfl
  have one : ¬ isNm B τ = true → B_X6_tellName_J1 (d + 6) 0 Q [.ref 22, .int (nI so)] [] w := by
    intro hno
    simp +decide (disch := omega) only [↓EQA, CEA, LIA, NIA, Nat.lt_irrefl, Option.toList_some, Option.toList_none, List.cons_append, List.nil_append, true_and, and_true, Nat.reduceAdd, Nat.reduceLeDiff, not_true_eq_false, not_false_eq_true, if_true, if_false, ite_true, ite_false, Int32.reduceLT, ite_not, eq_self, or_true, true_or, ite_self, reduceIte, B_X6_tellName_J1]
    refine t_blame (f := 1) hC (by decide) (by decide) fun w1 ha1 hC1 => ?_
    simp +decide (disch := omega) only [↓EQA, CEA, LIA, NIA, Nat.lt_irrefl, Option.toList_some, Option.toList_none, List.cons_append, List.nil_append, true_and, and_true, Nat.reduceAdd, Nat.reduceLeDiff, not_true_eq_false, not_false_eq_true, if_true, if_false, ite_true, ite_false, Int32.reduceLT, ite_not, eq_self, or_true, true_or, ite_self, reduceIte]
    exact two w1 _ ha1 hC1 (by rw [if_neg hno])
  refine Cl_of k_X6_tellName.1 (Nat.le_of_ble_eq_true rfl) (show Wp m_X6_tellName _ 0 _ 0 [.ref 22, .int (nI so)] [] _ from S_X6_tellName_0 _ _ _ ?_)
  simp +decide (disch := omega) only [↓EQA, CEA, LIA, NIA, Nat.lt_irrefl, Option.toList_some, Option.toList_none, List.cons_append, List.nil_append, true_and, and_true, Nat.reduceAdd, Nat.reduceLeDiff, not_true_eq_false, not_false_eq_true, if_true, if_false, ite_true, ite_false, Int32.reduceLT, ite_not, eq_self, or_true, true_or, ite_self, reduceIte, B_X6_tellName_0, hK.2.2, e1]
  by_cases q : τ.2.2 = 1
  · rw [if_pos q]
    refine t_sortOfLine hX hK ct.1 ?_
    simp +decide (disch := omega) only [↓EQA, CEA, LIA, NIA, Nat.lt_irrefl, Option.toList_some, Option.toList_none, List.cons_append, List.nil_append, true_and, and_true, Nat.reduceAdd, Nat.reduceLeDiff, not_true_eq_false, not_false_eq_true, if_true, if_false, ite_true, ite_false, Int32.reduceLT, ite_not, eq_self, or_true, true_or, ite_self, reduceIte]
    by_cases q2 : lnI B τ = -1
    · rw [if_pos q2]
      exact two w bl Ag.rf hC (by rw [if_pos (by unfold isNm; simp [q, q2])])
    · rw [if_neg q2]
      exact one (by unfold isNm; simp [q2])
  · rw [if_neg q]
    exact one (by unfold isNm; simp [q])
end Names2
