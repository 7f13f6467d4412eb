/-! ===== a line of what was seen ===== -/
section Lines5
variable {d : Nat} {w : Mem} {Q : Option Value → Mem → Prop} {B : Nat → Nat} {n c k so : Nat} {τ : Tk3} {N : Nat → Nm4} {T : Tv} {D : Nat → Nat} {bl : Option (Nat × Nat)}
def nxA3 (B : Nat → Nat) (n : Nat) (τ : Tk3) : Ans := .inr (nxT B n τ, 0)
theorem stT_num : stT bl (eNum B N c so τ) τ = τ := by
  unfold eNum
  cases bl with
  | some e => rfl
  | none =>
    split
    · split <;> rfl
    · rfl
theorem cs_num {w : Mem} {s : Cs} (h : CSt w B n s.1 (stB s.2 (eNum B N c so s.1))) : CSt w B n (cst (eNum B N c so) s).1 (cst (eNum B N c so) s).2 := by
  show CSt w B n (stT s.2 (eNum B N c so s.1) s.1) (stB s.2 (eNum B N c so s.1))
  rw [stT_num]; exact h
theorem cs_nx {w : Mem} {s : Cs} (h : CSt w B n (stpT B n s.2 s.1) s.2) : CSt w B n (cst (nxA3 B n) s).1 (cst (nxA3 B n) s).2 := by
  obtain ⟨t, b⟩ := s
  cases b <;> exact h
/-- two that must not be the same -/
def neB (v1 v2 f : Nat) (s : Cs) : Cs := if v1 = v2 then (s.1, blm s.2 f s.1) else s
def sw1 (B : Nat → Nat) (N : Nat → Nm4) (c : Nat) (τ : Tk3) : Cs := cst (eNum B N c 6) (τ, none)
def sw2 (B : Nat → Nat) (n : Nat) (N : Nat → Nm4) (c : Nat) (τ : Tk3) : Cs := cst (nxA3 B n) (sw1 B N c τ)
def sw3 (B : Nat → Nat) (n : Nat) (N : Nat → Nm4) (c : Nat) (τ : Tk3) : Cs := cst (eNum B N c 6) (sw2 B n N c τ)
def sw4 (B : Nat → Nat) (n : Nat) (N : Nat → Nm4) (c : Nat) (τ : Tk3) : Cs := neB (nuV B N c 6 τ) (nuV B N c 6 (sw2 B n N c τ).1) 3 (sw3 B n N c τ)
def sw5 (B : Nat → Nat) (n : Nat) (N : Nat → Nm4) (c : Nat) (τ : Tk3) : Cs := cst (nxA3 B n) (sw4 B n N c τ)
def sw6 (B : Nat → Nat) (n : Nat) (N : Nat → Nm4) (c : Nat) (τ : Tk3) : Cs := cst (eNum B N c 5) (sw5 B n N c τ)
def sw7 (B : Nat → Nat) (n : Nat) (N : Nat → Nm4) (c : Nat) (τ : Tk3) : Cs := cst (nxA3 B n) (sw6 B n N c τ)
theorem nuV_le (hN : NMs w n c N) : nuV B N c so τ ≤ 5 := by
  unfold nuV
  split
  · next q => exact (hN.2.2 _ q.1).2.2.2.2
  · decide
theorem t_readSaw (hC : CSt w B n τ none) (hN : NMs w n c N) (hT : ToldR w T) (hk : T 0 10 = nI k) (hk5 : k < 5) (hQ : ∀ w', Ag RdP w w' → CSt w' B n (sw7 B n N c τ).1 (sw7 B n N c τ).2 → (∀ j i, (22 ≤ j ∧ j ≤ 28) ∨ j = 42 ∨ j = 43 → w'.1 j i = w.1 j i) → ((sw7 B n N c τ).2 = none → ToldR w' (updT (updT (updT (updT T 10 k (nI (nuV B N c 6 τ))) 11 k (nI (nuV B N c 6 (sw2 B n N c τ).1))) 12 k (nI (nuV B N c 5 (sw5 B n N c τ).1))) 0 10 (nI (k + 1)))) → Q none w') : Cl (d + 8) m_X6_readSaw [.ref 22] w Q := by
  have hl1 := nuV_le (B := B) (so := 6) (τ := τ) hN
  have hl2 := nuV_le (B := B) (so := 6) (τ := (sw2 B n N c τ).1) hN
  have e12 : (nI (nuV B N c 6 τ) = nI (nuV B N c 6 (sw2 B n N c τ).1)) = (nuV B N c 6 τ = nuV B N c 6 (sw2 B n N c τ).1) := eq_n (by omega) (by omega)
  -- from the third step on
  have one : ∀ w3, Ag TkP w w3 → CSt w3 B n (sw4 B n N c τ).1 (sw4 B n N c τ).2 → B_X6_readSaw_J1 (d + 7) 0 Q [.ref 22, .int (nI (nuV B N c 6 τ)), .int (nI (nuV B N c 6 (sw2 B n N c τ).1)), .null, .null] [] w3 := by
    intro w3 ha3 hC3
    simp +decide (disch := omega) only [↓EQA, CEA, LIA, NIA, Nat.lt_irrefl, Option.toList_some, Option.toList_none, List.cons_append, List.nil_append, true_and, and_true, Nat.reduceAdd, Nat.reduceLeDiff, not_true_eq_false, not_false_eq_true, if_true, if_false, ite_true, ite_false, Int32.reduceLT, ite_not, eq_self, or_true, true_or, ite_self, reduceIte, B_X6_readSaw_J1]
    refine t_stepS hC3 fun w4 ha4 hC4 => ?_
    have hC4' : CSt w4 B n (sw5 B n N c τ).1 (sw5 B n N c τ).2 := cs_nx hC4
    simp +decide (disch := omega) only [↓EQA, CEA, LIA, NIA, Nat.lt_irrefl, Option.toList_some, Option.toList_none, List.cons_append, List.nil_append, true_and, and_true, Nat.reduceAdd, Nat.reduceLeDiff, not_true_eq_false, not_false_eq_true, if_true, if_false, ite_true, ite_false, Int32.reduceLT, ite_not, eq_self, or_true, true_or, ite_self, reduceIte]
    have hN4 : NMs w4 n c N := hN.ag (ha3.tr ha4) (fun j i a b z => by omega)
    refine t_numberOfName (so := 5) hC4' hN4 (by decide) fun w5 ha5 hC5 => ?_
    have hC5' : CSt w5 B n (sw6 B n N c τ).1 (sw6 B n N c τ).2 := cs_num hC5
    simp +decide (disch := omega) only [↓EQA, CEA, LIA, NIA, Nat.lt_irrefl, Option.toList_some, Option.toList_none, List.cons_append, List.nil_append, true_and, and_true, Nat.reduceAdd, Nat.reduceLeDiff, not_true_eq_false, not_false_eq_true, if_true, if_false, ite_true, ite_false, Int32.reduceLT, ite_not, eq_self, or_true, true_or, ite_self, reduceIte]
    refine t_stepS hC5' fun w6 ha6 hC6 => ?_
    have hC6' : CSt w6 B n (sw7 B n N c τ).1 (sw7 B n N c τ).2 := cs_nx hC6
    have hb : Ag TkP w w6 := ((ha3.tr ha4).tr ha5).tr ha6
    have hT6 : ToldR w6 T := hT.ag hb (fun j i a b z => by omega)
    have k10 : w6.1 29 10 = nI k := by rw [hT6.1]; exact hk
    have fr1 : ∀ j i, (22 ≤ j ∧ j ≤ 28) ∨ j = 42 ∨ j = 43 → w6.1 j i = w.1 j i := fun j i a => (hb j i (by omega)).1
    cases hbl : (sw7 B n N c τ).2 with
    | some e =>
      obtain ⟨b1, e0⟩ := bl_no (e := e) (by rw [← hbl]; exact hC6'.2.2.2.2)
      simp +decide (disch := omega) only [↓EQA, CEA, LIA, NIA, Nat.lt_irrefl, Option.toList_some, Option.toList_none, List.cons_append, List.nil_append, true_and, and_true, Nat.reduceAdd, Nat.reduceLeDiff, not_true_eq_false, not_false_eq_true, if_true, if_false, ite_true, ite_false, Int32.reduceLT, ite_not, eq_self, or_true, true_or, ite_self, reduceIte, k10, b1, e0, B_X6_readSaw_J1, B_X6_readSaw_J2]
      exact hQ w6 (hb.wk fun j i z => by omega) hC6' fr1 (fun z => by rw [hbl] at z; cases z)
    | none =>
      have b5 : w6.1 44 5 = 0 := by have := hC6'.2.2.2.2; rw [hbl] at this; exact this
      have r10 : ∀ v v' v'', (wI (wI (wI w6 39 k v) 40 k v') 41 k v'').1 29 10 = nI k := fun v v' v'' => by rw [wI_ne (by decide), wI_ne (by decide), wI_ne (by decide)]; exact k10
      simp +decide (disch := omega) only [↓EQA, CEA, LIA, NIA, Nat.lt_irrefl, Option.toList_some, Option.toList_none, List.cons_append, List.nil_append, true_and, and_true, Nat.reduceAdd, Nat.reduceLeDiff, not_true_eq_false, not_false_eq_true, if_true, if_false, ite_true, ite_false, Int32.reduceLT, ite_not, eq_self, or_true, true_or, ite_self, reduceIte, k10, b5, hk5, r10, nI_1, B_X6_readSaw_J1, B_X6_readSaw_J2]
      generalize nI (nuV B N c 6 τ) = v1 at hQ ⊢
      generalize nI (nuV B N c 6 (sw2 B n N c τ).1) = v2 at hQ ⊢
      generalize nI (nuV B N c 5 (sw5 B n N c τ).1) = v3 at hQ ⊢
      have ha7 : Ag (fun j _ => j = 39 ∨ j = 40 ∨ j = 41 ∨ j = 29) w6 (wI (wI (wI (wI w6 39 k v1) 40 k v2) 41 k v3) 29 10 (nI (k + 1))) := (((Ag.rf.wI (Or.inl rfl)).wI (Or.inr (Or.inl rfl))).wI (Or.inr (Or.inr (Or.inl rfl)))).wI (Or.inr (Or.inr (Or.inr rfl)))
      refine hQ _ ((hb.wk fun j i z => by omega).tr (ha7.wk fun j i z => by omega)) (hC6'.ag ha7 (fun i z => by omega) (fun i z => by omega)) (fun j i a => by rw [(ha7 j i (by omega)).1]; exact fr1 j i a) (fun _ => ?_)
      exact ToldR.upd (j := 0) (ToldR.upd (j := 12) (ToldR.upd (j := 11) (ToldR.upd (j := 10) hT6 (by decide)) (by decide)) (by decide)) (by decide)
  refine Cl_of k_X6_readSaw.1 (Nat.le_of_ble_eq_true rfl) (show Wp m_X6_readSaw _ 0 _ 0 [.ref 22, .null, .null, .null, .null] [] _ from S_X6_readSaw_0 _ _ _ ?_)
  simp +decide (disch := omega) only [↓EQA, CEA, LIA, NIA, Nat.lt_irrefl, Option.toList_some, Option.toList_none, List.cons_append, List.nil_append, true_and, and_true, Nat.reduceAdd, Nat.reduceLeDiff, not_true_eq_false, not_false_eq_true, if_true, if_false, ite_true, ite_false, Int32.reduceLT, ite_not, eq_self, or_true, true_or, ite_self, reduceIte, B_X6_readSaw_0]
  refine t_numberOfName (so := 6) hC hN (by decide) fun w1 ha1 hC1 => ?_
  have hC1' : CSt w1 B n (sw1 B N c τ).1 (sw1 B N c τ).2 := cs_num (s := (τ, none)) hC1
  simp +decide (disch := omega) only [↓EQA, CEA, LIA, NIA, Nat.lt_irrefl, Option.toList_some, Option.toList_none, List.cons_append, List.nil_append, true_and, and_true, Nat.reduceAdd, Nat.reduceLeDiff, not_true_eq_false, not_false_eq_true, if_true, if_false, ite_true, ite_false, Int32.reduceLT, ite_not, eq_self, or_true, true_or, ite_self, reduceIte]
  refine t_stepS hC1' fun w2 ha2 hC2 => ?_
  have hC2' : CSt w2 B n (sw2 B n N c τ).1 (sw2 B n N c τ).2 := cs_nx hC2
  simp +decide (disch := omega) only [↓EQA, CEA, LIA, NIA, Nat.lt_irrefl, Option.toList_some, Option.toList_none, List.cons_append, List.nil_append, true_and, and_true, Nat.reduceAdd, Nat.reduceLeDiff, not_true_eq_false, not_false_eq_true, if_true, if_false, ite_true, ite_false, Int32.reduceLT, ite_not, eq_self, or_true, true_or, ite_self, reduceIte]
  have hN2 : NMs w2 n c N := hN.ag (ha1.tr ha2) (fun j i a b z => by omega)
  refine t_numberOfName (so := 6) hC2' hN2 (by decide) fun w3 ha3 hC3 => ?_
  have hC3' : CSt w3 B n (sw3 B n N c τ).1 (sw3 B n N c τ).2 := cs_num hC3
  have h13 : Ag TkP w w3 := (ha1.tr ha2).tr ha3
  simp +decide (disch := omega) only [↓EQA, CEA, LIA, NIA, Nat.lt_irrefl, Option.toList_some, Option.toList_none, List.cons_append, List.nil_append, true_and, and_true, Nat.reduceAdd, Nat.reduceLeDiff, not_true_eq_false, not_false_eq_true, if_true, if_false, ite_true, ite_false, Int32.reduceLT, ite_not, eq_self, or_true, true_or, ite_self, reduceIte, e12]
  by_cases q : nuV B N c 6 τ = nuV B N c 6 (sw2 B n N c τ).1
  · rw [if_pos q]
    refine t_blame (f := 3) hC3' (by decide) (by decide) fun w4 ha4 hC4 => ?_
    simp +decide (disch := omega) only [↓EQA, CEA, LIA, NIA, Nat.lt_irrefl, Option.toList_some, Option.toList_none, List.cons_append, List.nil_append, true_and, and_true, Nat.reduceAdd, Nat.reduceLeDiff, not_true_eq_false, not_false_eq_true, if_true, if_false, ite_true, ite_false, Int32.reduceLT, ite_not, eq_self, or_true, true_or, ite_self, reduceIte]
    refine one w4 (h13.tr ha4) ?_
    unfold sw4 neB
    rw [if_pos q]
    exact hC4
  · rw [if_neg q]
    refine one w3 h13 ?_
    unfold sw4 neB
    rw [if_neg q]
    exact hC3'
end Lines5
