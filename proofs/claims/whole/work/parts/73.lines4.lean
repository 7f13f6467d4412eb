/-! ===== the line of the regatta; the fault of a line ===== -/
section Lines4
variable {d : Nat} {w : Mem} {Q : Option Value → Mem → Prop} {B : Nat → Nat} {n c k : Nat} {τ : Tk3} {N : Nat → Nm4} {T : Tv} {D : Nat → Nat}
def rg1 (B : Nat → Nat) (n : Nat) (τ : Tk3) : Cs := cst (eWord B n 8) (τ, none)
def rg2 (B : Nat → Nat) (n : Nat) (τ : Tk3) : Cs := cst (eWhole B n 1 20) (rg1 B n τ)
def rg3 (B : Nat → Nat) (n : Nat) (τ : Tk3) : Cs := cst (eWord B n 9) (rg2 B n τ)
def rg4 (B : Nat → Nat) (n : Nat) (τ : Tk3) : Cs := cst (eWhole B n 1 6) (rg3 B n τ)
def rg5 (B : Nat → Nat) (n : Nat) (τ : Tk3) : Cs := cst (eWord B n 10) (rg4 B n τ)
def rg6 (B : Nat → Nat) (n : Nat) (τ : Tk3) : Cs := cst (eWhole B n 0 30) (rg5 B n τ)
def rg7 (B : Nat → Nat) (n : Nat) (τ : Tk3) : Cs := cst (eWord B n 11) (rg6 B n τ)
def rg8 (B : Nat → Nat) (n : Nat) (τ : Tk3) : Cs := cst (eWhole B n 0 100) (rg7 B n τ)
def rg9 (B : Nat → Nat) (n : Nat) (τ : Tk3) : Cs := cst (eWord B n 12) (rg8 B n τ)
def rg10 (B : Nat → Nat) (n : Nat) (τ : Tk3) : Cs := cst (eWhole B n 0 9) (rg9 B n τ)
def rgT (B : Nat → Nat) (n : Nat) (τ : Tk3) (T : Tv) : Tv := (updT (updT (updT (updT (updT T 0 0 (nI (valT B (rg1 B n τ).1))) 0 1 (nI (valT B (rg3 B n τ).1))) 0 2 (nI (valT B (rg5 B n τ).1))) 0 3 (nI (valT B (rg7 B n τ).1))) 0 4 (nI (valT B (rg9 B n τ).1)))
theorem t_readRegatta (hC : CSt w B n τ none) (hT : ToldR w T) (hR : RC w 42 43 (RS D)) (hQ : ∀ w', Ag RdP w w' → CSt w' B n (rg10 B n τ).1 (rg10 B n τ).2 → (∀ j i, 23 ≤ j → j ≤ 27 → w'.1 j i = w.1 j i) → w'.1 22 4 = 1 → ToldR w' (rgT B n τ T) → RC w' 42 43 (RS (updD D 7 (valT B (rg1 B n τ).1))) → Q none w') : Cl (d + 8) m_X6_readRegatta [.ref 22] w Q := by
  refine Cl_of k_X6_readRegatta.1 (Nat.le_of_ble_eq_true rfl) (show Wp m_X6_readRegatta _ 0 _ 0 [.ref 22] [] _ from S_X6_readRegatta_0 _ _ _ ?_)
  simp +decide (disch := omega) only [↓EQA, CEA, LIA, NIA, Nat.lt_irrefl, Option.toList_some, Option.toList_none, List.cons_append, List.nil_append, true_and, and_true, Nat.reduceAdd, Nat.reduceLeDiff, not_true_eq_false, not_false_eq_true, if_true, if_false, ite_true, ite_false, Int32.reduceLT, ite_not, eq_self, or_true, true_or, ite_self, reduceIte, B_X6_readRegatta_0]
  generalize hw0 : wI w 22 4 _ = w0
  have ha0 : Ag (fun j i => j = 22 ∧ i = 4) w w0 := by rw [← hw0]; exact Ag.rf.wI ⟨rfl, rfl⟩
  have b0 : w0.1 22 4 = 1 := by rw [← hw0]; simp [wI]
  have hC0 : CSt w0 B n τ none := hC.ag ha0 (fun i z => by omega) (fun i z => by omega)
  have hT0 : ToldR w0 T := hT.ag ha0 (fun j i a b z => by omega)
  refine t_readWord (i := 8) hC0 (by decide) fun w1 ha1 hD1 => ?_
  simp +decide (disch := omega) only [↓EQA, CEA, LIA, NIA, Nat.lt_irrefl, Option.toList_some, Option.toList_none, List.cons_append, List.nil_append, true_and, and_true, Nat.reduceAdd, Nat.reduceLeDiff, not_true_eq_false, not_false_eq_true, if_true, if_false, ite_true, ite_false, Int32.reduceLT, ite_not, eq_self, or_true, true_or, ite_self, reduceIte]
  have hC1 : CSt w1 B n (rg1 B n τ).1 (rg1 B n τ).2 := hD1
  have hT1 := hT0.ag ha1 (fun j i a b z => by omega)
  refine t_readWhole (lo := 1) (hi := 20) (by decide) (by decide) hC1 fun x2 hb2 hD2 => ?_
  simp +decide (disch := omega) only [↓EQA, CEA, LIA, NIA, Nat.lt_irrefl, Option.toList_some, Option.toList_none, List.cons_append, List.nil_append, true_and, and_true, Nat.reduceAdd, Nat.reduceLeDiff, not_true_eq_false, not_false_eq_true, if_true, if_false, ite_true, ite_false, Int32.reduceLT, ite_not, eq_self, or_true, true_or, ite_self, reduceIte]
  have hE2 : ToldR (wI x2 29 0 (nI (valT B (rg1 B n τ).1))) _ := ToldR.upd (j := 0) (i := 0) (v := (nI (valT B (rg1 B n τ).1))) (hT1.ag hb2 (fun j i a b z => by omega)) (by decide)
  have hg2 : Ag (fun j _ => j = 29) x2 (wI x2 29 0 (nI (valT B (rg1 B n τ).1))) := Ag.rf.wI rfl
  have ha2 : Ag (fun j i => (j = 44 ∧ 2 ≤ i) ∨ j = 29) w1 (wI x2 29 0 (nI (valT B (rg1 B n τ).1))) := (hb2.wk fun j i z => by omega).tr (hg2.wk fun j i z => by omega)
  have hC2 : CSt (wI x2 29 0 (nI (valT B (rg1 B n τ).1))) B n (rg2 B n τ).1 (rg2 B n τ).2 := CSt.ag (w := x2) hD2 hg2 (fun i z => by omega) (fun i z => by omega)
  generalize hw2 : wI x2 29 0 (nI (valT B (rg1 B n τ).1)) = w2 at hE2 ha2 hC2 ⊢
  have hT2 := hE2
  refine t_readWord (i := 9) hC2 (by decide) fun w3 ha3 hD3 => ?_
  simp +decide (disch := omega) only [↓EQA, CEA, LIA, NIA, Nat.lt_irrefl, Option.toList_some, Option.toList_none, List.cons_append, List.nil_append, true_and, and_true, Nat.reduceAdd, Nat.reduceLeDiff, not_true_eq_false, not_false_eq_true, if_true, if_false, ite_true, ite_false, Int32.reduceLT, ite_not, eq_self, or_true, true_or, ite_self, reduceIte]
  have hC3 : CSt w3 B n (rg3 B n τ).1 (rg3 B n τ).2 := hD3
  have hT3 := hT2.ag ha3 (fun j i a b z => by omega)
  refine t_readWhole (lo := 1) (hi := 6) (by decide) (by decide) hC3 fun x4 hb4 hD4 => ?_
  simp +decide (disch := omega) only [↓EQA, CEA, LIA, NIA, Nat.lt_irrefl, Option.toList_some, Option.toList_none, List.cons_append, List.nil_append, true_and, and_true, Nat.reduceAdd, Nat.reduceLeDiff, not_true_eq_false, not_false_eq_true, if_true, if_false, ite_true, ite_false, Int32.reduceLT, ite_not, eq_self, or_true, true_or, ite_self, reduceIte]
  have hE4 : ToldR (wI x4 29 1 (nI (valT B (rg3 B n τ).1))) _ := ToldR.upd (j := 0) (i := 1) (v := (nI (valT B (rg3 B n τ).1))) (hT3.ag hb4 (fun j i a b z => by omega)) (by decide)
  have hg4 : Ag (fun j _ => j = 29) x4 (wI x4 29 1 (nI (valT B (rg3 B n τ).1))) := Ag.rf.wI rfl
  have ha4 : Ag (fun j i => (j = 44 ∧ 2 ≤ i) ∨ j = 29) w3 (wI x4 29 1 (nI (valT B (rg3 B n τ).1))) := (hb4.wk fun j i z => by omega).tr (hg4.wk fun j i z => by omega)
  have hC4 : CSt (wI x4 29 1 (nI (valT B (rg3 B n τ).1))) B n (rg4 B n τ).1 (rg4 B n τ).2 := CSt.ag (w := x4) hD4 hg4 (fun i z => by omega) (fun i z => by omega)
  generalize hw4 : wI x4 29 1 (nI (valT B (rg3 B n τ).1)) = w4 at hE4 ha4 hC4 ⊢
  have hT4 := hE4
  refine t_readWord (i := 10) hC4 (by decide) fun w5 ha5 hD5 => ?_
  simp +decide (disch := omega) only [↓EQA, CEA, LIA, NIA, Nat.lt_irrefl, Option.toList_some, Option.toList_none, List.cons_append, List.nil_append, true_and, and_true, Nat.reduceAdd, Nat.reduceLeDiff, not_true_eq_false, not_false_eq_true, if_true, if_false, ite_true, ite_false, Int32.reduceLT, ite_not, eq_self, or_true, true_or, ite_self, reduceIte]
  have hC5 : CSt w5 B n (rg5 B n τ).1 (rg5 B n τ).2 := hD5
  have hT5 := hT4.ag ha5 (fun j i a b z => by omega)
  refine t_readWhole (lo := 0) (hi := 30) (by decide) (by decide) hC5 fun x6 hb6 hD6 => ?_
  simp +decide (disch := omega) only [↓EQA, CEA, LIA, NIA, Nat.lt_irrefl, Option.toList_some, Option.toList_none, List.cons_append, List.nil_append, true_and, and_true, Nat.reduceAdd, Nat.reduceLeDiff, not_true_eq_false, not_false_eq_true, if_true, if_false, ite_true, ite_false, Int32.reduceLT, ite_not, eq_self, or_true, true_or, ite_self, reduceIte]
  have hE6 : ToldR (wI x6 29 2 (nI (valT B (rg5 B n τ).1))) _ := ToldR.upd (j := 0) (i := 2) (v := (nI (valT B (rg5 B n τ).1))) (hT5.ag hb6 (fun j i a b z => by omega)) (by decide)
  have hg6 : Ag (fun j _ => j = 29) x6 (wI x6 29 2 (nI (valT B (rg5 B n τ).1))) := Ag.rf.wI rfl
  have ha6 : Ag (fun j i => (j = 44 ∧ 2 ≤ i) ∨ j = 29) w5 (wI x6 29 2 (nI (valT B (rg5 B n τ).1))) := (hb6.wk fun j i z => by omega).tr (hg6.wk fun j i z => by omega)
  have hC6 : CSt (wI x6 29 2 (nI (valT B (rg5 B n τ).1))) B n (rg6 B n τ).1 (rg6 B n τ).2 := CSt.ag (w := x6) hD6 hg6 (fun i z => by omega) (fun i z => by omega)
  generalize hw6 : wI x6 29 2 (nI (valT B (rg5 B n τ).1)) = w6 at hE6 ha6 hC6 ⊢
  have hT6 := hE6
  refine t_readWord (i := 11) hC6 (by decide) fun w7 ha7 hD7 => ?_
  simp +decide (disch := omega) only [↓EQA, CEA, LIA, NIA, Nat.lt_irrefl, Option.toList_some, Option.toList_none, List.cons_append, List.nil_append, true_and, and_true, Nat.reduceAdd, Nat.reduceLeDiff, not_true_eq_false, not_false_eq_true, if_true, if_false, ite_true, ite_false, Int32.reduceLT, ite_not, eq_self, or_true, true_or, ite_self, reduceIte]
  have hC7 : CSt w7 B n (rg7 B n τ).1 (rg7 B n τ).2 := hD7
  have hT7 := hT6.ag ha7 (fun j i a b z => by omega)
  refine t_readWhole (lo := 0) (hi := 100) (by decide) (by decide) hC7 fun x8 hb8 hD8 => ?_
  simp +decide (disch := omega) only [↓EQA, CEA, LIA, NIA, Nat.lt_irrefl, Option.toList_some, Option.toList_none, List.cons_append, List.nil_append, true_and, and_true, Nat.reduceAdd, Nat.reduceLeDiff, not_true_eq_false, not_false_eq_true, if_true, if_false, ite_true, ite_false, Int32.reduceLT, ite_not, eq_self, or_true, true_or, ite_self, reduceIte]
  have hE8 : ToldR (wI x8 29 3 (nI (valT B (rg7 B n τ).1))) _ := ToldR.upd (j := 0) (i := 3) (v := (nI (valT B (rg7 B n τ).1))) (hT7.ag hb8 (fun j i a b z => by omega)) (by decide)
  have hg8 : Ag (fun j _ => j = 29) x8 (wI x8 29 3 (nI (valT B (rg7 B n τ).1))) := Ag.rf.wI rfl
  have ha8 : Ag (fun j i => (j = 44 ∧ 2 ≤ i) ∨ j = 29) w7 (wI x8 29 3 (nI (valT B (rg7 B n τ).1))) := (hb8.wk fun j i z => by omega).tr (hg8.wk fun j i z => by omega)
  have hC8 : CSt (wI x8 29 3 (nI (valT B (rg7 B n τ).1))) B n (rg8 B n τ).1 (rg8 B n τ).2 := CSt.ag (w := x8) hD8 hg8 (fun i z => by omega) (fun i z => by omega)
  generalize hw8 : wI x8 29 3 (nI (valT B (rg7 B n τ).1)) = w8 at hE8 ha8 hC8 ⊢
  have hT8 := hE8
  refine t_readWord (i := 12) hC8 (by decide) fun w9 ha9 hD9 => ?_
  simp +decide (disch := omega) only [↓EQA, CEA, LIA, NIA, Nat.lt_irrefl, Option.toList_some, Option.toList_none, List.cons_append, List.nil_append, true_and, and_true, Nat.reduceAdd, Nat.reduceLeDiff, not_true_eq_false, not_false_eq_true, if_true, if_false, ite_true, ite_false, Int32.reduceLT, ite_not, eq_self, or_true, true_or, ite_self, reduceIte]
  have hC9 : CSt w9 B n (rg9 B n τ).1 (rg9 B n τ).2 := hD9
  have hT9 := hT8.ag ha9 (fun j i a b z => by omega)
  refine t_readWhole (lo := 0) (hi := 9) (by decide) (by decide) hC9 fun x10 hb10 hD10 => ?_
  simp +decide (disch := omega) only [↓EQA, CEA, LIA, NIA, Nat.lt_irrefl, Option.toList_some, Option.toList_none, List.cons_append, List.nil_append, true_and, and_true, Nat.reduceAdd, Nat.reduceLeDiff, not_true_eq_false, not_false_eq_true, if_true, if_false, ite_true, ite_false, Int32.reduceLT, ite_not, eq_self, or_true, true_or, ite_self, reduceIte]
  have hE10 : ToldR (wI x10 29 4 (nI (valT B (rg9 B n τ).1))) _ := ToldR.upd (j := 0) (i := 4) (v := (nI (valT B (rg9 B n τ).1))) (hT9.ag hb10 (fun j i a b z => by omega)) (by decide)
  have hg10 : Ag (fun j _ => j = 29) x10 (wI x10 29 4 (nI (valT B (rg9 B n τ).1))) := Ag.rf.wI rfl
  have ha10 : Ag (fun j i => (j = 44 ∧ 2 ≤ i) ∨ j = 29) w9 (wI x10 29 4 (nI (valT B (rg9 B n τ).1))) := (hb10.wk fun j i z => by omega).tr (hg10.wk fun j i z => by omega)
  have hC10 : CSt (wI x10 29 4 (nI (valT B (rg9 B n τ).1))) B n (rg10 B n τ).1 (rg10 B n τ).2 := CSt.ag (w := x10) hD10 hg10 (fun i z => by omega) (fun i z => by omega)
  generalize hw10 : wI x10 29 4 (nI (valT B (rg9 B n τ).1)) = w10 at hE10 ha10 hC10 ⊢
  have hT10 := hE10
  have hall : Ag (fun j i => (j = 22 ∧ i = 4) ∨ j = 44 ∨ j = 29) w w10 := (((((((((((ha0.wk fun j i z => by omega).tr (ha1.wk fun j i z => by omega)).tr (ha2.wk fun j i z => by omega)).tr (ha3.wk fun j i z => by omega)).tr (ha4.wk fun j i z => by omega)).tr (ha5.wk fun j i z => by omega)).tr (ha6.wk fun j i z => by omega)).tr (ha7.wk fun j i z => by omega)).tr (ha8.wk fun j i z => by omega)).tr (ha9.wk fun j i z => by omega)).tr (ha10.wk fun j i z => by omega))
  have hall0 : Ag (fun j i => j = 44 ∨ j = 29) w0 w10 := ((((((((((ha1.wk fun j i z => by omega).tr (ha2.wk fun j i z => by omega)).tr (ha3.wk fun j i z => by omega)).tr (ha4.wk fun j i z => by omega)).tr (ha5.wk fun j i z => by omega)).tr (ha6.wk fun j i z => by omega)).tr (ha7.wk fun j i z => by omega)).tr (ha8.wk fun j i z => by omega)).tr (ha9.wk fun j i z => by omega)).tr (ha10.wk fun j i z => by omega))
  have hTT : ToldR w10 (rgT B n τ T) := hT10
  have e0 : w10.1 29 0 = nI (valT B (rg1 B n τ).1) := by rw [hTT.1]; rfl
  simp +decide (disch := omega) only [↓EQA, CEA, LIA, NIA, Nat.lt_irrefl, Option.toList_some, Option.toList_none, List.cons_append, List.nil_append, true_and, and_true, Nat.reduceAdd, Nat.reduceLeDiff, not_true_eq_false, not_false_eq_true, if_true, if_false, ite_true, ite_false, Int32.reduceLT, ite_not, eq_self, or_true, true_or, ite_self, reduceIte, e0]
  have hh : Ag (fun j _ => j = 42) w10 (wI w10 42 2 (nI (valT B (rg1 B n τ).1))) := Ag.rf.wI rfl
  refine hQ _ ((hall.wk fun j i z => by omega).tr (hh.wk fun j i z => by omega)) (hC10.ag hh (fun i z => by omega) (fun i z => by omega)) (fun j i a b => by rw [(hh j i (by omega)).1, (hall j i (by omega)).1]) (by rw [(hh 22 4 (by omega)).1, (hall0 22 4 (by omega)).1]; exact b0) (hTT.ag hh (fun j i a b z => by omega)) ?_
  rw [RS_wat]
  obtain ⟨a1, a2, a3, a4, a5⟩ := hR.ag hall (fun i z => by omega) (fun i z => by omega)
  have r : ∀ i, i ≠ 2 → (wI w10 42 2 (nI (valT B (rg1 B n τ).1))).1 42 i = w10.1 42 i := fun i hi => by rw [wI_get, if_neg (fun z => hi z.2)]
  exact ⟨fun a b => by rw [wI_ne (by decide)]; exact a1 a b, by simp [wI], by rw [r 3 (by decide)]; exact a3, by rw [r 4 (by decide)]; exact a4, by rw [r 5 (by decide)]; exact a5⟩
end Lines4
