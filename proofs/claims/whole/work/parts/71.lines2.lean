/-! ===== lines that tell names ===== -/
abbrev Cs : Type := Tk3 × Option (Nat × Nat)
def cst (f : Tk3 → Ans) (s : Cs) : Cs := (stT s.2 (f s.1) s.1, stB s.2 (f s.1))
section Lines2
variable {d : Nat} {w : Mem} {Q : Option Value → Mem → Prop} {B : Nat → Nat} {n c k : Nat} {τ : Tk3} {N : Nat → Nm4} {T : Tv}
def bd1 (B : Nat → Nat) (n : Nat) (N : Nat → Nm4) (c : Nat) (τ : Tk3) : Cs := cst (eTell B n N c) (τ, none)
def bd2 (B : Nat → Nat) (n : Nat) (N : Nat → Nm4) (c : Nat) (τ : Tk3) : Cs := cst (eWord B n 13) (bd1 B n N c τ)
def bd3 (B : Nat → Nat) (n : Nat) (N : Nat → Nm4) (c : Nat) (τ : Tk3) : Cs := cst (eWhole B n 1 30) (bd2 B n N c τ)
def bd4 (B : Nat → Nat) (n : Nat) (N : Nat → Nm4) (c : Nat) (τ : Tk3) : Cs := cst (eSide B n) (bd3 B n N c τ)
theorem cst_none {f : Tk3 → Ans} {s : Cs} (h : (cst f s).2 = none) : s.2 = none ∧ ∃ a, f s.1 = .inr a := stB_none h
theorem bl_no {w1 : Mem} {e : Nat × Nat} (h : CBl w1 (some e)) : w1.1 44 5 = nI e.1 ∧ (nI e.1 = 0) = False := by
  obtain ⟨b1, b2, b3, b4⟩ : w1.1 44 5 = nI e.1 ∧ 1 ≤ e.1 ∧ e.1 ≤ 7 ∧ w1.1 44 6 = nI e.2 := h
  exact ⟨b1, eq_false fun z => by have := (nI_eq (b := 0) (by omega) (by decide)).mp z; omega⟩
theorem t_readBend (hC : CSt w B n τ none) (hN : NMs w n c N) (hc : c < 13) (hT : ToldR w T) (hk : T 0 5 = nI k) (hk4 : k < 4) (hQ : ∀ w', Ag RdP w w' → CSt w' B n (bd4 B n N c τ).1 (bd4 B n N c τ).2 → (∀ j i, j = 22 ∨ j = 42 ∨ j = 43 → w'.1 j i = w.1 j i) → ((bd4 B n N c τ).2 = none → NMs w' n (c + 1) (adN N c (τ.1, τ.2.1, 5, k)) ∧ ToldR w' (updT (updT (updT T 1 k (nI (valT B (bd2 B n N c τ).1))) 2 k (nI (sdV B (bd3 B n N c τ).1))) 0 5 (nI (k + 1)))) → Q none w') : Cl (d + 8) m_X6_readBend [.ref 22] w Q := by
  refine Cl_of k_X6_readBend.1 (Nat.le_of_ble_eq_true rfl) (show Wp m_X6_readBend _ 0 _ 0 [.ref 22, .null, .null, .null] [] _ from S_X6_readBend_0 _ _ _ ?_)
  simp +decide (disch := omega) only [↓EQA, CEA, LIA, NIA, Nat.lt_irrefl, Option.toList_some, Option.toList_none, List.cons_append, List.nil_append, true_and, and_true, Nat.reduceAdd, Nat.reduceLeDiff, not_true_eq_false, not_false_eq_true, if_true, if_false, ite_true, ite_false, Int32.reduceLT, ite_not, eq_self, or_true, true_or, ite_self, reduceIte, B_X6_readBend_0]
  refine t_tellName (so := 5) (nu := k) hC hN (fun _ => hc) (by decide) (by omega) (by rw [hT.1]; exact hk) fun w1 ha1 hC1 hN1 hN1' => ?_
  simp +decide (disch := omega) only [↓EQA, CEA, LIA, NIA, Nat.lt_irrefl, Option.toList_some, Option.toList_none, List.cons_append, List.nil_append, true_and, and_true, Nat.reduceAdd, Nat.reduceLeDiff, not_true_eq_false, not_false_eq_true, if_true, if_false, ite_true, ite_false, Int32.reduceLT, ite_not, eq_self, or_true, true_or, ite_self, reduceIte]
  have hC1' : CSt w1 B n (bd1 B n N c τ).1 (bd1 B n N c τ).2 := hC1
  refine t_readWord (i := 13) hC1' (by decide) fun w2 ha2 hC2 => ?_
  simp +decide (disch := omega) only [↓EQA, CEA, LIA, NIA, Nat.lt_irrefl, Option.toList_some, Option.toList_none, List.cons_append, List.nil_append, true_and, and_true, Nat.reduceAdd, Nat.reduceLeDiff, not_true_eq_false, not_false_eq_true, if_true, if_false, ite_true, ite_false, Int32.reduceLT, ite_not, eq_self, or_true, true_or, ite_self, reduceIte]
  have hC2' : CSt w2 B n (bd2 B n N c τ).1 (bd2 B n N c τ).2 := hC2
  refine t_readWhole (lo := 1) (hi := 30) (by decide) (by decide) hC2' fun w3 ha3 hC3 => ?_
  simp +decide (disch := omega) only [↓EQA, CEA, LIA, NIA, Nat.lt_irrefl, Option.toList_some, Option.toList_none, List.cons_append, List.nil_append, true_and, and_true, Nat.reduceAdd, Nat.reduceLeDiff, not_true_eq_false, not_false_eq_true, if_true, if_false, ite_true, ite_false, Int32.reduceLT, ite_not, eq_self, or_true, true_or, ite_self, reduceIte]
  have hC3' : CSt w3 B n (bd3 B n N c τ).1 (bd3 B n N c τ).2 := hC3
  refine t_readSide hC3' fun w4 ha4 hC4 => ?_
  have hC4' : CSt w4 B n (bd4 B n N c τ).1 (bd4 B n N c τ).2 := hC4
  have hb : Ag (fun j i => (23 ≤ j ∧ j ≤ 27) ∨ j = 44) w w4 := (((ha1.wk fun j i z => by omega).tr (ha2.wk fun j i z => by omega)).tr (ha3.wk fun j i z => by omega)).tr (ha4.wk fun j i z => by omega)
  have hx : Ag TkP w1 w4 := (ha2.tr ha3).tr ha4
  have hT4 : ToldR w4 T := hT.ag hb (fun j i a b z => by omega)
  have k5 : w4.1 29 5 = nI k := by rw [hT4.1]; exact hk
  have fr1 : ∀ j i, j = 22 ∨ j = 42 ∨ j = 43 → w4.1 j i = w.1 j i := fun j i a => (hb j i (by omega)).1
  cases hbl : (bd4 B n N c τ).2 with
  | some e =>
    obtain ⟨b1, e0⟩ := bl_no (e := e) (by rw [← hbl]; exact hC4'.2.2.2.2)
    simp +decide (disch := omega) only [↓EQA, CEA, LIA, NIA, Nat.lt_irrefl, Option.toList_some, Option.toList_none, List.cons_append, List.nil_append, true_and, and_true, Nat.reduceAdd, Nat.reduceLeDiff, not_true_eq_false, not_false_eq_true, if_true, if_false, ite_true, ite_false, Int32.reduceLT, ite_not, eq_self, or_true, true_or, ite_self, reduceIte, k5, b1, e0, B_X6_readBend_J1]
    exact hQ w4 (hb.wk fun j i z => by omega) hC4' fr1 (fun z => by rw [hbl] at z; cases z)
  | none =>
    have b5 : w4.1 44 5 = 0 := by have := hC4'.2.2.2.2; rw [hbl] at this; exact this
    have n3 := (cst_none (f := eSide B n) (s := bd3 B n N c τ) hbl).1
    have n2 := (cst_none (f := eWhole B n 1 30) (s := bd2 B n N c τ) n3).1
    have n1 := (cst_none (f := eWord B n 13) (s := bd1 B n N c τ) n2).1
    have hN4 : NMs w4 n (c + 1) (adN N c (τ.1, τ.2.1, 5, k)) := (hN1 n1).ag hx (fun j i a b z => by omega)
    have r5 : ∀ v v', (wI (wI w4 30 k v) 31 k v').1 29 5 = nI k := fun v v' => by rw [wI_ne (by decide), wI_ne (by decide)]; exact k5
    simp +decide (disch := omega) only [↓EQA, CEA, LIA, NIA, Nat.lt_irrefl, Option.toList_some, Option.toList_none, List.cons_append, List.nil_append, true_and, and_true, Nat.reduceAdd, Nat.reduceLeDiff, not_true_eq_false, not_false_eq_true, if_true, if_false, ite_true, ite_false, Int32.reduceLT, ite_not, eq_self, or_true, true_or, ite_self, reduceIte, k5, b5, hk4, r5, nI_1, B_X6_readBend_J1]
    generalize hv : nI (valT B (bd2 B n N c τ).1) = v1 at hQ ⊢
    generalize hs : nI (sdV B (bd3 B n N c τ).1) = v2 at hQ ⊢
    have ha5 : Ag (fun j _ => j = 30 ∨ j = 31 ∨ j = 29) w4 (wI (wI (wI w4 30 k v1) 31 k v2) 29 5 (nI (k + 1))) := ((Ag.rf.wI (Or.inl rfl)).wI (Or.inr (Or.inl rfl))).wI (Or.inr (Or.inr rfl))
    refine hQ _ ((hb.wk fun j i z => by omega).tr (ha5.wk fun j i z => by omega)) (hC4'.ag ha5 (fun i z => by omega) (fun i z => by omega)) (fun j i a => by rw [(ha5 j i (by omega)).1]; exact fr1 j i a) (fun _ => ⟨hN4.ag ha5 (fun j i a b z => by omega), ?_⟩)
    exact ToldR.upd (j := 0) (ToldR.upd (j := 2) (ToldR.upd (j := 1) hT4 (by decide)) (by decide)) (by decide)
def ld2 (B : Nat → Nat) (n : Nat) (N : Nat → Nm4) (c : Nat) (τ : Tk3) : Cs := cst (eWord B n 22) (bd1 B n N c τ)
def ld3 (B : Nat → Nat) (n : Nat) (N : Nat → Nm4) (c : Nat) (τ : Tk3) : Cs := cst (eWhole B n 0 30) (ld2 B n N c τ)
def ld4 (B : Nat → Nat) (n : Nat) (N : Nat → Nm4) (c : Nat) (τ : Tk3) : Cs := cst (eWord B n 23) (ld3 B n N c τ)
def ld5 (B : Nat → Nat) (n : Nat) (N : Nat → Nm4) (c : Nat) (τ : Tk3) : Cs := cst (eWhole B n 0 9) (ld4 B n N c τ)
theorem t_readLodger (hC : CSt w B n τ none) (hN : NMs w n c N) (hc : c < 13) (hT : ToldR w T) (hk : T 0 7 = nI k) (hk4 : k < 5) (hQ : ∀ w', Ag RdP w w' → CSt w' B n (ld5 B n N c τ).1 (ld5 B n N c τ).2 → (∀ j i, j = 22 ∨ j = 42 ∨ j = 43 → w'.1 j i = w.1 j i) → ((ld5 B n N c τ).2 = none → NMs w' n (c + 1) (adN N c (τ.1, τ.2.1, 7, k)) ∧ ToldR w' (updT (updT (updT T 6 k (nI (valT B (ld2 B n N c τ).1))) 7 k (nI (valT B (ld4 B n N c τ).1))) 0 7 (nI (k + 1)))) → Q none w') : Cl (d + 8) m_X6_readLodger [.ref 22] w Q := by
  refine Cl_of k_X6_readLodger.1 (Nat.le_of_ble_eq_true rfl) (show Wp m_X6_readLodger _ 0 _ 0 [.ref 22, .null, .null, .null] [] _ from S_X6_readLodger_0 _ _ _ ?_)
  simp +decide (disch := omega) only [↓EQA, CEA, LIA, NIA, Nat.lt_irrefl, Option.toList_some, Option.toList_none, List.cons_append, List.nil_append, true_and, and_true, Nat.reduceAdd, Nat.reduceLeDiff, not_true_eq_false, not_false_eq_true, if_true, if_false, ite_true, ite_false, Int32.reduceLT, ite_not, eq_self, or_true, true_or, ite_self, reduceIte, B_X6_readLodger_0]
  refine t_tellName (so := 7) (nu := k) hC hN (fun _ => hc) (by decide) (by omega) (by rw [hT.1]; exact hk) fun w1 ha1 hC1 hN1 hN1' => ?_
  simp +decide (disch := omega) only [↓EQA, CEA, LIA, NIA, Nat.lt_irrefl, Option.toList_some, Option.toList_none, List.cons_append, List.nil_append, true_and, and_true, Nat.reduceAdd, Nat.reduceLeDiff, not_true_eq_false, not_false_eq_true, if_true, if_false, ite_true, ite_false, Int32.reduceLT, ite_not, eq_self, or_true, true_or, ite_self, reduceIte]
  have hC1' : CSt w1 B n (bd1 B n N c τ).1 (bd1 B n N c τ).2 := hC1
  refine t_readWord (i := 22) hC1' (by decide) fun w2 ha2 hC2 => ?_
  simp +decide (disch := omega) only [↓EQA, CEA, LIA, NIA, Nat.lt_irrefl, Option.toList_some, Option.toList_none, List.cons_append, List.nil_append, true_and, and_true, Nat.reduceAdd, Nat.reduceLeDiff, not_true_eq_false, not_false_eq_true, if_true, if_false, ite_true, ite_false, Int32.reduceLT, ite_not, eq_self, or_true, true_or, ite_self, reduceIte]
  have hC2' : CSt w2 B n (ld2 B n N c τ).1 (ld2 B n N c τ).2 := hC2
  refine t_readWhole (lo := 0) (hi := 30) (by decide) (by decide) hC2' fun w3 ha3 hC3 => ?_
  simp +decide (disch := omega) only [↓EQA, CEA, LIA, NIA, Nat.lt_irrefl, Option.toList_some, Option.toList_none, List.cons_append, List.nil_append, true_and, and_true, Nat.reduceAdd, Nat.reduceLeDiff, not_true_eq_false, not_false_eq_true, if_true, if_false, ite_true, ite_false, Int32.reduceLT, ite_not, eq_self, or_true, true_or, ite_self, reduceIte]
  have hC3' : CSt w3 B n (ld3 B n N c τ).1 (ld3 B n N c τ).2 := hC3
  refine t_readWord (i := 23) hC3' (by decide) fun w4 ha4 hC4 => ?_
  simp +decide (disch := omega) only [↓EQA, CEA, LIA, NIA, Nat.lt_irrefl, Option.toList_some, Option.toList_none, List.cons_append, List.nil_append, true_and, and_true, Nat.reduceAdd, Nat.reduceLeDiff, not_true_eq_false, not_false_eq_true, if_true, if_false, ite_true, ite_false, Int32.reduceLT, ite_not, eq_self, or_true, true_or, ite_self, reduceIte]
  have hC4' : CSt w4 B n (ld4 B n N c τ).1 (ld4 B n N c τ).2 := hC4
  refine t_readWhole (lo := 0) (hi := 9) (by decide) (by decide) hC4' fun w5 ha5 hC5 => ?_
  have hC5' : CSt w5 B n (ld5 B n N c τ).1 (ld5 B n N c τ).2 := hC5
  have hb : Ag (fun j i => (23 ≤ j ∧ j ≤ 27) ∨ j = 44) w w5 := ((((ha1.wk fun j i z => by omega).tr (ha2.wk fun j i z => by omega)).tr (ha3.wk fun j i z => by omega)).tr (ha4.wk fun j i z => by omega)).tr (ha5.wk fun j i z => by omega)
  have hx : Ag TkP w1 w5 := ((ha2.tr ha3).tr ha4).tr ha5
  have hT5 : ToldR w5 T := hT.ag hb (fun j i a b z => by omega)
  have k7 : w5.1 29 7 = nI k := by rw [hT5.1]; exact hk
  have fr1 : ∀ j i, j = 22 ∨ j = 42 ∨ j = 43 → w5.1 j i = w.1 j i := fun j i a => (hb j i (by omega)).1
  cases hbl : (ld5 B n N c τ).2 with
  | some e =>
    obtain ⟨b1, e0⟩ := bl_no (e := e) (by rw [← hbl]; exact hC5'.2.2.2.2)
    simp +decide (disch := omega) only [↓EQA, CEA, LIA, NIA, Nat.lt_irrefl, Option.toList_some, Option.toList_none, List.cons_append, List.nil_append, true_and, and_true, Nat.reduceAdd, Nat.reduceLeDiff, not_true_eq_false, not_false_eq_true, if_true, if_false, ite_true, ite_false, Int32.reduceLT, ite_not, eq_self, or_true, true_or, ite_self, reduceIte, k7, b1, e0, B_X6_readLodger_J1]
    exact hQ w5 (hb.wk fun j i z => by omega) hC5' fr1 (fun z => by rw [hbl] at z; cases z)
  | none =>
    have b5 : w5.1 44 5 = 0 := by have := hC5'.2.2.2.2; rw [hbl] at this; exact this
    have n4 := (cst_none (f := eWhole B n 0 9) (s := ld4 B n N c τ) hbl).1
    have n3 := (cst_none (f := eWord B n 23) (s := ld3 B n N c τ) n4).1
    have n2 := (cst_none (f := eWhole B n 0 30) (s := ld2 B n N c τ) n3).1
    have n1 := (cst_none (f := eWord B n 22) (s := bd1 B n N c τ) n2).1
    have hN5 : NMs w5 n (c + 1) (adN N c (τ.1, τ.2.1, 7, k)) := (hN1 n1).ag hx (fun j i a b z => by omega)
    have r5 : ∀ v v', (wI (wI w5 35 k v) 36 k v').1 29 7 = nI k := fun v v' => by rw [wI_ne (by decide), wI_ne (by decide)]; exact k7
    simp +decide (disch := omega) only [↓EQA, CEA, LIA, NIA, Nat.lt_irrefl, Option.toList_some, Option.toList_none, List.cons_append, List.nil_append, true_and, and_true, Nat.reduceAdd, Nat.reduceLeDiff, not_true_eq_false, not_false_eq_true, if_true, if_false, ite_true, ite_false, Int32.reduceLT, ite_not, eq_self, or_true, true_or, ite_self, reduceIte, k7, b5, hk4, r5, nI_1, B_X6_readLodger_J1]
    generalize hv : nI (valT B (ld2 B n N c τ).1) = v1 at hQ ⊢
    generalize hs : nI (valT B (ld4 B n N c τ).1) = v2 at hQ ⊢
    have ha6 : Ag (fun j _ => j = 35 ∨ j = 36 ∨ j = 29) w5 (wI (wI (wI w5 35 k v1) 36 k v2) 29 7 (nI (k + 1))) := ((Ag.rf.wI (Or.inl rfl)).wI (Or.inr (Or.inl rfl))).wI (Or.inr (Or.inr rfl))
    refine hQ _ ((hb.wk fun j i z => by omega).tr (ha6.wk fun j i z => by omega)) (hC5'.ag ha6 (fun i z => by omega) (fun i z => by omega)) (fun j i a => by rw [(ha6 j i (by omega)).1]; exact fr1 j i a) (fun _ => ⟨hN5.ag ha6 (fun j i a b z => by omega), ?_⟩)
    exact ToldR.upd (j := 0) (ToldR.upd (j := 7) (ToldR.upd (j := 6) hT5 (by decide)) (by decide)) (by decide)
end Lines2
