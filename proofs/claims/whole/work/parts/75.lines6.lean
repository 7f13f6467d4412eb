/-! ===== a line of who is aboard ===== -/
section Lines6
variable {d : Nat} {w : Mem} {Q : Option Value → Mem → Prop} {B : Nat → Nat} {n c l h so : Nat} {τ : Tk3} {N : Nat → Nm4} {T : Tv} {D : Nat → Nat}
theorem t_putS (hC : RC w 42 43 (RS D)) (hO : DOK D) (hl : l < 5) (hh : h < 4) (hQ : ∀ w', Ag (fun j _ => j = 43) w w' → RC w' 42 43 (RS (updD D l (h + 1))) → Q none w') : Cl (d + 1) m_X4_put [.ref 42, .int (nI l), .int (nI h)] w Q := by
  have e5 : ∀ j, 5 ≤ j → updD D l (h + 1) j = D j := fun j hj => if_neg (by omega)
  refine t_put1S hC hO.rok hl hh fun w' ha hr => hQ w' ha ?_
  obtain ⟨c1, c2, c3, c4, c5⟩ := hr
  refine ⟨fun a ha' => ?_, by rw [c2]; show nI (D 7) = nI (updD D l (h + 1) 7); rw [e5 7 (by decide)], c3, by rw [c4]; show nI (D 6) = nI (updD D l (h + 1) 6); rw [e5 6 (by decide)], by rw [c5]; show nI (D 5) = nI (updD D l (h + 1) 5); rw [e5 5 (by decide)]⟩
  rw [c1 a ha']
  refine congrArg nI ?_
  show (if a = h then stb (clb (cw D a) l) l else clb (cw D a) l) = cw (updD D l (h + 1)) a
  rw [cw_upd hl]
  by_cases z : a = h
  · rw [if_pos z, if_pos (by omega)]
  · rw [if_neg z, if_neg (by omega)]
/-- numbers of names by their sorts -/
abbrev NMn (c : Nat) (N : Nat → Nm4) : Prop := ∀ i, i < c → ((N i).2.2.1 = 7 → (N i).2.2.2 < 5) ∧ (¬ (N i).2.2.1 = 7 → (N i).2.2.2 < 4)
theorem nu7 (h : NMn c N) : nuV B N c 7 τ < 5 := by
  unfold nuV
  split
  · next q => exact (h _ q.1).1 q.2
  · decide
theorem nu6 (h : NMn c N) (hs : so ≠ 7) : nuV B N c so τ < 4 := by
  unfold nuV
  split
  · next q => exact (h _ q.1).2 (by rw [q.2]; exact hs)
  · decide
def blIf (p : Bool) (f : Nat) (s : Cs) : Cs := if p = true then (s.1, blm s.2 f s.1) else s
def ab1 (B : Nat → Nat) (N : Nat → Nm4) (c : Nat) (τ : Tk3) : Cs := cst (eNum B N c 7) (τ, none)
def ab2 (B : Nat → Nat) (N : Nat → Nm4) (c : Nat) (D : Nat → Nat) (τ : Tk3) : Cs := blIf (decide (¬ D (nuV B N c 7 τ) = 0)) 3 (ab1 B N c τ)
def ab3 (B : Nat → Nat) (n : Nat) (N : Nat → Nm4) (c : Nat) (D : Nat → Nat) (τ : Tk3) : Cs := cst (nxA3 B n) (ab2 B N c D τ)
def ab4 (B : Nat → Nat) (n : Nat) (N : Nat → Nm4) (c : Nat) (D : Nat → Nat) (τ : Tk3) : Cs := cst (eNum B N c 6) (ab3 B n N c D τ)
def abH (B : Nat → Nat) (n : Nat) (N : Nat → Nm4) (c : Nat) (D : Nat → Nat) (τ : Tk3) : Nat := nuV B N c 6 (ab3 B n N c D τ).1
def ab5 (B : Nat → Nat) (n : Nat) (N : Nat → Nm4) (c : Nat) (T : Tv) (D : Nat → Nat) (τ : Tk3) : Cs := blIf (decide (¬ nI (pc5 (cw D (abH B n N c D τ))) < T 5 (abH B n N c D τ))) 7 (ab4 B n N c D τ)
def ab6 (B : Nat → Nat) (n : Nat) (N : Nat → Nm4) (c : Nat) (T : Tv) (D : Nat → Nat) (τ : Tk3) : Cs := cst (nxA3 B n) (ab5 B n N c T D τ)
theorem t_readAboard (hC : CSt w B n τ none) (hN : NMs w n c N) (hNn : NMn c N) (hT : ToldR w T) (hZ : SZ T) (hR : RC w 42 43 (RS D)) (hD : DOK D) (hDH : DH T D) (hQ : ∀ w', Ag RdP w w' → CSt w' B n (ab6 B n N c T D τ).1 (ab6 B n N c T D τ).2 → (∀ j i, (22 ≤ j ∧ j ≤ 41) → w'.1 j i = w.1 j i) → ((ab6 B n N c T D τ).2 = none → RC w' 42 43 (RS (updD D (nuV B N c 7 τ) (abH B n N c D τ + 1)))) → Q none w') : Cl (d + 8) m_X6_readAboard [.ref 22] w Q := by
  have hl5 : nuV B N c 7 τ < 5 := nu7 hNn
  have hh4 : abH B n N c D τ < 4 := nu6 hNn (by decide)
  have hdl := hD.1 _ hl5
  have ep : (plI (RS D) (nH T) (nuV B N c 7 τ) = -2) = (D (nuV B N c 7 τ) = 0) := by
    rw [plI_D hZ hDH hl5]
    unfold plD
    by_cases z : D (nuV B N c 7 τ) = 0
    · rw [if_pos z]; exact propext ⟨fun _ => z, fun _ => rfl⟩
    · rw [if_neg z, ngNe (by omega) (by decide)]; exact propext ⟨fun y => y.elim, fun y => absurd y z⟩
  -- from the second step on
  have two : ∀ w4, Ag TkP w w4 → CSt w4 B n (ab5 B n N c T D τ).1 (ab5 B n N c T D τ).2 → B_X6_readAboard_J2 (d + 7) 0 Q [.ref 22, .int (nI (nuV B N c 7 τ)), .int (nI (abH B n N c D τ))] [] w4 := by
    intro w4 ha4 hC4
    simp +decide (disch := omega) only [↓EQA, CEA, LIA, NIA, Nat.lt_irrefl, Option.toList_some, Option.toList_none, List.cons_append, List.nil_append, true_and, and_true, Nat.reduceAdd, Nat.reduceLeDiff, not_true_eq_false, not_false_eq_true, if_true, if_false, ite_true, ite_false, Int32.reduceLT, ite_not, eq_self, or_true, true_or, ite_self, reduceIte, B_X6_readAboard_J2]
    refine t_stepS hC4 fun w5 ha5 hC5 => ?_
    have hC5' : CSt w5 B n (ab6 B n N c T D τ).1 (ab6 B n N c T D τ).2 := cs_nx hC5
    have hb : Ag TkP w w5 := ha4.tr ha5
    have hR5 : RC w5 42 43 (RS D) := hR.ag hb (fun i z => by omega) (fun i z => by omega)
    have fr1 : ∀ j i, (22 ≤ j ∧ j ≤ 41) → w5.1 j i = w.1 j i := fun j i a => (hb j i (by omega)).1
    cases hbl : (ab6 B n N c T D τ).2 with
    | some e =>
      obtain ⟨b1, e0⟩ := bl_no (e := e) (by rw [← hbl]; exact hC5'.2.2.2.2)
      simp +decide (disch := omega) only [↓EQA, CEA, LIA, NIA, Nat.lt_irrefl, Option.toList_some, Option.toList_none, List.cons_append, List.nil_append, true_and, and_true, Nat.reduceAdd, Nat.reduceLeDiff, not_true_eq_false, not_false_eq_true, if_true, if_false, ite_true, ite_false, Int32.reduceLT, ite_not, eq_self, or_true, true_or, ite_self, reduceIte, b1, e0, B_X6_readAboard_J1, B_X6_readAboard_J2, B_X6_readAboard_J3]
      exact hQ w5 (hb.wk fun j i z => by omega) hC5' fr1 (fun z => by rw [hbl] at z; cases z)
    | none =>
      have b5 : w5.1 44 5 = 0 := by have := hC5'.2.2.2.2; rw [hbl] at this; exact this
      simp +decide (disch := omega) only [↓EQA, CEA, LIA, NIA, Nat.lt_irrefl, Option.toList_some, Option.toList_none, List.cons_append, List.nil_append, true_and, and_true, Nat.reduceAdd, Nat.reduceLeDiff, not_true_eq_false, not_false_eq_true, if_true, if_false, ite_true, ite_false, Int32.reduceLT, ite_not, eq_self, or_true, true_or, ite_self, reduceIte, b5]
      refine t_putS hR5 hD hl5 hh4 fun w6 ha6 hR6 => ?_
      simp +decide (disch := omega) only [↓EQA, CEA, LIA, NIA, Nat.lt_irrefl, Option.toList_some, Option.toList_none, List.cons_append, List.nil_append, true_and, and_true, Nat.reduceAdd, Nat.reduceLeDiff, not_true_eq_false, not_false_eq_true, if_true, if_false, ite_true, ite_false, Int32.reduceLT, ite_not, eq_self, or_true, true_or, ite_self, reduceIte, B_X6_readAboard_J1, B_X6_readAboard_J2, B_X6_readAboard_J3]
      exact hQ w6 ((hb.wk fun j i z => by omega).tr (ha6.wk fun j i z => by omega)) (hC5'.ag ha6 (fun i z => by omega) (fun i z => by omega)) (fun j i a => by rw [(ha6 j i (by omega)).1]; exact fr1 j i a) (fun _ => hR6)
  have one : ∀ w2, Ag TkP w w2 → CSt w2 B n (ab2 B N c D τ).1 (ab2 B N c D τ).2 → B_X6_readAboard_J1 (d + 7) 0 Q [.ref 22, .int (nI (nuV B N c 7 τ)), .null] [] w2 := by
    intro w2 ha2 hC2
    simp +decide (disch := omega) only [↓EQA, CEA, LIA, NIA, Nat.lt_irrefl, Option.toList_some, Option.toList_none, List.cons_append, List.nil_append, true_and, and_true, Nat.reduceAdd, Nat.reduceLeDiff, not_true_eq_false, not_false_eq_true, if_true, if_false, ite_true, ite_false, Int32.reduceLT, ite_not, eq_self, or_true, true_or, ite_self, reduceIte, B_X6_readAboard_J1]
    refine t_stepS hC2 fun w3 ha3 hC3 => ?_
    have hC3' : CSt w3 B n (ab3 B n N c D τ).1 (ab3 B n N c D τ).2 := cs_nx hC3
    simp +decide (disch := omega) only [↓EQA, CEA, LIA, NIA, Nat.lt_irrefl, Option.toList_some, Option.toList_none, List.cons_append, List.nil_append, true_and, and_true, Nat.reduceAdd, Nat.reduceLeDiff, not_true_eq_false, not_false_eq_true, if_true, if_false, ite_true, ite_false, Int32.reduceLT, ite_not, eq_self, or_true, true_or, ite_self, reduceIte]
    have hN3 : NMs w3 n c N := hN.ag (ha2.tr ha3) (fun j i a b z => by omega)
    refine t_numberOfName (so := 6) hC3' hN3 (by decide) fun w4 ha4 hC4 => ?_
    have hC4' : CSt w4 B n (ab4 B n N c D τ).1 (ab4 B n N c D τ).2 := cs_num hC4
    have hb : Ag TkP w w4 := (ha2.tr ha3).tr ha4
    have hT4 : ToldR w4 T := hT.ag hb (fun j i a b z => by omega)
    have hR4 : RC w4 42 43 (RS D) := hR.ag hb (fun i z => by omega) (fun i z => by omega)
    simp +decide (disch := omega) only [↓EQA, CEA, LIA, NIA, Nat.lt_irrefl, Option.toList_some, Option.toList_none, List.cons_append, List.nil_append, true_and, and_true, Nat.reduceAdd, Nat.reduceLeDiff, not_true_eq_false, not_false_eq_true, if_true, if_false, ite_true, ite_false, Int32.reduceLT, ite_not, eq_self, or_true, true_or, ite_self, reduceIte]
    refine t_hasRoomS (h := abH B n N c D τ) hT4 hR4 hD.rok hh4 ?_
    by_cases q : nI (pc5 (cw D (abH B n N c D τ))) < T 5 (abH B n N c D τ)
    · rw [show bI (nI (pc5 ((RS D).1 (abH B n N c D τ))) < T 5 (abH B n N c D τ)) = 1 from if_pos q]
      simp +decide (disch := omega) only [↓EQA, CEA, LIA, NIA, Nat.lt_irrefl, Option.toList_some, Option.toList_none, List.cons_append, List.nil_append, true_and, and_true, Nat.reduceAdd, Nat.reduceLeDiff, not_true_eq_false, not_false_eq_true, if_true, if_false, ite_true, ite_false, Int32.reduceLT, ite_not, eq_self, or_true, true_or, ite_self, reduceIte]
      refine two w4 hb ?_
      unfold ab5 blIf
      rw [if_neg (by simpa using q)]
      exact hC4'
    · rw [show bI (nI (pc5 ((RS D).1 (abH B n N c D τ))) < T 5 (abH B n N c D τ)) = 0 from if_neg q]
      simp +decide (disch := omega) only [↓EQA, CEA, LIA, NIA, Nat.lt_irrefl, Option.toList_some, Option.toList_none, List.cons_append, List.nil_append, true_and, and_true, Nat.reduceAdd, Nat.reduceLeDiff, not_true_eq_false, not_false_eq_true, if_true, if_false, ite_true, ite_false, Int32.reduceLT, ite_not, eq_self, or_true, true_or, ite_self, reduceIte]
      refine t_blame (f := 7) hC4' (by decide) (by decide) fun w5 ha5 hC5 => ?_
      simp +decide (disch := omega) only [↓EQA, CEA, LIA, NIA, Nat.lt_irrefl, Option.toList_some, Option.toList_none, List.cons_append, List.nil_append, true_and, and_true, Nat.reduceAdd, Nat.reduceLeDiff, not_true_eq_false, not_false_eq_true, if_true, if_false, ite_true, ite_false, Int32.reduceLT, ite_not, eq_self, or_true, true_or, ite_self, reduceIte]
      refine two w5 (hb.tr ha5) ?_
      unfold ab5 blIf
      rw [if_pos (by simpa using q)]
      exact hC5
  refine Cl_of k_X6_readAboard.1 (Nat.le_of_ble_eq_true rfl) (show Wp m_X6_readAboard _ 0 _ 0 [.ref 22, .null, .null] [] _ from S_X6_readAboard_0 _ _ _ ?_)
  simp +decide (disch := omega) only [↓EQA, CEA, LIA, NIA, Nat.lt_irrefl, Option.toList_some, Option.toList_none, List.cons_append, List.nil_append, true_and, and_true, Nat.reduceAdd, Nat.reduceLeDiff, not_true_eq_false, not_false_eq_true, if_true, if_false, ite_true, ite_false, Int32.reduceLT, ite_not, eq_self, or_true, true_or, ite_self, reduceIte, B_X6_readAboard_0]
  refine t_numberOfName (so := 7) hC hN (by decide) fun w1 ha1 hC1 => ?_
  have hC1' : CSt w1 B n (ab1 B N c τ).1 (ab1 B N c τ).2 := cs_num (s := (τ, none)) hC1
  have hT1 : ToldR w1 T := hT.ag ha1 (fun j i a b z => by omega)
  have hR1 : RC w1 42 43 (RS D) := hR.ag ha1 (fun i z => by omega) (fun i z => by omega)
  simp +decide (disch := omega) only [↓EQA, CEA, LIA, NIA, Nat.lt_irrefl, Option.toList_some, Option.toList_none, List.cons_append, List.nil_append, true_and, and_true, Nat.reduceAdd, Nat.reduceLeDiff, not_true_eq_false, not_false_eq_true, if_true, if_false, ite_true, ite_false, Int32.reduceLT, ite_not, eq_self, or_true, true_or, ite_self, reduceIte]
  refine t_placeOfS hT1 hZ hR1 hD.rok hl5 ?_
  simp +decide (disch := omega) only [↓EQA, CEA, LIA, NIA, Nat.lt_irrefl, Option.toList_some, Option.toList_none, List.cons_append, List.nil_append, true_and, and_true, Nat.reduceAdd, Nat.reduceLeDiff, not_true_eq_false, not_false_eq_true, if_true, if_false, ite_true, ite_false, Int32.reduceLT, ite_not, eq_self, or_true, true_or, ite_self, reduceIte, ep]
  by_cases q : D (nuV B N c 7 τ) = 0
  · rw [if_pos q]
    refine one w1 ha1 ?_
    unfold ab2 blIf
    rw [if_neg (by simpa using q)]
    exact hC1'
  · rw [if_neg q]
    refine t_blame (f := 3) hC1' (by decide) (by decide) fun w2 ha2 hC2 => ?_
    simp +decide (disch := omega) only [↓EQA, CEA, LIA, NIA, Nat.lt_irrefl, Option.toList_some, Option.toList_none, List.cons_append, List.nil_append, true_and, and_true, Nat.reduceAdd, Nat.reduceLeDiff, not_true_eq_false, not_false_eq_true, if_true, if_false, ite_true, ite_false, Int32.reduceLT, ite_not, eq_self, or_true, true_or, ite_self, reduceIte]
    refine one w2 (ha1.tr ha2) ?_
    unfold ab2 blIf
    rw [if_pos (by simpa using q)]
    exact hC2
end Lines6
