/-! ===== the class reads the whole text ===== -/
section ReadAll2
variable {d : Nat} {w : Mem} {Q : Option Value → Mem → Prop} {B : Nat → Nat} {n c p : Nat} {τ t : Tk3} {s : Cs} {N : Nat → Nm4} {T : Tv} {D F : Nat → Nat} {S : St5}
abbrev CRs (w : Mem) (n : Nat) (S : St5) : Prop := CRl w n S.1 S.2.1 S.2.2.2.1 S.2.2.2.2
abbrev MRs (w : Mem) (B : Nat → Nat) (S : St5) : Prop := MRl w B S.1 S.2.1 S.2.2.1 S.2.2.2.1 S.2.2.2.2
theorem enF_some {X : Cs × St5} {e : Nat × Nat} (h : X.1.2 = some e) : enF X = X.1 := by
  obtain ⟨⟨t, bl⟩, S⟩ := X
  have h' : bl = some e := h
  subst h'
  rfl
theorem enF_1 {X : Cs × St5} (h : X.1.2 = none) (hk : X.1.1.2.2 ≠ 0) : enF X = (X.1.1, some (1, X.1.1.1)) := by
  obtain ⟨⟨t, bl⟩, S⟩ := X
  have h' : bl = none := h
  subst h'
  show (t, if t.2.2 = 0 then (if nH S.1 = 0 then some (6, t.1) else none) else some (1, t.1)) = _
  rw [if_neg hk]
theorem enF_6 {X : Cs × St5} (h : X.1.2 = none) (hk : X.1.1.2.2 = 0) (hn : nH X.2.1 = 0) : enF X = (X.1.1, some (6, X.1.1.1)) := by
  obtain ⟨⟨t, bl⟩, S⟩ := X
  have h' : bl = none := h
  subst h'
  show (t, if t.2.2 = 0 then (if nH S.1 = 0 then some (6, t.1) else none) else some (1, t.1)) = _
  rw [if_pos hk, if_pos hn]
theorem enF_0 {X : Cs × St5} (h : X.1.2 = none) (hk : X.1.1.2.2 = 0) (hn : nH X.2.1 ≠ 0) : enF X = (X.1.1, none) := by
  obtain ⟨⟨t, bl⟩, S⟩ := X
  have h' : bl = none := h
  subst h'
  show (t, if t.2.2 = 0 then (if nH S.1 = 0 then some (6, t.1) else none) else some (1, t.1)) = _
  rw [if_pos hk, if_neg hn]
theorem t_read (hX : TX w B n) (hQ : ∀ T0 : Tv, (∀ i, i ≤ 10 → T0 0 i = 0) → ∀ w', Ag RdP w w' → CSt w' B n (enF (rdA B n T0)).1 (enF (rdA B n T0)).2 → ((enF (rdA B n T0)).2 = none → CRs w' n (rdA B n T0).2 ∧ RDVs B n (rdA B n T0).2) → Q none w') : Cl (d + 11) m_X6_read [.ref 22, .int (nI n)] w Q := by
  have hn9 : n ≤ 900 := hX.2.1
  -- the end
  have fin : ∀ T0 : Tv, (∀ i, i ≤ 10 → T0 0 i = 0) → ∀ i w1, Ag RdP w w1 → CSt w1 B n (rdA B n T0).1.1 (rdA B n T0).1.2 → ((rdA B n T0).1.2 = none → CRs w1 n (rdA B n T0).2 ∧ RDVs B n (rdA B n T0).2) → B_X6_read_J1 (d + 10) 0 Q [.ref 22, .int (nI n), .int (nI i)] [] w1 := by
    intro T0 h0 i w1 ha1 hC1 hR1
    have hQ0 := hQ T0 h0
    clear hQ
    generalize rdA B n T0 = X at hC1 hR1 hQ0
    have k4 : w1.1 44 4 = nI X.1.1.2.2 := hC1.2.2.1.2.2
    have hk4 : X.1.1.2.2 ≤ 4 := hC1.2.2.2.1.1.2.2
    have e4 : (nI X.1.1.2.2 = 0) = (X.1.1.2.2 = 0) := eq_n (b := 0) (by omega) (by decide)
    simp +decide (disch := omega) only [↓EQA, CEA, LIA, NIA, Nat.lt_irrefl, Option.toList_some, Option.toList_none, List.cons_append, List.nil_append, true_and, and_true, Nat.reduceAdd, Nat.reduceLeDiff, not_true_eq_false, not_false_eq_true, if_true, if_false, ite_true, ite_false, Int32.reduceLT, ite_not, eq_self, or_true, true_or, ite_self, reduceIte, B_X6_read_J1, k4, e4]
    by_cases q : X.1.1.2.2 = 0
    · rw [if_pos q]
      cases hb : X.1.2 with
      | some e =>
        have eE := enF_some hb
        rw [eE] at hQ0
        have done : ∀ w2, Ag TkP w1 w2 → CSt w2 B n X.1.1 X.1.2 → B_X6_read_J2 (d + 10) 0 Q [.ref 22, .int (nI n), .int (nI i)] [] w2 := by
          intro w2 ha2 hC2
          simp +decide (disch := omega) only [↓EQA, CEA, LIA, NIA, Nat.lt_irrefl, Option.toList_some, Option.toList_none, List.cons_append, List.nil_append, true_and, and_true, Nat.reduceAdd, Nat.reduceLeDiff, not_true_eq_false, not_false_eq_true, if_true, if_false, ite_true, ite_false, Int32.reduceLT, ite_not, eq_self, or_true, true_or, ite_self, reduceIte, B_X6_read_J2]
          exact hQ0 w2 (ha1.tr (ha2.wk fun j i z => by omega)) hC2 (fun z => by rw [hb] at z; cases z)
        by_cases q6 : w1.1 29 6 = 0
        · rw [if_pos q6]
          refine t_blame (f := 6) hC1 (by decide) (by decide) fun w2 ha2 hC2 => ?_
          rw [hb] at hC2
          simp +decide (disch := omega) only [↓EQA, CEA, LIA, NIA, Nat.lt_irrefl, Option.toList_some, Option.toList_none, List.cons_append, List.nil_append, true_and, and_true, Nat.reduceAdd, Nat.reduceLeDiff, not_true_eq_false, not_false_eq_true, if_true, if_false, ite_true, ite_false, Int32.reduceLT, ite_not, eq_self, or_true, true_or, ite_self, reduceIte]
          exact done w2 ha2 (by rw [hb]; exact hC2)
        · rw [if_neg q6]
          exact done w1 Ag.rf hC1
      | none =>
        obtain ⟨⟨r1, r2, r3, r4⟩, rv⟩ := hR1 hb
        have k6 : w1.1 29 6 = nI (nH X.2.1) := by rw [r1.1]; exact rv.1.1.2.1
        have h4 : nH X.2.1 ≤ 4 := rv.1.2.2.1
        have e6 : (nI (nH X.2.1) = 0) = (nH X.2.1 = 0) := eq_n (b := 0) (by omega) (by decide)
        simp +decide (disch := omega) only [↓EQA, CEA, LIA, NIA, Nat.lt_irrefl, Option.toList_some, Option.toList_none, List.cons_append, List.nil_append, true_and, and_true, Nat.reduceAdd, Nat.reduceLeDiff, not_true_eq_false, not_false_eq_true, if_true, if_false, ite_true, ite_false, Int32.reduceLT, ite_not, eq_self, or_true, true_or, ite_self, reduceIte, k6, e6]
        by_cases q6 : nH X.2.1 = 0
        · rw [if_pos q6]
          refine t_blame (f := 6) hC1 (by decide) (by decide) fun w2 ha2 hC2 => ?_
          rw [hb] at hC2
          simp +decide (disch := omega) only [↓EQA, CEA, LIA, NIA, Nat.lt_irrefl, Option.toList_some, Option.toList_none, List.cons_append, List.nil_append, true_and, and_true, Nat.reduceAdd, Nat.reduceLeDiff, not_true_eq_false, not_false_eq_true, if_true, if_false, ite_true, ite_false, Int32.reduceLT, ite_not, eq_self, or_true, true_or, ite_self, reduceIte, B_X6_read_J2]
          rw [enF_6 hb q q6] at hQ0
          exact hQ0 w2 (ha1.tr (ha2.wk fun j i z => by omega)) hC2 (fun z => by cases z)
        · rw [if_neg q6]
          simp +decide (disch := omega) only [↓EQA, CEA, LIA, NIA, Nat.lt_irrefl, Option.toList_some, Option.toList_none, List.cons_append, List.nil_append, true_and, and_true, Nat.reduceAdd, Nat.reduceLeDiff, not_true_eq_false, not_false_eq_true, if_true, if_false, ite_true, ite_false, Int32.reduceLT, ite_not, eq_self, or_true, true_or, ite_self, reduceIte, B_X6_read_J2]
          rw [enF_0 hb q q6] at hQ0
          rw [hb] at hC1
          exact hQ0 w1 ha1 hC1 (fun _ => hR1 hb)
    · rw [if_neg q]
      refine t_blame (f := 1) hC1 (by decide) (by decide) fun w2 ha2 hC2 => ?_
      simp +decide (disch := omega) only [↓EQA, CEA, LIA, NIA, Nat.lt_irrefl, Option.toList_some, Option.toList_none, List.cons_append, List.nil_append, true_and, and_true, Nat.reduceAdd, Nat.reduceLeDiff, not_true_eq_false, not_false_eq_true, if_true, if_false, ite_true, ite_false, Int32.reduceLT, ite_not, eq_self, or_true, true_or, ite_self, reduceIte, B_X6_read_J2]
      cases hb : X.1.2 with
      | some e =>
        rw [hb] at hC2
        rw [enF_some hb] at hQ0
        exact hQ0 w2 (ha1.tr (ha2.wk fun j i z => by omega)) (by rw [hb]; exact hC2) (fun z => by rw [hb] at z; cases z)
      | none =>
        rw [hb] at hC2
        rw [enF_1 hb q] at hQ0
        exact hQ0 w2 (ha1.tr (ha2.wk fun j i z => by omega)) hC2 (fun z => by cases z)
  -- the loop
  have key : ∀ T0 : Tv, (∀ i, i ≤ 10 → T0 0 i = 0) → ∀ m i, i + m = n → ∀ X w1, Ag RdP w w1 → CSt w1 B n X.1.1 X.1.2 → (X.1.2 = none → CRs w1 n X.2 ∧ RDVs B n X.2) → rdF B n m X = rdA B n T0 → Wp m_X6_read (d + 10) 0 Q 41 [.ref 22, .int (nI n), .int (nI i)] [] w1 := by
    intro T0 h0 m
    induction m with
    | zero =>
      intro i hi X w1 ha1 hC1 hR1 hX
      have : i = n := by omega
      subst this
      have hX' : X = rdA B i T0 := hX
      refine S_X6_read_L1 _ _ _ ?_
      simp +decide (disch := omega) only [↓EQA, CEA, LIA, NIA, Nat.lt_irrefl, Option.toList_some, Option.toList_none, List.cons_append, List.nil_append, true_and, and_true, Nat.reduceAdd, Nat.reduceLeDiff, not_true_eq_false, not_false_eq_true, if_true, if_false, ite_true, ite_false, Int32.reduceLT, ite_not, eq_self, or_true, true_or, ite_self, reduceIte, B_X6_read_L1]
      exact fin T0 h0 i w1 ha1 (by rw [← hX']; exact hC1) (by rw [← hX']; exact hR1)
    | succ m ih =>
      intro i hi X w1 ha1 hC1 hR1 hX
      have hin : i < n := by omega
      have k4 : w1.1 44 4 = nI X.1.1.2.2 := hC1.2.2.1.2.2
      have hk4 : X.1.1.2.2 ≤ 4 := hC1.2.2.2.1.1.2.2
      have e4 : (nI X.1.1.2.2 = 3) = (X.1.1.2.2 = 3) := eq_n (b := 3) (by omega) (by decide)
      have out : ¬ (X.1.2 = none ∧ X.1.1.2.2 = 3) → B_X6_read_J1 (d + 10) 0 Q [.ref 22, .int (nI n), .int (nI i)] [] w1 := by
        intro z
        rw [rdF_no z] at hX
        exact fin T0 h0 i w1 ha1 (by rw [← hX]; exact hC1) (by rw [← hX]; exact hR1)
      refine S_X6_read_L1 _ _ _ ?_
      cases hb : X.1.2 with
      | some e =>
        obtain ⟨c1, e0⟩ := bl_no (e := e) (by rw [← hb]; exact hC1.2.2.2.2)
        simp +decide (disch := omega) only [↓EQA, CEA, LIA, NIA, Nat.lt_irrefl, Option.toList_some, Option.toList_none, List.cons_append, List.nil_append, true_and, and_true, Nat.reduceAdd, Nat.reduceLeDiff, not_true_eq_false, not_false_eq_true, if_true, if_false, ite_true, ite_false, Int32.reduceLT, ite_not, eq_self, or_true, true_or, ite_self, reduceIte, B_X6_read_L1, hin, c1, e0]
        exact out (fun z => by rw [hb] at z; cases z.1)
      | none =>
        have c1 : w1.1 44 5 = 0 := by have := hC1.2.2.2.2; rw [hb] at this; exact this
        simp +decide (disch := omega) only [↓EQA, CEA, LIA, NIA, Nat.lt_irrefl, Option.toList_some, Option.toList_none, List.cons_append, List.nil_append, true_and, and_true, Nat.reduceAdd, Nat.reduceLeDiff, not_true_eq_false, not_false_eq_true, if_true, if_false, ite_true, ite_false, Int32.reduceLT, ite_not, eq_self, or_true, true_or, ite_self, reduceIte, B_X6_read_L1, hin, c1, k4, e4]
        by_cases q : X.1.1.2.2 = 3
        · rw [if_pos q]
          rw [hb] at hC1
          refine t_stepS hC1 fun w2 ha2 hC2 => ?_
          have hC2' : CSt w2 B n (nxT B n X.1.1) none := hC2
          have hR2 : CRs w2 n X.2 := (hR1 hb).1.ag ha2 (fun j i a b z => by omega)
          simp +decide (disch := omega) only [↓EQA, CEA, LIA, NIA, Nat.lt_irrefl, Option.toList_some, Option.toList_none, List.cons_append, List.nil_append, true_and, and_true, Nat.reduceAdd, Nat.reduceLeDiff, not_true_eq_false, not_false_eq_true, if_true, if_false, ite_true, ite_false, Int32.reduceLT, ite_not, eq_self, or_true, true_or, ite_self, reduceIte]
          refine t_readLine hC2' hR2 (hR1 hb).2 fun w3 ha3 hC3 hR3 => ?_
          simp +decide (disch := omega) only [↓EQA, CEA, LIA, NIA, Nat.lt_irrefl, Option.toList_some, Option.toList_none, List.cons_append, List.nil_append, true_and, and_true, Nat.reduceAdd, Nat.reduceLeDiff, not_true_eq_false, not_false_eq_true, if_true, if_false, ite_true, ite_false, Int32.reduceLT, ite_not, eq_self, or_true, true_or, ite_self, reduceIte]
          refine ih (i + 1) (by omega) (lnF B n X.2 (nxT B n X.1.1)) w3 ((ha1.tr (ha2.wk fun j i z => by omega)).tr ha3) hC3 (fun z => ⟨hR3 z, rv_step (hR1 hb).2 hC2'.2.2.2.1 z⟩) ?_
          rw [← hX, rdF_yes ⟨hb, q⟩]
        · rw [if_neg q]
          exact out (fun z => q z.2)
  refine Cl_of k_X6_read.1 (Nat.le_of_ble_eq_true rfl) (show Wp m_X6_read _ 0 _ 0 [.ref 22, .int (nI n), .null] [] _ from S_X6_read_0 _ _ _ ?_)
  simp +decide (disch := omega) only [↓EQA, CEA, LIA, NIA, Nat.lt_irrefl, Option.toList_some, Option.toList_none, List.cons_append, List.nil_append, true_and, and_true, Nat.reduceAdd, Nat.reduceLeDiff, not_true_eq_false, not_false_eq_true, if_true, if_false, ite_true, ite_false, Int32.reduceLT, ite_not, eq_self, or_true, true_or, ite_self, reduceIte, B_X6_read_0]
  refine t_clear9 fun w1 ha1 h1 => ?_
  simp +decide (disch := omega) only [↓EQA, CEA, LIA, NIA, Nat.lt_irrefl, Option.toList_some, Option.toList_none, List.cons_append, List.nil_append, true_and, and_true, Nat.reduceAdd, Nat.reduceLeDiff, not_true_eq_false, not_false_eq_true, if_true, if_false, ite_true, ite_false, Int32.reduceLT, ite_not, eq_self, or_true, true_or, ite_self, reduceIte]
  refine t_clearS fun w2 ha2 hR2 => ?_
  simp +decide (disch := omega) only [↓EQA, CEA, LIA, NIA, Nat.lt_irrefl, Option.toList_some, Option.toList_none, List.cons_append, List.nil_append, true_and, and_true, Nat.reduceAdd, Nat.reduceLeDiff, not_true_eq_false, not_false_eq_true, if_true, if_false, ite_true, ite_false, Int32.reduceLT, ite_not, eq_self, or_true, true_or, ite_self, reduceIte]
  generalize hw3 : wI (wI w2 23 4 0) 22 4 0 = w3
  have ha3 : Ag (fun j i => (j = 23 ∧ i = 4) ∨ (j = 22 ∧ i = 4)) w2 w3 := by rw [← hw3]; exact (Ag.rf.wI (Or.inl ⟨rfl, rfl⟩)).wI (Or.inr ⟨rfl, rfl⟩)
  have k22 : w3.1 22 4 = 0 := by rw [← hw3]; simp [wI]
  have k23 : w3.1 23 4 = 0 := by rw [← hw3]; simp [wI]
  have ha03 : Ag RdP w w3 := ((ha1.wk fun j i z => by omega).tr (ha2.wk fun j i z => by omega)).tr (ha3.wk fun j i z => by omega)
  have hX3 : TX w3 B n := hX.ag ha03 (fun i z => by omega)
  refine t_beginS hX3 fun w4 ha4 hC4 => ?_
  have ha04 : Ag RdP w w4 := ha03.tr (ha4.wk fun j i z => by omega)
  simp +decide (disch := omega) only [↓EQA, CEA, LIA, NIA, Nat.lt_irrefl, Option.toList_some, Option.toList_none, List.cons_append, List.nil_append, true_and, and_true, Nat.reduceAdd, Nat.reduceLeDiff, not_true_eq_false, not_false_eq_true, if_true, if_false, ite_true, ite_false, Int32.reduceLT, ite_not, eq_self, or_true, true_or, ite_self, reduceIte]
  obtain ⟨T0, hT0⟩ : ∃ T0 : Tv, ∀ j, T0 j = w4.1 (29 + j) := ⟨fun j => w4.1 (29 + j), fun _ => rfl⟩
  have h0 : ∀ i, i ≤ 10 → T0 0 i = 0 := fun i hi => by
    rw [hT0 0, (ha4 29 i (by omega)).1, (ha3 29 i (by omega)).1, (ha2 29 i (by omega)).1]
    exact h1 i (by omega)
  have hR4 : CRs w4 n (st0 T0) := by
    refine ⟨⟨(hT0 0).symm, (hT0 1).symm, (hT0 2).symm, (hT0 3).symm, (hT0 4).symm, (hT0 5).symm, (hT0 6).symm, (hT0 7).symm, (hT0 8).symm, (hT0 9).symm, (hT0 10).symm, (hT0 11).symm, (hT0 12).symm⟩, ?_, ⟨?_, Nat.zero_le 13, fun i hi => absurd hi (Nat.not_lt_zero _)⟩, ?_⟩
    · have e : RS (st0 T0).2.1 = (fun _ => 0, 0, 0, 0, 0) := by
        show (cw (fun _ => 0), 0, 0, 0, 0) = _
        rw [cw_00]
      rw [e]
      exact (hR2.ag ha3 (fun i z => by omega) (fun i z => by omega)).ag ha4 (fun i z => by omega) (fun i z => by omega)
    · show w4.1 23 4 = nI 0
      rw [(ha4 23 4 (by omega)).1]; exact k23
    · rw [(ha4 22 4 (by omega)).1, k22]
      exact (if_neg (fun z => z rfl)).symm
  have hV0 : RDVs B n (st0 T0) := st0_ok h0
  refine t_readLine hC4 hR4 hV0 fun w5 ha5 hC5 hR5 => ?_
  simp +decide (disch := omega) only [↓EQA, CEA, LIA, NIA, Nat.lt_irrefl, Option.toList_some, Option.toList_none, List.cons_append, List.nil_append, true_and, and_true, Nat.reduceAdd, Nat.reduceLeDiff, not_true_eq_false, not_false_eq_true, if_true, if_false, ite_true, ite_false, Int32.reduceLT, ite_not, eq_self, or_true, true_or, ite_self, reduceIte]
  exact key T0 h0 n 0 (by omega) (lnF B n (st0 T0) (tk B n 0)) w5 (ha04.tr ha5) hC5 (fun z => ⟨hR5 z, rv_step hV0 (tk_ok (Nat.zero_le _)) z⟩) rfl
end ReadAll2
