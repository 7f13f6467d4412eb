/-! ===== places in rows; whom to move, to swap ===== -/
def updD (D : Nat → Nat) (l p : Nat) : Nat → Nat := fun i => if i = l then p else D i
def plD (p : Nat) : Int32 := if p = 0 then -2 else nI (p - 1)
theorem clbBit : ∀ x : Fin 32, ∀ l i : Fin 5, (clb x.val l.val).testBit i.val = (if i = l then false else x.val.testBit i.val) ∧ (stb x.val l.val).testBit i.val = (if i = l then true else x.val.testBit i.val) := by decide +kernel
theorem cw_upd {D : Nat → Nat} {l p g : Nat} (hl : l < 5) : cw (updD D l p) g = if p = g + 1 then stb (clb (cw D g) l) l else clb (cw D g) l := by
  have hc := cw_lt D g
  have hc2 := clb_lt hc hl
  refine eq_bits (cw_lt _ _) ?_ fun i hi => ?_
  · split
    · exact stb_lt hc2 hl
    · exact hc2
  · rw [cw_bit _ _ hi]
    have e1 := (clbBit ⟨cw D g, hc⟩ ⟨l, hl⟩ ⟨i, hi⟩).1
    have e2 := (clbBit ⟨clb (cw D g) l, hc2⟩ ⟨l, hl⟩ ⟨i, hi⟩).2
    dsimp only at e1 e2
    rw [cw_bit _ _ hi] at e1
    unfold updD
    by_cases q : i = l
    · subst q
      simp only [if_true] at e1 e2 ⊢
      split
      · next z => rw [e2]; simp [z]
      · next z => rw [e1]; simp [z]
    · have q2 : ¬ (⟨i, hi⟩ : Fin 5) = ⟨l, hl⟩ := fun z => q (by injection z)
      rw [if_neg q2] at e1 e2
      rw [if_neg q]
      split
      · rw [e2, e1]
      · rw [e1]
abbrev DH (T : Tv) (D : Nat → Nat) : Prop := ∀ l, l < 5 → D l ≤ nH T
section Loads2
variable {d : Nat} {w : Mem} {Q : Option Value → Mem → Prop} {T : Tv} {D : Nat → Nat} {k c n h l r : Nat}
theorem plI_D (hZ : SZ T) (hD : DH T D) (hl : l < 5) : plI (RS D) (nH T) l = plD (D l) := by
  have hz := hZ.2
  have hd := hD l hl
  unfold plI plc plD
  by_cases q : D l = 0
  · have e : frst (fun h => ((RS D).1 h).testBit l) (nH T) = nH T := frst_eq (Nat.le_refl _) (fun j hj => by show (cw D j).testBit l = false; rw [cw_bit _ _ hl]; simp; omega) (fun z => absurd z (Nat.lt_irrefl _))
    rw [e, if_neg (Nat.lt_irrefl _), if_pos q]
  · have e : frst (fun h => ((RS D).1 h).testBit l) (nH T) = D l - 1 := frst_eq (by omega) (fun j hj => by show (cw D j).testBit l = false; rw [cw_bit _ _ hl]; simp; omega) (fun z => by show (cw D (D l - 1)).testBit l = true; rw [cw_bit _ _ hl]; simp; omega)
    rw [e, if_pos (by omega), if_neg q]
theorem t_placeD (hk : RK k c) (hT : Told w T) (hZ : SZ T) (hC : RC w k c (RS D)) (hO : DOK D) (hD : DH T D) (hl : l < 5) (hQ : Q (some (.int (plD (D l)))) w) : Cl (d + 1) m_X4_placeOf [.ref k, .int (nI l)] w Q := by
  refine t_placeOf hk hT hZ hC hO.rok hl ?_
  rw [plI_D hZ hD hl]
  exact hQ
theorem t_putD {p : Nat} (hk : RK k c) (hkc : k ≠ c) (hC : RC w k c (RS D)) (hO : DOK D) (hl : l < 5) (hp : p ≤ 4) (hQ : ∀ w', Ag (fun j _ => j = c) w w' → RC w' k c (RS (updD D l p)) → Q none w') : Cl (d + 1) m_X4_put [.ref k, .int (nI l), .int (plD p)] w Q := by
  have e5 : ∀ j, 5 ≤ j → updD D l p j = D j := fun j hj => if_neg (by omega)
  have fin : ∀ (w' : Mem) (F : Nat → Nat), (∀ g, F g = cw (updD D l p) g) → RC w' k c (F, (RS D).2) → RC w' k c (RS (updD D l p)) := by
    intro w' F hF h
    obtain ⟨c1, c2, c3, c4, c5⟩ := h
    exact ⟨fun a ha => by rw [c1 a ha]; exact congrArg nI (hF a), by rw [c2]; show nI (D 7) = nI (updD D l p 7); rw [e5 7 (by decide)], c3, by rw [c4]; show nI (D 6) = nI (updD D l p 6); rw [e5 6 (by decide)], by rw [c5]; show nI (D 5) = nI (updD D l p 5); rw [e5 5 (by decide)]⟩
  unfold plD
  by_cases q : p = 0
  · rw [if_pos q]
    refine t_put0 hk hkc hC hO.rok hl fun w' ha h => hQ w' ha (fin w' _ (fun g => ?_) h)
    rw [cw_upd hl, if_neg (by omega)]
    rfl
  · rw [if_neg q]
    refine t_put1 hk hkc hC hO.rok hl (show p - 1 < 4 by omega) fun w' ha h => hQ w' ha (fin w' _ (fun g => ?_) h)
    rw [cw_upd hl]
    by_cases z : g = p - 1
    · rw [if_pos z, if_pos (by omega)]; rfl
    · rw [if_neg z, if_neg (by omega)]; rfl
theorem updD_ok {p : Nat} (hO : DOK D) (hl : l < 5) (hp : p ≤ 4) : DOK (updD D l p) := by
  refine ⟨fun i hi => ?_, ?_, ?_, ?_⟩
  · unfold updD; split
    · exact hp
    · exact hO.1 i hi
  · unfold updD; rw [if_neg (by omega)]; exact hO.2.1
  · unfold updD; rw [if_neg (by omega)]; exact hO.2.2.1
  · unfold updD; rw [if_neg (by omega)]; exact hO.2.2.2
def omS (T : Tv) (R : Rc) (h l : Nat) (a : Int32 × Int32) : Int32 × Int32 := if (R.1 h).testBit l = true ∨ nI (pc5 (R.1 h)) < T 5 h then (if toC T R h (R.1 h ^^^ 2 ^ l) < a.2 then (nI l, toC T R h (R.1 h ^^^ 2 ^ l)) else a) else a
theorem t_oneToMove {R : Rc} (hT : Told w T) (hZ : SZ T) (hC : RC w 16 17 R) (hR : ROK R) (hh : h < 4) (hQ : ∀ w', Ag TrP w w' → Q (some (.int (fld (omS T R h) (nL T) (-2, TO T (VC R) h)).1)) w') : Cl (d + 5) m_X2_oneToMove [.ref 45, .int (nI h)] w Q := by
  have hz := hZ.2
  refine Cl_of k_X2_oneToMove.1 (Nat.le_of_ble_eq_true rfl) (show Wp m_X2_oneToMove _ 0 _ 0 [.ref 45, .int (nI h), .null, .null, .null, .null] [] _ from S_X2_oneToMove_0 _ _ _ ?_)
  simp +decide (disch := omega) only [↓EQA, CEA, LIA, NIA, Nat.lt_irrefl, Option.toList_some, Option.toList_none, List.cons_append, List.nil_append, true_and, and_true, Nat.reduceAdd, Nat.reduceLeDiff, not_true_eq_false, not_false_eq_true, if_true, if_false, ite_true, ite_false, Int32.reduceLT, ite_not, eq_self, or_true, true_or, ite_self, reduceIte, B_X2_oneToMove_0]
  refine t_become RK_trial RK_now (by decide) hC fun w0 ha0 hC0 => ?_
  have hT0 : Told w0 T := hT.ag ha0 (fun a b p q z => by omega)
  have hN0 : RC w0 16 17 R := hC.ag ha0 (fun i z => by omega) (fun i z => by omega)
  simp +decide (disch := omega) only [↓EQA, CEA, LIA, NIA, Nat.lt_irrefl, Option.toList_some, Option.toList_none, List.cons_append, List.nil_append, true_and, and_true, Nat.reduceAdd, Nat.reduceLeDiff, not_true_eq_false, not_false_eq_true, if_true, if_false, ite_true, ite_false, Int32.reduceLT, ite_not, eq_self, or_true, true_or, ite_self, reduceIte]
  refine t_wholeTime RK_now hT0 hZ (hN0.rv hR) hh ?_
  simp +decide (disch := omega) only [↓EQA, CEA, LIA, NIA, Nat.lt_irrefl, Option.toList_some, Option.toList_none, List.cons_append, List.nil_append, true_and, and_true, Nat.reduceAdd, Nat.reduceLeDiff, not_true_eq_false, not_false_eq_true, if_true, if_false, ite_true, ite_false, Int32.reduceLT, ite_not, eq_self, or_true, true_or, ite_self, reduceIte]
  have key : ∀ m l, l + m = nL T → ∀ w1 R1 (v : Value), Ag TrP w w1 → RC w1 18 19 (R1, R.2) → (∀ g, g < 4 → R1 g < 32) → Wp m_X2_oneToMove (d + 4) 0 Q 26 [.ref 45, .int (nI h), .int (fld (omS T R h) l (-2, TO T (VC R) h)).1, .int (fld (omS T R h) l (-2, TO T (VC R) h)).2, .int (nI l), v] [] w1 := by
    intro m
    induction m with
    | zero =>
      intro l hl w1 R1 v ha hC1 hR1
      have : l = nL T := by omega
      subst this
      have hT1 : Told w1 T := hT.ag ha (fun a b p q z => by omega)
      refine S_X2_oneToMove_L1 _ _ _ ?_
      simp +decide (disch := omega) only [↓EQA, CEA, LIA, NIA, Nat.lt_irrefl, Option.toList_some, Option.toList_none, List.cons_append, List.nil_append, true_and, and_true, Nat.reduceAdd, Nat.reduceLeDiff, not_true_eq_false, not_false_eq_true, if_true, if_false, ite_true, ite_false, Int32.reduceLT, ite_not, eq_self, or_true, true_or, ite_self, reduceIte, B_X2_oneToMove_L1, hT1, hZ.1]
      exact hQ w1 ha
    | succ m ih =>
      intro l hl w1 R1 v ha hC1 hR1
      have hl1 : l < nL T := by omega
      have hl5 : l < 5 := by omega
      have hc := hR.1 h hh
      have hx : R.1 h ^^^ 2 ^ l < 32 := Nat.xor_lt_two_pow (n := 5) hc (Nat.pow_lt_pow_right (by decide) hl5)
      obtain ⟨e2, e3⟩ := sh5 (n := l) (by omega)
      have hT1 : Told w1 T := hT.ag ha (fun a b p q z => by omega)
      have hN1 : RC w1 16 17 R := hC.ag ha (fun i z => by omega) (fun i z => by omega)
      have ha2 := ha.wI (k := 19) (p := h) (v := nI (R.1 h ^^^ 2 ^ l)) (Or.inr rfl)
      have hT2 : Told (wI w1 19 h (nI (R.1 h ^^^ 2 ^ l))) T := hT.ag ha2 (fun a b p q z => by omega)
      have hN2 : RC (wI w1 19 h (nI (R.1 h ^^^ 2 ^ l))) 16 17 R := hC.ag ha2 (fun i z => by omega) (fun i z => by omega)
      have hC2 : RC (wI w1 19 h (nI (R.1 h ^^^ 2 ^ l))) 18 19 (RcH R1 h (R.1 h ^^^ 2 ^ l), R.2) := RC.crew (R := (R1, R.2)) hC1
      have hR2 := RcH_ok (h := h) hR1 hx
      have efl : fld (omS T R h) (l + 1) (-2, TO T (VC R) h) = omS T R h l (fld (omS T R h) l (-2, TO T (VC R) h)) := rfl
      have eH : RcH R1 h (R.1 h ^^^ 2 ^ l) h = R.1 h ^^^ 2 ^ l := if_pos rfl
      have hn := ih (l + 1) (by omega) _ _ (.int (bI ((R.1 h).testBit l = true))) ha2 hC2 hR2
      rw [efl] at hn
      generalize fld (omS T R h) l (-2, TO T (VC R) h) = a at hn ⊢
      unfold omS at hn
      have two : (if toC T R h (R.1 h ^^^ 2 ^ l) < a.2 then (nI l, toC T R h (R.1 h ^^^ 2 ^ l)) else a) = (omS T R h l a) → B_X2_oneToMove_J2 (d + 4) 0 Q [.ref 45, .int (nI h), .int a.1, .int a.2, .int (nI l), .int (bI ((R.1 h).testBit l = true))] [] (wI w1 19 h (nI (R.1 h ^^^ 2 ^ l))) := by
        intro e9
        have hn2 := hn
        change Wp _ _ _ _ _ [.ref 45, .int (nI h), .int (omS T R h l a).1, .int (omS T R h l a).2, .int (nI (l + 1)), _] [] _ at hn2
        rw [← e9] at hn2
        simp +decide (disch := omega) only [↓EQA, CEA, LIA, NIA, Nat.lt_irrefl, Option.toList_some, Option.toList_none, List.cons_append, List.nil_append, true_and, and_true, Nat.reduceAdd, Nat.reduceLeDiff, not_true_eq_false, not_false_eq_true, if_true, if_false, ite_true, ite_false, Int32.reduceLT, ite_not, eq_self, or_true, true_or, ite_self, reduceIte, B_X2_oneToMove_J2]
        refine t_wholeC hT2 hZ hC2 hR2 hR hh ?_
        rw [eH]
        simp +decide (disch := omega) only [↓EQA, CEA, LIA, NIA, Nat.lt_irrefl, Option.toList_some, Option.toList_none, List.cons_append, List.nil_append, true_and, and_true, Nat.reduceAdd, Nat.reduceLeDiff, not_true_eq_false, not_false_eq_true, if_true, if_false, ite_true, ite_false, Int32.reduceLT, ite_not, eq_self, or_true, true_or, ite_self, reduceIte, B_X2_oneToMove_J3]
        by_cases q : toC T R h (R.1 h ^^^ 2 ^ l) < a.2
        · rw [if_pos q] at hn2 ⊢
          refine t_wholeC hT2 hZ hC2 hR2 hR hh ?_
          rw [eH]
          simp +decide (disch := omega) only [↓EQA, CEA, LIA, NIA, Nat.lt_irrefl, Option.toList_some, Option.toList_none, List.cons_append, List.nil_append, true_and, and_true, Nat.reduceAdd, Nat.reduceLeDiff, not_true_eq_false, not_false_eq_true, if_true, if_false, ite_true, ite_false, Int32.reduceLT, ite_not, eq_self, or_true, true_or, ite_self, reduceIte, B_X2_oneToMove_J3]
          exact hn2
        · rw [if_neg q] at hn2 ⊢
          exact hn2
      refine S_X2_oneToMove_L1 _ _ _ ?_
      simp +decide (disch := omega) only [↓EQA, CEA, LIA, NIA, Nat.lt_irrefl, Option.toList_some, Option.toList_none, List.cons_append, List.nil_append, true_and, and_true, Nat.reduceAdd, Nat.reduceLeDiff, not_true_eq_false, not_false_eq_true, if_true, if_false, ite_true, ite_false, Int32.reduceLT, ite_not, eq_self, or_true, true_or, ite_self, reduceIte, B_X2_oneToMove_L1, hT1, hZ.1, hl1, hN1.1 h hh, bbN hc hl5]
      by_cases qb : (R.1 h).testBit l = true
      · have t2 := two (by unfold omS; rw [if_pos (Or.inl qb)])
        simp only [qb, if_true]
        simp +decide (disch := omega) only [↓EQA, CEA, LIA, NIA, Nat.lt_irrefl, Option.toList_some, Option.toList_none, List.cons_append, List.nil_append, true_and, and_true, Nat.reduceAdd, Nat.reduceLeDiff, not_true_eq_false, not_false_eq_true, if_true, if_false, ite_true, ite_false, Int32.reduceLT, ite_not, eq_self, or_true, true_or, ite_self, reduceIte, B_X2_oneToMove_J1, hN1.1 h hh, e2, nI_xor]
        rw [show bI ((R.1 h).testBit l = true) = 1 from if_pos qb] at t2
        exact t2
      · simp only [qb, if_false, Bool.false_eq_true]
        simp +decide (disch := omega) only [↓EQA, CEA, LIA, NIA, Nat.lt_irrefl, Option.toList_some, Option.toList_none, List.cons_append, List.nil_append, true_and, and_true, Nat.reduceAdd, Nat.reduceLeDiff, not_true_eq_false, not_false_eq_true, if_true, if_false, ite_true, ite_false, Int32.reduceLT, ite_not, eq_self, or_true, true_or, ite_self, reduceIte, B_X2_oneToMove_J1, hN1.1 h hh, e2, nI_xor]
        refine t_hasRoom RK_now hT2 hN2 hR hh ?_
        simp +decide (disch := omega) only [↓EQA, CEA, LIA, NIA, Nat.lt_irrefl, Option.toList_some, Option.toList_none, List.cons_append, List.nil_append, true_and, and_true, Nat.reduceAdd, Nat.reduceLeDiff, not_true_eq_false, not_false_eq_true, if_true, if_false, ite_true, ite_false, Int32.reduceLT, ite_not, eq_self, or_true, true_or, ite_self, reduceIte, B_X2_oneToMove_J3, ite_not]
        rw [show bI ((R.1 h).testBit l = true) = 0 from if_neg qb] at hn two
        by_cases q2 : nI (pc5 (R.1 h)) < T 5 h
        · simp only [q2, if_true]
          exact two (by unfold omS; rw [if_pos (Or.inr q2)])
        · rw [if_neg (fun z => z.elim qb q2)] at hn
          simp only [q2, if_false]
          exact hn
  exact key (nL T) 0 (by omega) w0 R.1 .null ha0 hC0 hR.1
end Loads2
