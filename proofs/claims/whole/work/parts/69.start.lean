/-! ===== the reader's race and told ===== -/
abbrev ToldR (w : Mem) (T : Tv) : Prop := w.1 29 = T 0 ∧ w.1 30 = T 1 ∧ w.1 31 = T 2 ∧ w.1 32 = T 3 ∧ w.1 33 = T 4 ∧ w.1 34 = T 5 ∧ w.1 35 = T 6 ∧ w.1 36 = T 7 ∧ w.1 37 = T 8 ∧ w.1 38 = T 9 ∧ w.1 39 = T 10 ∧ w.1 40 = T 11 ∧ w.1 41 = T 12
theorem ToldR.ag {P : Nat → Nat → Prop} {w w1 : Mem} {T : Tv} (hT : ToldR w T) (h1 : Ag P w w1) (h : ∀ j i, 29 ≤ j → j ≤ 41 → ¬ P j i) : ToldR w1 T := by
  obtain ⟨a0, a1, a2, a3, a4, a5, a6, a7, a8, a9, a10, a11, a12⟩ := hT
  have r : ∀ j, 29 ≤ j → j ≤ 41 → w1.1 j = w.1 j := fun j q1 q2 => h1.row fun i => h j i q1 q2
  refine ⟨?_, ?_, ?_, ?_, ?_, ?_, ?_, ?_, ?_, ?_, ?_, ?_, ?_⟩ <;> rw [r _ (by decide) (by decide)] <;> assumption
section Start
variable {d : Nat} {w : Mem} {Q : Option Value → Mem → Prop} {T : Tv} {R : Rc} {h l : Nat}
theorem t_hasRoomS (hT : ToldR w T) (hC : RC w 42 43 R) (hR : ROK R) (hh : h < 4) (hQ : Q (some (.int (bI (nI (pc5 (R.1 h)) < T 5 h)))) w) : Cl (d + 2) m_X4_hasRoom [.ref 42, .int (nI h)] w Q := by
  refine Cl_of k_X4_hasRoom.1 (Nat.le_of_ble_eq_true rfl) (show Wp m_X4_hasRoom _ 0 _ 0 [.ref 42, .int (nI h)] [] _ from S_X4_hasRoom_0 _ _ _ ?_)
  simp +decide (disch := omega) only [↓EQA, CEA, LIA, NIA, Nat.lt_irrefl, Option.toList_some, Option.toList_none, List.cons_append, List.nil_append, true_and, and_true, Nat.reduceAdd, Nat.reduceLeDiff, not_true_eq_false, not_false_eq_true, if_true, if_false, ite_true, ite_false, Int32.reduceLT, ite_not, eq_self, or_true, true_or, ite_self, reduceIte, B_X4_hasRoom_0, hC.1 h hh]
  refine t_bitCount (hR.1 h hh) ?_
  simp +decide (disch := omega) only [↓EQA, CEA, LIA, NIA, Nat.lt_irrefl, Option.toList_some, Option.toList_none, List.cons_append, List.nil_append, true_and, and_true, Nat.reduceAdd, Nat.reduceLeDiff, not_true_eq_false, not_false_eq_true, if_true, if_false, ite_true, ite_false, Int32.reduceLT, ite_not, eq_self, or_true, true_or, ite_self, reduceIte, mrg, hT]
  simp +decide (disch := omega) only [↓EQA, CEA, LIA, NIA, Nat.lt_irrefl, Option.toList_some, Option.toList_none, List.cons_append, List.nil_append, true_and, and_true, Nat.reduceAdd, Nat.reduceLeDiff, not_true_eq_false, not_false_eq_true, if_true, if_false, ite_true, ite_false, Int32.reduceLT, ite_not, eq_self, or_true, true_or, ite_self, reduceIte, B_X4_hasRoom_J1]
  exact hQ
theorem t_placeOfS (hT : ToldR w T) (hZ : SZ T) (hC : RC w 42 43 R) (hR : ROK R) (hl : l < 5) (hQ : Q (some (.int (plI R (nH T) l))) w) : Cl (d + 1) m_X4_placeOf [.ref 42, .int (nI l)] w Q := by
  have hz := hZ.2
  unfold plI plc at hQ
  refine Cl_of k_X4_placeOf.1 (Nat.le_of_ble_eq_true rfl) (show Wp m_X4_placeOf _ 0 _ 0 [.ref 42, .int (nI l), .null] [] _ from S_X4_placeOf_0 _ _ _ ?_)
  simp +decide (disch := omega) only [↓EQA, CEA, LIA, NIA, Nat.lt_irrefl, Option.toList_some, Option.toList_none, List.cons_append, List.nil_append, true_and, and_true, Nat.reduceAdd, Nat.reduceLeDiff, not_true_eq_false, not_false_eq_true, if_true, if_false, ite_true, ite_false, Int32.reduceLT, ite_not, eq_self, or_true, true_or, ite_self, reduceIte, B_X4_placeOf_0]
  refine frst_loop (p := fun h => (R.1 h).testBit l) (n := nH T) (fun j => Wp m_X4_placeOf _ 0 Q 2 [.ref 42, .int (nI l), .int (nI j)] [] w) ?_ ?_ ?_
  · intro i hi hp he
    refine S_X4_placeOf_L1 _ _ _ ?_
    simp +decide (disch := omega) only [↓EQA, CEA, LIA, NIA, Nat.lt_irrefl, Option.toList_some, Option.toList_none, List.cons_append, List.nil_append, true_and, and_true, Nat.reduceAdd, Nat.reduceLeDiff, not_true_eq_false, not_false_eq_true, if_true, if_false, ite_true, ite_false, Int32.reduceLT, ite_not, eq_self, or_true, true_or, ite_self, reduceIte, B_X4_placeOf_L1, hT, hZ.1, hi, hC.1 i (by omega), bbN (hR.1 i (by omega)) hl, hp]
    rw [he, if_pos hi] at hQ
    exact hQ
  · intro i hi hp hd
    refine S_X4_placeOf_L1 _ _ _ ?_
    simp +decide (disch := omega) only [↓EQA, CEA, LIA, NIA, Nat.lt_irrefl, Option.toList_some, Option.toList_none, List.cons_append, List.nil_append, true_and, and_true, Nat.reduceAdd, Nat.reduceLeDiff, not_true_eq_false, not_false_eq_true, if_true, if_false, ite_true, ite_false, Int32.reduceLT, ite_not, eq_self, or_true, true_or, ite_self, reduceIte, B_X4_placeOf_L1, hT, hZ.1, hi, hC.1 i (by omega), bbN (hR.1 i (by omega)) hl, hp]
    exact hd
  · intro he
    refine S_X4_placeOf_L1 _ _ _ ?_
    simp +decide (disch := omega) only [↓EQA, CEA, LIA, NIA, Nat.lt_irrefl, Option.toList_some, Option.toList_none, List.cons_append, List.nil_append, true_and, and_true, Nat.reduceAdd, Nat.reduceLeDiff, not_true_eq_false, not_false_eq_true, if_true, if_false, ite_true, ite_false, Int32.reduceLT, ite_not, eq_self, or_true, true_or, ite_self, reduceIte, B_X4_placeOf_L1, hT, hZ.1]
    rw [he, if_neg (Nat.lt_irrefl _)] at hQ
    exact hQ
theorem put_loopS {pl : Int32} (hC : RC w 42 43 R) (hR : ROK R) (hl : l < 5) (hQ : ∀ w', Ag (fun j _ => j = 43) w w' → (∀ h, h < 4 → w'.1 43 h = nI (clb (R.1 h) l)) → Wp m_X4_put d 0 Q 2 [.ref 42, .int (nI l), .int pl, .int (nI 4)] [] w') : Wp m_X4_put d 0 Q 2 [.ref 42, .int (nI l), .int pl, .int (nI 0)] [] w := by
  have key : ∀ m j, j + m = 4 → ∀ w1, Ag (fun j _ => j = 43) w w1 → (∀ h, h < 4 → w1.1 43 h = nI (if h < j then clb (R.1 h) l else R.1 h)) → Wp m_X4_put d 0 Q 2 [.ref 42, .int (nI l), .int pl, .int (nI j)] [] w1 := by
    intro m
    induction m with
    | zero =>
      intro j hj w1 ha h7
      have : j = 4 := by omega
      subst this
      exact hQ w1 ha fun h hh => by rw [h7 h hh, if_pos hh]
    | succ m ih =>
      intro j hj w1 ha h7
      have hj4 : j < 4 := by omega
      have e7 := h7 j hj4
      rw [if_neg (Nat.lt_irrefl j)] at e7
      refine S_X4_put_L1 _ _ _ ?_
      simp +decide (disch := omega) only [↓EQA, CEA, LIA, NIA, Nat.lt_irrefl, Option.toList_some, Option.toList_none, List.cons_append, List.nil_append, true_and, and_true, Nat.reduceAdd, Nat.reduceLeDiff, not_true_eq_false, not_false_eq_true, if_true, if_false, ite_true, ite_false, Int32.reduceLT, ite_not, eq_self, or_true, true_or, ite_self, reduceIte, B_X4_put_L1, hj4, e7, clN (hR.1 j hj4) hl]
      refine ih (j + 1) (by omega) _ (ha.wI rfl) fun h hh => ?_
      rw [wI_get]
      by_cases e : h = j
      · subst e; rw [if_pos ⟨rfl, rfl⟩, if_pos (by omega)]
      · rw [if_neg (fun z => e z.2), h7 h hh]
        by_cases q : h < j
        · rw [if_pos q, if_pos (by omega)]
        · rw [if_neg q, if_neg (by omega)]
  exact key 4 0 rfl w Ag.rf fun h hh => by rw [if_neg (Nat.not_lt_zero _)]; exact hC.1 h hh
theorem t_put0S (hC : RC w 42 43 R) (hR : ROK R) (hl : l < 5) (hQ : ∀ w', Ag (fun j _ => j = 43) w w' → RC w' 42 43 (fun h => clb (R.1 h) l, R.2) → Q none w') : Cl (d + 1) m_X4_put [.ref 42, .int (nI l), .int (-2)] w Q := by
  refine Cl_of k_X4_put.1 (Nat.le_of_ble_eq_true rfl) (show Wp m_X4_put _ 0 _ 0 [.ref 42, .int (nI l), .int (-2), .null] [] _ from S_X4_put_0 _ _ _ ?_)
  simp +decide (disch := omega) only [↓EQA, CEA, LIA, NIA, Nat.lt_irrefl, Option.toList_some, Option.toList_none, List.cons_append, List.nil_append, true_and, and_true, Nat.reduceAdd, Nat.reduceLeDiff, not_true_eq_false, not_false_eq_true, if_true, if_false, ite_true, ite_false, Int32.reduceLT, ite_not, eq_self, or_true, true_or, ite_self, reduceIte, B_X4_put_0]
  refine put_loopS hC hR hl fun w' ha h7 => ?_
  refine S_X4_put_L1 _ _ _ ?_
  simp +decide (disch := omega) only [↓EQA, CEA, LIA, NIA, Nat.lt_irrefl, Option.toList_some, Option.toList_none, List.cons_append, List.nil_append, true_and, and_true, Nat.reduceAdd, Nat.reduceLeDiff, not_true_eq_false, not_false_eq_true, if_true, if_false, ite_true, ite_false, Int32.reduceLT, ite_not, eq_self, or_true, true_or, ite_self, reduceIte, B_X4_put_L1, B_X4_put_J1]
  obtain ⟨c1, c2⟩ := hC
  have e := ha.row (j := 42) (fun i z => by omega)
  exact hQ w' ha ⟨h7, by rw [e]; exact c2⟩
theorem t_put1S {g : Nat} (hC : RC w 42 43 R) (hR : ROK R) (hl : l < 5) (hg : g < 4) (hQ : ∀ w', Ag (fun j _ => j = 43) w w' → RC w' 42 43 (fun h => if h = g then stb (clb (R.1 h) l) l else clb (R.1 h) l, R.2) → Q none w') : Cl (d + 1) m_X4_put [.ref 42, .int (nI l), .int (nI g)] w Q := by
  refine Cl_of k_X4_put.1 (Nat.le_of_ble_eq_true rfl) (show Wp m_X4_put _ 0 _ 0 [.ref 42, .int (nI l), .int (nI g), .null] [] _ from S_X4_put_0 _ _ _ ?_)
  simp +decide (disch := omega) only [↓EQA, CEA, LIA, NIA, Nat.lt_irrefl, Option.toList_some, Option.toList_none, List.cons_append, List.nil_append, true_and, and_true, Nat.reduceAdd, Nat.reduceLeDiff, not_true_eq_false, not_false_eq_true, if_true, if_false, ite_true, ite_false, Int32.reduceLT, ite_not, eq_self, or_true, true_or, ite_self, reduceIte, B_X4_put_0]
  refine put_loopS hC hR hl fun w' ha h7 => ?_
  refine S_X4_put_L1 _ _ _ ?_
  simp +decide (disch := omega) only [↓EQA, CEA, LIA, NIA, Nat.lt_irrefl, Option.toList_some, Option.toList_none, List.cons_append, List.nil_append, true_and, and_true, Nat.reduceAdd, Nat.reduceLeDiff, not_true_eq_false, not_false_eq_true, if_true, if_false, ite_true, ite_false, Int32.reduceLT, ite_not, eq_self, or_true, true_or, ite_self, reduceIte, B_X4_put_L1, hg, h7 g hg, stN (clb_lt (hR.1 g hg) hl) hl, B_X4_put_J1]
  obtain ⟨c1, c2⟩ := hC
  have e := ha.row (j := 42) (fun i z => by omega)
  refine hQ _ (ha.wI rfl) ⟨fun h hh => ?_, ?_⟩
  · rw [wI_get]
    by_cases q : h = g
    · subst q; rw [if_pos ⟨rfl, rfl⟩]; show _ = nI (if h = h then _ else _); rw [if_pos rfl]
    · rw [if_neg (fun z => q z.2)]; show _ = nI (if h = g then _ else _); rw [if_neg q]; exact h7 h hh
  · rw [wI_ne (by decide), e]; exact c2
theorem t_takeLane0S (hC : RC w 42 43 R) (hR : ROK R) (hh : h < 4) (hQ : Q none (wI w 42 5 (nI (clb R.2.2.2.2 h)))) : Cl (d + 1) m_X4_takeLane [.ref 42, .int (nI h), .int 0] w Q := by
  refine Cl_of k_X4_takeLane.1 (Nat.le_of_ble_eq_true rfl) (show Wp m_X4_takeLane _ 0 _ 0 [.ref 42, .int (nI h), .int 0] [] _ from S_X4_takeLane_0 _ _ _ ?_)
  simp +decide (disch := omega) only [↓EQA, CEA, LIA, NIA, Nat.lt_irrefl, Option.toList_some, Option.toList_none, List.cons_append, List.nil_append, true_and, and_true, Nat.reduceAdd, Nat.reduceLeDiff, not_true_eq_false, not_false_eq_true, if_true, if_false, ite_true, ite_false, Int32.reduceLT, ite_not, eq_self, or_true, true_or, ite_self, reduceIte, B_X4_takeLane_0, hC.2.2.2.2]
  rw [(tl16 ⟨_, hR.2.2.2.2⟩ ⟨h, hh⟩).1]
  exact hQ
theorem t_takeLane1S (hC : RC w 42 43 R) (hR : ROK R) (hh : h < 4) (hQ : Q none (wI w 42 5 (nI (stb R.2.2.2.2 h)))) : Cl (d + 1) m_X4_takeLane [.ref 42, .int (nI h), .int 1] w Q := by
  refine Cl_of k_X4_takeLane.1 (Nat.le_of_ble_eq_true rfl) (show Wp m_X4_takeLane _ 0 _ 0 [.ref 42, .int (nI h), .int 1] [] _ from S_X4_takeLane_0 _ _ _ ?_)
  simp +decide (disch := omega) only [↓EQA, CEA, LIA, NIA, Nat.lt_irrefl, Option.toList_some, Option.toList_none, List.cons_append, List.nil_append, true_and, and_true, Nat.reduceAdd, Nat.reduceLeDiff, not_true_eq_false, not_false_eq_true, if_true, if_false, ite_true, ite_false, Int32.reduceLT, ite_not, eq_self, or_true, true_or, ite_self, reduceIte, B_X4_takeLane_0, hC.2.2.2.2]
  rw [(tl16 ⟨_, hR.2.2.2.2⟩ ⟨h, hh⟩).2.1]
  exact hQ
theorem t_clearS (hQ : ∀ w', Ag (fun j _ => j = 42 ∨ j = 43) w w' → RC w' 42 43 (fun _ => 0, 0, 0, 0, 0) → Q none w') : Cl (d + 1) m_X4_clear [.ref 42] w Q := by
  refine Cl_of k_X4_clear.1 (Nat.le_of_ble_eq_true rfl) (show Wp m_X4_clear _ 0 _ 0 [.ref 42, .null] [] _ from S_X4_clear_0 _ _ _ ?_)
  simp +decide (disch := omega) only [↓EQA, CEA, LIA, NIA, Nat.lt_irrefl, Option.toList_some, Option.toList_none, List.cons_append, List.nil_append, true_and, and_true, Nat.reduceAdd, Nat.reduceLeDiff, not_true_eq_false, not_false_eq_true, if_true, if_false, ite_true, ite_false, Int32.reduceLT, ite_not, eq_self, or_true, true_or, ite_self, reduceIte, B_X4_clear_0]
  have key : ∀ m j, j + m = 4 → ∀ w1, Ag (fun j _ => j = 42 ∨ j = 43) w w1 → (∀ h, h < j → w1.1 43 h = 0) → Wp m_X4_clear d 0 Q 2 [.ref 42, .int (nI j)] [] w1 := by
    intro m
    induction m with
    | zero =>
      intro j hj w1 ha h7
      have : j = 4 := by omega
      subst this
      refine S_X4_clear_L1 _ _ _ ?_
      simp +decide (disch := omega) only [↓EQA, CEA, LIA, NIA, Nat.lt_irrefl, Option.toList_some, Option.toList_none, List.cons_append, List.nil_append, true_and, and_true, Nat.reduceAdd, Nat.reduceLeDiff, not_true_eq_false, not_false_eq_true, if_true, if_false, ite_true, ite_false, Int32.reduceLT, ite_not, eq_self, or_true, true_or, ite_self, reduceIte, B_X4_clear_L1]
      refine hQ _ ((((ha.wI (Or.inl rfl)).wI (Or.inl rfl)).wI (Or.inl rfl)).wI (Or.inl rfl)) ⟨fun h hh => ?_, ?_, ?_, ?_, ?_⟩
      · simp only [wI_get, show ¬ (43 : Nat) = 42 by decide, false_and, if_false]; exact h7 h hh
      · simp [wI_get, nI_0]
      · simp [wI_get, nI_0]
      · simp [wI_get, nI_0]
      · simp [wI_get, nI_0]
    | succ m ih =>
      intro j hj w1 ha h7
      have hj4 : j < 4 := by omega
      refine S_X4_clear_L1 _ _ _ ?_
      simp +decide (disch := omega) only [↓EQA, CEA, LIA, NIA, Nat.lt_irrefl, Option.toList_some, Option.toList_none, List.cons_append, List.nil_append, true_and, and_true, Nat.reduceAdd, Nat.reduceLeDiff, not_true_eq_false, not_false_eq_true, if_true, if_false, ite_true, ite_false, Int32.reduceLT, ite_not, eq_self, or_true, true_or, ite_self, reduceIte, B_X4_clear_L1, hj4]
      refine ih (j + 1) (by omega) _ (ha.wI (Or.inr rfl)) fun h hh => ?_
      rw [wI_get]
      by_cases e : h = j
      · subst e; rw [if_pos ⟨rfl, rfl⟩]
      · rw [if_neg (fun z => e z.2)]; exact h7 h (by omega)
  exact key 4 0 rfl w Ag.rf fun h hh => absurd hh (Nat.not_lt_zero _)
theorem t_friendsOfS (hT : ToldR w T) (hZ : SZ T) (hQ : Q (some (.int (FO T l))) w) : Cl (d + 1) m_X9_friendsOf [.ref 28, .int (nI l)] w Q := by
  have hz := hZ.2
  refine Cl_of k_X9_friendsOf.1 (Nat.le_of_ble_eq_true rfl) (show Wp m_X9_friendsOf _ 0 _ 0 [.ref 28, .int (nI l), .null, .null] [] _ from S_X9_friendsOf_0 _ _ _ ?_)
  simp +decide (disch := omega) only [↓EQA, CEA, LIA, NIA, Nat.lt_irrefl, Option.toList_some, Option.toList_none, List.cons_append, List.nil_append, true_and, and_true, Nat.reduceAdd, Nat.reduceLeDiff, not_true_eq_false, not_false_eq_true, if_true, if_false, ite_true, ite_false, Int32.reduceLT, ite_not, eq_self, or_true, true_or, ite_self, reduceIte, B_X9_friendsOf_0]
  refine fld_loop (f := fun i a => if bb (T 8 i) (nI l) then a ||| T 8 i else a) (n := nF T) (fun j a => Wp m_X9_friendsOf _ 0 Q 4 [.ref 28, .int (nI l), .int a, .int (nI j)] [] w) (fun j hj hd => ?_) ?_
  · refine S_X9_friendsOf_L1 _ _ _ ?_
    simp +decide (disch := omega) only [↓EQA, CEA, LIA, NIA, Nat.lt_irrefl, Option.toList_some, Option.toList_none, List.cons_append, List.nil_append, true_and, and_true, Nat.reduceAdd, Nat.reduceLeDiff, not_true_eq_false, not_false_eq_true, if_true, if_false, ite_true, ite_false, Int32.reduceLT, ite_not, eq_self, or_true, true_or, ite_self, reduceIte, B_X9_friendsOf_L1, B_X9_friendsOf_J1, hT, hZ.1, hj]
    (try dsimp only at hd); split <;> rename_i hb <;> simp only [hb, decide_true, decide_false, if_true, if_false, Bool.false_eq_true, decide_not, Bool.not_true, Bool.not_false] at hd <;> exact hd
  · refine S_X9_friendsOf_L1 _ _ _ ?_
    simp +decide (disch := omega) only [↓EQA, CEA, LIA, NIA, Nat.lt_irrefl, Option.toList_some, Option.toList_none, List.cons_append, List.nil_append, true_and, and_true, Nat.reduceAdd, Nat.reduceLeDiff, not_true_eq_false, not_false_eq_true, if_true, if_false, ite_true, ite_false, Int32.reduceLT, ite_not, eq_self, or_true, true_or, ite_self, reduceIte, B_X9_friendsOf_L1, hT, hZ.1]
    exact hQ
theorem t_becomeN (hC : RC w 42 43 R) (hQ : ∀ w', Ag (fun j _ => j = 16 ∨ j = 17) w w' → RC w' 16 17 R → Q none w') : Cl (d + 1) m_X4_become [.ref 16, .ref 42] w Q := by
  obtain ⟨c1, c2, c3, c4, c5⟩ := hC
  refine Cl_of k_X4_become.1 (Nat.le_of_ble_eq_true rfl) (show Wp m_X4_become _ 0 _ 0 [.ref 16, .ref 42] [] _ from S_X4_become_0 _ _ _ ?_)
  simp +decide (disch := omega) only [↓EQA, CEA, LIA, NIA, Nat.lt_irrefl, Option.toList_some, Option.toList_none, List.cons_append, List.nil_append, true_and, and_true, Nat.reduceAdd, Nat.reduceLeDiff, not_true_eq_false, not_false_eq_true, if_true, if_false, ite_true, ite_false, Int32.reduceLT, ite_not, eq_self, or_true, true_or, ite_self, reduceIte, B_X4_become_0]
  refine ⟨cp4 rfl rfl, ?_⟩
  refine hQ _ (((((Ag.rf.cpI (fun i _ _ => Or.inr rfl)).wI (Or.inl rfl)).wI (Or.inl rfl)).wI (Or.inl rfl)).wI (Or.inl rfl)) ⟨fun h hh => ?_, ?_, ?_, ?_, ?_⟩
  · simp only [wI_get, show ¬ (17 : Nat) = 16 by decide, false_and, if_false, cpI_at hh]; exact c1 h hh
  · simp [wI_get, cpI_out, c2]
  · simp [wI_get, cpI_out, c3]
  · simp [wI_get, cpI_out, c4]
  · simp [wI_get, cpI_out, c5]
end Start
