/-! ===== rain ===== -/
section Rain
variable {d : Nat} {w : Mem} {Q : Option Value → Mem → Prop} {T : Tv} {R : Rc} {n h : Nat}
def WRs (T : Tv) (x : Int32) : Int64 := fld (fun k a => a * (if bb x (nI k) then (T 0 3).toInt64 else (100 - T 0 3).toInt64)) (nB T) 1
theorem t_weightOfRain {x : Int32} (hT : Told w T) (hZ : SZ T) (hQ : Q (some (.long (WRs T x))) w) : Cl (d + 1) m_X5_weightOfRain [.ref 55, .int x] w Q := by
  have hz := hZ.2
  refine Cl_of k_X5_weightOfRain.1 (Nat.le_of_ble_eq_true rfl) (show Wp m_X5_weightOfRain _ 0 _ 0 [.ref 55, .int x, .null, .null, .null] [] _ from S_X5_weightOfRain_0 _ _ _ ?_)
  simp +decide (disch := omega) only [↓EQA, CEA, LIA, NIA, Nat.lt_irrefl, Option.toList_some, Option.toList_none, List.cons_append, List.nil_append, true_and, and_true, Nat.reduceAdd, Nat.reduceLeDiff, not_true_eq_false, not_false_eq_true, if_true, if_false, ite_true, ite_false, Int32.reduceLT, ite_not, eq_self, or_true, true_or, ite_self, reduceIte, B_X5_weightOfRain_0]
  refine fld_loop (f := fun k a => a * (if bb x (nI k) then (T 0 3).toInt64 else (100 - T 0 3).toInt64)) (n := nB T) (fun j a => Wp m_X5_weightOfRain _ 0 Q 5 [.ref 55, .int x, .long a, .null, .int (nI j)] [] w) (fun j hj hd => ?_) ?_
  · refine S_X5_weightOfRain_L1 _ _ _ ?_
    simp +decide (disch := omega) only [↓EQA, CEA, LIA, NIA, Nat.lt_irrefl, Option.toList_some, Option.toList_none, List.cons_append, List.nil_append, true_and, and_true, Nat.reduceAdd, Nat.reduceLeDiff, not_true_eq_false, not_false_eq_true, if_true, if_false, ite_true, ite_false, Int32.reduceLT, ite_not, eq_self, or_true, true_or, ite_self, reduceIte, B_X5_weightOfRain_L1, B_X5_weightOfRain_J1, hT, hZ.1, hj]
    (try dsimp only at hd); split <;> rename_i hb <;> simp only [hb, decide_true, decide_false, if_true, if_false, Bool.false_eq_true, decide_not, Bool.not_true, Bool.not_false] at hd <;> exact hd
  · refine S_X5_weightOfRain_L1 _ _ _ ?_
    simp +decide (disch := omega) only [↓EQA, CEA, LIA, NIA, Nat.lt_irrefl, Option.toList_some, Option.toList_none, List.cons_append, List.nil_append, true_and, and_true, Nat.reduceAdd, Nat.reduceLeDiff, not_true_eq_false, not_false_eq_true, if_true, if_false, ite_true, ite_false, Int32.reduceLT, ite_not, eq_self, or_true, true_or, ite_self, reduceIte, B_X5_weightOfRain_L1, hT, hZ.1]
    exact hQ
theorem t_part0 (hQ : Q (some (.long (w.2 55 4))) w) : Cl (d + 1) m_X5_part [.ref 55, .int 0] w Q := by
  refine Cl_of k_X5_part.1 (Nat.le_of_ble_eq_true rfl) (show Wp m_X5_part _ 0 _ 0 [.ref 55, .int 0] [] _ from S_X5_part_0 _ _ _ ?_)
  simp +decide (disch := omega) only [↓EQA, CEA, LIA, NIA, Nat.lt_irrefl, Option.toList_some, Option.toList_none, List.cons_append, List.nil_append, true_and, and_true, Nat.reduceAdd, Nat.reduceLeDiff, not_true_eq_false, not_false_eq_true, if_true, if_false, ite_true, ite_false, Int32.reduceLT, ite_not, eq_self, or_true, true_or, ite_self, reduceIte, B_X5_part_0, B_X5_part_J1]
  exact hQ
theorem t_part1 (hQ : Q (some (.long (w.2 55 5))) w) : Cl (d + 1) m_X5_part [.ref 55, .int 1] w Q := by
  refine Cl_of k_X5_part.1 (Nat.le_of_ble_eq_true rfl) (show Wp m_X5_part _ 0 _ 0 [.ref 55, .int 1] [] _ from S_X5_part_0 _ _ _ ?_)
  simp +decide (disch := omega) only [↓EQA, CEA, LIA, NIA, Nat.lt_irrefl, Option.toList_some, Option.toList_none, List.cons_append, List.nil_append, true_and, and_true, Nat.reduceAdd, Nat.reduceLeDiff, not_true_eq_false, not_false_eq_true, if_true, if_false, ite_true, ite_false, Int32.reduceLT, ite_not, eq_self, or_true, true_or, ite_self, reduceIte, B_X5_part_0, B_X5_part_J1]
  exact hQ
theorem t_beginRaces {x : Int32} (hC : RC w 16 17 R) (hQ : ∀ w', Ag (fun j i => j = 18 ∨ j = 19 ∨ (j = 55 ∧ i = 6)) w w' → RC w' 18 19 R → w'.1 55 6 = x → Q none w') : Cl (d + 2) m_X5_beginRaces [.ref 55, .int x] w Q := by
  refine Cl_of k_X5_beginRaces.1 (Nat.le_of_ble_eq_true rfl) (show Wp m_X5_beginRaces _ 0 _ 0 [.ref 55, .int x] [] _ from S_X5_beginRaces_0 _ _ _ ?_)
  simp +decide (disch := omega) only [↓EQA, CEA, LIA, NIA, Nat.lt_irrefl, Option.toList_some, Option.toList_none, List.cons_append, List.nil_append, true_and, and_true, Nat.reduceAdd, Nat.reduceLeDiff, not_true_eq_false, not_false_eq_true, if_true, if_false, ite_true, ite_false, Int32.reduceLT, ite_not, eq_self, or_true, true_or, ite_self, reduceIte, B_X5_beginRaces_0]
  refine t_become RK_trial RK_now (by decide) hC fun w0 ha0 hC0 => ?_
  simp +decide (disch := omega) only [↓EQA, CEA, LIA, NIA, Nat.lt_irrefl, Option.toList_some, Option.toList_none, List.cons_append, List.nil_append, true_and, and_true, Nat.reduceAdd, Nat.reduceLeDiff, not_true_eq_false, not_false_eq_true, if_true, if_false, ite_true, ite_false, Int32.reduceLT, ite_not, eq_self, or_true, true_or, ite_self, reduceIte]
  exact hQ _ ((ha0.wk fun j i z => z.elim Or.inl fun z => Or.inr (Or.inl z)).wI (Or.inr (Or.inr ⟨rfl, rfl⟩))) hC0 (by simp [wI])
theorem t_beginRain (hT : Told w T) (hZ : SZ T) (hC : RC w 16 17 R) (hQ : ∀ w', Ag (fun j i => j = 18 ∨ j = 19 ∨ (j = 55 ∧ (i = 4 ∨ i = 5))) w w' → RC w' 18 19 R → w'.2 55 4 = 0 → w'.2 55 5 = lN (100 ^ nB T) → Q none w') : Cl (d + 2) m_X5_begin [.ref 55] w Q := by
  have hz := hZ.2
  refine Cl_of k_X5_begin.1 (Nat.le_of_ble_eq_true rfl) (show Wp m_X5_begin _ 0 _ 0 [.ref 55, .null] [] _ from S_X5_begin_0 _ _ _ ?_)
  simp +decide (disch := omega) only [↓EQA, CEA, LIA, NIA, Nat.lt_irrefl, Option.toList_some, Option.toList_none, List.cons_append, List.nil_append, true_and, and_true, Nat.reduceAdd, Nat.reduceLeDiff, not_true_eq_false, not_false_eq_true, if_true, if_false, ite_true, ite_false, Int32.reduceLT, ite_not, eq_self, or_true, true_or, ite_self, reduceIte, B_X5_begin_0]
  refine t_become RK_trial RK_now (by decide) hC fun w0 ha0 hC0 => ?_
  simp +decide (disch := omega) only [↓EQA, CEA, LIA, NIA, Nat.lt_irrefl, Option.toList_some, Option.toList_none, List.cons_append, List.nil_append, true_and, and_true, Nat.reduceAdd, Nat.reduceLeDiff, not_true_eq_false, not_false_eq_true, if_true, if_false, ite_true, ite_false, Int32.reduceLT, ite_not, eq_self, or_true, true_or, ite_self, reduceIte]
  have key : ∀ m j, j + m = nB T → ∀ w1, Ag (fun j i => j = 18 ∨ j = 19 ∨ (j = 55 ∧ (i = 4 ∨ i = 5))) w w1 → RC w1 18 19 R → w1.2 55 4 = 0 → w1.2 55 5 = lN (100 ^ j) → Wp m_X5_begin (d + 1) 0 Q 23 [.ref 55, .int (nI j)] [] w1 := by
    intro m
    induction m with
    | zero =>
      intro j hj w1 ha hC1 h4 h5
      have : j = nB T := by omega
      subst this
      have hT1 : Told w1 T := hT.ag ha (fun a b p q z => by omega)
      refine S_X5_begin_L1 _ _ _ ?_
      simp +decide (disch := omega) only [↓EQA, CEA, LIA, NIA, Nat.lt_irrefl, Option.toList_some, Option.toList_none, List.cons_append, List.nil_append, true_and, and_true, Nat.reduceAdd, Nat.reduceLeDiff, not_true_eq_false, not_false_eq_true, if_true, if_false, ite_true, ite_false, Int32.reduceLT, ite_not, eq_self, or_true, true_or, ite_self, reduceIte, B_X5_begin_L1, hT1, hZ.1]
      exact hQ w1 ha hC1 h4 h5
    | succ m ih =>
      intro j hj w1 ha hC1 h4 h5
      have hj1 : j < nB T := by omega
      have hT1 : Told w1 T := hT.ag ha (fun a b p q z => by omega)
      refine S_X5_begin_L1 _ _ _ ?_
      simp +decide (disch := omega) only [↓EQA, CEA, LIA, NIA, Nat.lt_irrefl, Option.toList_some, Option.toList_none, List.cons_append, List.nil_append, true_and, and_true, Nat.reduceAdd, Nat.reduceLeDiff, not_true_eq_false, not_false_eq_true, if_true, if_false, ite_true, ite_false, Int32.reduceLT, ite_not, eq_self, or_true, true_or, ite_self, reduceIte, B_X5_begin_L1, hT1, hZ.1, hj1, h5]
      refine ih (j + 1) (by omega) _ (ha.wL (Or.inr (Or.inr ⟨rfl, Or.inr rfl⟩))) hC1 ?_ ?_
      · rw [← h4]; simp [wL]
      · have e : lN (100 ^ j) * 100 = lN (100 ^ (j + 1)) := by rw [Nat.pow_succ]; exact lN_mul _ 100
        rw [← e]; simp [wL]
  refine key (nB T) 0 (by omega) _ (((ha0.wk fun j i z => z.elim Or.inl fun z => Or.inr (Or.inl z)).wL (Or.inr (Or.inr ⟨rfl, Or.inl rfl⟩))).wL (Or.inr (Or.inr ⟨rfl, Or.inr rfl⟩))) hC0 (by simp [wL]) (by simp [wL]; rfl)
def drS (T : Tv) (k : Nat) (a : Int32 × Int32) : Int32 × Int32 := ((75 * a.1 + 74 - (75 * a.1 + 74) / 65537 * 65537), if (75 * a.1 + 74 - (75 * a.1 + 74) / 65537 * 65537) - (75 * a.1 + 74 - (75 * a.1 + 74) / 65537 * 65537) / 100 * 100 < T 0 3 then a.2 ||| (1 <<< (nI k &&& 31)) else a.2)
def drF (T : Tv) (x : Int32) (n : Nat) : Int32 × Int32 := fld (drS T) n (x, 0)
theorem t_drawRain (hT : Told w T) (hZ : SZ T) (hQ : ∀ w', Ag (fun j i => (j = 18 ∧ i = 3) ∨ (j = 55 ∧ i = 6)) w w' → w'.1 55 6 = (drF T (w.1 55 6) (nB T)).1 → w'.1 18 3 = (drF T (w.1 55 6) (nB T)).2 → Q none w') : Cl (d + 1) m_X5_drawRain [.ref 55] w Q := by
  have hz := hZ.2
  refine Cl_of k_X5_drawRain.1 (Nat.le_of_ble_eq_true rfl) (show Wp m_X5_drawRain _ 0 _ 0 [.ref 55, .null] [] _ from S_X5_drawRain_0 _ _ _ ?_)
  simp +decide (disch := omega) only [↓EQA, CEA, LIA, NIA, Nat.lt_irrefl, Option.toList_some, Option.toList_none, List.cons_append, List.nil_append, true_and, and_true, Nat.reduceAdd, Nat.reduceLeDiff, not_true_eq_false, not_false_eq_true, if_true, if_false, ite_true, ite_false, Int32.reduceLT, ite_not, eq_self, or_true, true_or, ite_self, reduceIte, B_X5_drawRain_0]
  have key : ∀ m j, j + m = nB T → ∀ w1, Ag (fun j i => (j = 18 ∧ i = 3) ∨ (j = 55 ∧ i = 6)) w w1 → w1.1 55 6 = (drF T (w.1 55 6) j).1 → w1.1 18 3 = (drF T (w.1 55 6) j).2 → Wp m_X5_drawRain d 0 Q 10 [.ref 55, .int (nI j)] [] w1 := by
    intro m
    induction m with
    | zero =>
      intro j hj w1 ha h6 h3
      have : j = nB T := by omega
      subst this
      have hT1 : Told w1 T := hT.ag ha (fun a b p q z => by omega)
      refine S_X5_drawRain_L1 _ _ _ ?_
      simp +decide (disch := omega) only [↓EQA, CEA, LIA, NIA, Nat.lt_irrefl, Option.toList_some, Option.toList_none, List.cons_append, List.nil_append, true_and, and_true, Nat.reduceAdd, Nat.reduceLeDiff, not_true_eq_false, not_false_eq_true, if_true, if_false, ite_true, ite_false, Int32.reduceLT, ite_not, eq_self, or_true, true_or, ite_self, reduceIte, B_X5_drawRain_L1, hT1, hZ.1]
      exact hQ w1 ha h6 h3
    | succ m ih =>
      intro j hj w1 ha h6 h3
      have hj1 : j < nB T := by omega
      have hT1 : Told w1 T := hT.ag ha (fun a b p q z => by omega)
      have es : drF T (w.1 55 6) (j + 1) = drS T j (drF T (w.1 55 6) j) := rfl
      generalize drF T (w.1 55 6) j = a at h6 h3 es
      have ha2 := ha.wI (k := 55) (p := 6) (v := (75 * a.1 + 74 - (75 * a.1 + 74) / 65537 * 65537)) (Or.inr ⟨rfl, rfl⟩)
      have hT2 : Told (wI w1 55 6 (75 * a.1 + 74 - (75 * a.1 + 74) / 65537 * 65537)) T := hT.ag ha2 (fun a b p q z => by omega)
      have g6 : (wI w1 55 6 (75 * a.1 + 74 - (75 * a.1 + 74) / 65537 * 65537)).1 55 6 = (75 * a.1 + 74 - (75 * a.1 + 74) / 65537 * 65537) := by simp [wI]
      have g3 : (wI w1 55 6 (75 * a.1 + 74 - (75 * a.1 + 74) / 65537 * 65537)).1 18 3 = a.2 := by rw [wI_ne (by decide)]; exact h3
      refine S_X5_drawRain_L1 _ _ _ ?_
      simp +decide (disch := omega) only [↓EQA, CEA, LIA, NIA, Nat.lt_irrefl, Option.toList_some, Option.toList_none, List.cons_append, List.nil_append, true_and, and_true, Nat.reduceAdd, Nat.reduceLeDiff, not_true_eq_false, not_false_eq_true, if_true, if_false, ite_true, ite_false, Int32.reduceLT, ite_not, eq_self, or_true, true_or, ite_self, reduceIte, B_X5_drawRain_L1, B_X5_drawRain_J1, hT1, hZ.1, hj1, h6, g6, hT2, g3]
      by_cases q : (75 * a.1 + 74 - (75 * a.1 + 74) / 65537 * 65537) - (75 * a.1 + 74 - (75 * a.1 + 74) / 65537 * 65537) / 100 * 100 < T 0 3
      · first | rw [if_pos q] | rw [if_neg (fun z => z q)] | skip
        refine ih (j + 1) (by omega) _ (ha2.wI (Or.inl ⟨rfl, rfl⟩)) ?_ ?_
        · rw [es, wI_ne (by decide)]; exact g6
        · rw [es]; simp [wI, drS, q]
      · first | rw [if_neg q] | rw [if_pos q] | skip
        refine ih (j + 1) (by omega) _ ha2 ?_ ?_
        · rw [es]; exact g6
        · rw [es, g3]; simp [drS, q]
  exact key (nB T) 0 (by omega) _ (Ag.rf.wI (Or.inl ⟨rfl, rfl⟩)) (by simp [wI]; rfl) (by simp [wI]; rfl)
end Rain
