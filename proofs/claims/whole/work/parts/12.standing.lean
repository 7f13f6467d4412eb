/-! what changes: all places but those of P are as they were -/
def Ag (P : Nat → Nat → Prop) (w w' : Mem) : Prop := ∀ j i, ¬ P j i → w'.1 j i = w.1 j i ∧ w'.2 j i = w.2 j i
theorem Ag.rf {P : Nat → Nat → Prop} {w : Mem} : Ag P w w := fun _ _ _ => ⟨rfl, rfl⟩
theorem Ag.tr {P : Nat → Nat → Prop} {w w1 w2 : Mem} (h1 : Ag P w w1) (h2 : Ag P w1 w2) : Ag P w w2 := fun j i h => ⟨(h2 j i h).1.trans (h1 j i h).1, (h2 j i h).2.trans (h1 j i h).2⟩
theorem Ag.wk {P P' : Nat → Nat → Prop} {w w1 : Mem} (h1 : Ag P w w1) (h : ∀ j i, P j i → P' j i) : Ag P' w w1 := fun j i q => h1 j i fun z => q (h j i z)
theorem Ag.wI {P : Nat → Nat → Prop} {w w1 : Mem} {k p : Nat} {v : Int32} (h1 : Ag P w w1) (h : P k p) : Ag P w (wI w1 k p v) := by
  intro j i q
  refine ⟨?_, (h1 j i q).2⟩
  simp only [Jvm.Pilot.@@N@@.wI]
  split
  · next e => obtain ⟨rfl, rfl⟩ := e; exact absurd h q
  · exact (h1 j i q).1
theorem Ag.wL {P : Nat → Nat → Prop} {w w1 : Mem} {k p : Nat} {v : Int64} (h1 : Ag P w w1) (h : P k p) : Ag P w (wL w1 k p v) := by
  intro j i q
  refine ⟨(h1 j i q).1, ?_⟩
  simp only [Jvm.Pilot.@@N@@.wL]
  split
  · next e => obtain ⟨rfl, rfl⟩ := e; exact absurd h q
  · exact (h1 j i q).2
theorem Ag.row {P : Nat → Nat → Prop} {w w1 : Mem} (h1 : Ag P w w1) {j : Nat} (h : ∀ i, ¬ P j i) : w1.1 j = w.1 j := funext fun i => (h1 j i (h i)).1
theorem Ag.rowL {P : Nat → Nat → Prop} {w w1 : Mem} (h1 : Ag P w w1) {j : Nat} (h : ∀ i, ¬ P j i) : w1.2 j = w.2 j := funext fun i => (h1 j i (h i)).2
theorem Told.ag {P : Nat → Nat → Prop} {w w1 : Mem} {T : Tv} (hT : Told w T) (h1 : Ag P w w1) (h : ∀ j i, 3 ≤ j → j ≤ 15 → ¬ P j i) : Told w1 T := by
  obtain ⟨a0, a1, a2, a3, a4, a5, a6, a7, a8, a9, a10, a11, a12⟩ := hT
  have r : ∀ j, 3 ≤ j → j ≤ 15 → w1.1 j = w.1 j := fun j q1 q2 => h1.row fun i => h j i q1 q2
  refine ⟨?_, ?_, ?_, ?_, ?_, ?_, ?_, ?_, ?_, ?_, ?_, ?_, ?_⟩ <;> rw [r _ (by decide) (by decide)] <;> assumption
theorem RV.ag {P : Nat → Nat → Prop} {w w1 : Mem} {k c : Nat} {V : Vw} (hV : RV w k c V) (h1 : Ag P w w1) (h : ∀ i, ¬ P k i) (h' : ∀ i, ¬ P c i) : RV w1 k c V := by
  have e1 := h1.row h
  have e2 := h1.row h'
  obtain ⟨a0, a1, a2, a3, a4⟩ := hV
  exact ⟨fun x y z u => by rw [e2]; exact a0 x y z u, by rw [e1]; exact a1, fun x y => by rw [e1]; exact a2 x y, fun x y => by rw [e1]; exact a3 x y, fun x y => by rw [e1]; exact a4 x y⟩
theorem fld_loopS {α : Type} {f : Nat → α → α} {s n : Nat} {a : α} (hsn : s ≤ n) (head : Nat → α → Prop) (hs : ∀ j, s ≤ j → j < n → head (j + 1) (f j (fld f j a)) → head j (fld f j a)) (he : head n (fld f n a)) : head s (fld f s a) := by
  have key : ∀ i j, j + i = n → s ≤ j → head j (fld f j a) := by
    intro i
    induction i with
    | zero => intro j hj _; have : j = n := by omega
              subst this; exact he
    | succ i ih => intro j hj hs9; exact hs j hs9 (by omega) (ih (j + 1) (by omega) (by omega))
  exact key (n - s) s (by omega) (Nat.le_refl _)
/-! standings: n totals X, who is lit -/
def fsX (X : Nat → Int32) (n : Nat) : Nat := fld (fun h f => if X h < X f then h else f) n 0
def outX (X : Nat → Int32) (n : Nat) (L : Nat → Bool) (h : Nat) : Bool := decide (¬ h = fsX X n) && L h
def befX (X : Nat → Int32) (n : Nat) (L : Nat → Bool) (g h : Nat) : Bool := if outX X n L g = outX X n L h then decide (X g < X h) || (decide (X g = X h) && decide (g < h)) else outX X n L h
def rkX (X : Nat → Int32) (n : Nat) (L : Nat → Bool) (h : Nat) : Nat := cnt (fun g => befX X n L g h) n
theorem fsX_lt (X : Nat → Int32) (n : Nat) (h : 1 ≤ n) : fsX X n < n := by
  have key : ∀ m, fld (fun h f => if X h < X f then h else f) m 0 ≤ m - 1 := by
    intro m
    induction m with
    | zero => exact Nat.le_refl 0
    | succ m ih =>
      show (if X m < X _ then m else _) ≤ m
      split
      · exact Nat.le_refl m
      · exact Nat.le_trans ih (by omega)
  have := key n
  unfold fsX
  omega
/-- the cells 20, 21 hold a standing -/
abbrev STD (w : Mem) (X : Nat → Int32) (n : Nat) (L : Nat → Bool) : Prop := w.1 20 1 = nI n ∧ (∀ h, h < n → w.1 21 h = X h) ∧ w.1 20 3 = nI (fsX X n) ∧ ∀ h, h < 4 → bb (w.1 20 2) (nI h) = L h
section Std
variable {d : Nat} {w : Mem} {Q : Option Value → Mem → Prop} {T : Tv} {V : Vw} {k c h n : Nat} {X : Nat → Int32} {L : Nat → Bool}
theorem t_begin (hk : RK k c) (hT : Told w T) (hQ : Q none (wI (wI w 20 1 (T 0 6)) 20 2 (w.1 k 4))) (hk20 : k ≠ 20) : Cl (d + 1) m_X7_begin [.ref 20, .ref k] w Q := by
  obtain ⟨h1, h2, h3, h4, h5, h6⟩ := hk
  refine Cl_of k_X7_begin.1 (Nat.le_of_ble_eq_true rfl) (show Wp m_X7_begin _ 0 _ 0 [.ref 20, .ref k] [] _ from S_X7_begin_0 _ _ _ ?_)
  simp +decide (disch := omega) only [↓EQA, CEA, LIA, NIA, Nat.lt_irrefl, Option.toList_some, Option.toList_none, List.cons_append, List.nil_append, true_and, and_true, Nat.reduceAdd, Nat.reduceLeDiff, not_true_eq_false, not_false_eq_true, if_true, if_false, ite_true, ite_false, Int32.reduceLT, ite_not, eq_self, or_true, true_or, ite_self, reduceIte, B_X7_begin_0, h1, h2, h3, hT]
  have e : (wI w 20 1 (T 0 6)).1 k 4 = w.1 k 4 := by rw [wI_ne hk20]
  rw [e]
  exact hQ
theorem t_settle (h0 : w.1 20 1 = nI n) (hX : ∀ h, h < n → w.1 21 h = X h) (hn : 1 ≤ n) (hn4 : n ≤ 4) (hQ : Q none (wI w 20 3 (nI (fsX X n)))) : Cl (d + 1) m_X7_settle [.ref 20] w Q := by
  have rd1 : ∀ v, (wI w 20 3 v).1 20 1 = nI n := fun v => by rw [← h0]; simp [wI]
  have rd2 : ∀ v, (wI w 20 3 v).1 21 = w.1 21 := fun v => wI_ne (by decide)
  have rd3 : ∀ v, (wI w 20 3 v).1 20 3 = v := fun v => by simp [wI]
  have rd4 : ∀ v u, wI (wI w 20 3 v) 20 3 u = wI w 20 3 u := fun v u => by
    simp only [wI, Prod.mk.injEq, and_true]
    funext a b
    split <;> simp_all
  refine Cl_of k_X7_settle.1 (Nat.le_of_ble_eq_true rfl) (show Wp m_X7_settle _ 0 _ 0 [.ref 20, .null] [] _ from S_X7_settle_0 _ _ _ ?_)
  simp +decide (disch := omega) only [↓EQA, CEA, LIA, NIA, Nat.lt_irrefl, Option.toList_some, Option.toList_none, List.cons_append, List.nil_append, true_and, and_true, Nat.reduceAdd, Nat.reduceLeDiff, not_true_eq_false, not_false_eq_true, if_true, if_false, ite_true, ite_false, Int32.reduceLT, ite_not, eq_self, or_true, true_or, ite_self, reduceIte, B_X7_settle_0]
  have e1 : fld (fun h f => if X h < X f then h else f) 1 0 = 0 := by show (if X 0 < X 0 then 0 else 0) = 0; split <;> rfl
  suffices hh : Wp m_X7_settle d 0 Q 7 [.ref 20, .int (nI 1)] [] (wI w 20 3 (nI (fld (fun h f => if X h < X f then h else f) 1 0))) by rw [e1] at hh; exact hh
  refine fld_loopS (f := fun h f => if X h < X f then h else f) (s := 1) (n := n) (a := 0) hn (fun j f => Wp m_X7_settle _ 0 Q 7 [.ref 20, .int (nI j)] [] (wI w 20 3 (nI f))) (fun j hj1 hj hd => ?_) ?_
  · have hf : fld (fun h f => if X h < X f then h else f) j 0 < j := fsX_lt X j hj1
    generalize hfe : fld (fun h f => if X h < X f then h else f) j 0 = f at hd hf ⊢
    refine S_X7_settle_L1 _ _ _ ?_
    simp +decide (disch := omega) only [↓EQA, CEA, LIA, NIA, Nat.lt_irrefl, Option.toList_some, Option.toList_none, List.cons_append, List.nil_append, true_and, and_true, Nat.reduceAdd, Nat.reduceLeDiff, not_true_eq_false, not_false_eq_true, if_true, if_false, ite_true, ite_false, Int32.reduceLT, ite_not, eq_self, or_true, true_or, ite_self, reduceIte, B_X7_settle_L1, B_X7_settle_J1, rd1, rd2, rd3, rd4, hj, hX j hj, hX f (by omega)]
    (try dsimp only at hd); split <;> rename_i hb <;> simp only [hb, decide_true, decide_false, if_true, if_false, Bool.false_eq_true, decide_not, Bool.not_true, Bool.not_false] at hd <;> exact hd
  · refine S_X7_settle_L1 _ _ _ ?_
    simp +decide (disch := omega) only [↓EQA, CEA, LIA, NIA, Nat.lt_irrefl, Option.toList_some, Option.toList_none, List.cons_append, List.nil_append, true_and, and_true, Nat.reduceAdd, Nat.reduceLeDiff, not_true_eq_false, not_false_eq_true, if_true, if_false, ite_true, ite_false, Int32.reduceLT, ite_not, eq_self, or_true, true_or, ite_self, reduceIte, B_X7_settle_L1, rd1]
    exact hQ
theorem t_isOut (hS : STD w X n L) (hn : 1 ≤ n) (hn4 : n ≤ 4) (hh : h < 4) (hQ : Q (some (.int (bI (outX X n L h = true)))) w) : Cl (d + 1) m_X7_isOut [.ref 20, .int (nI h)] w Q := by
  have hf := fsX_lt X n hn
  refine Cl_of k_X7_isOut.1 (Nat.le_of_ble_eq_true rfl) (show Wp m_X7_isOut _ 0 _ 0 [.ref 20, .int (nI h)] [] _ from S_X7_isOut_0 _ _ _ ?_)
  simp +decide (disch := omega) only [↓EQA, CEA, LIA, NIA, Nat.lt_irrefl, Option.toList_some, Option.toList_none, List.cons_append, List.nil_append, true_and, and_true, Nat.reduceAdd, Nat.reduceLeDiff, not_true_eq_false, not_false_eq_true, if_true, if_false, ite_true, ite_false, Int32.reduceLT, ite_not, eq_self, or_true, true_or, ite_self, reduceIte, B_X7_isOut_0, B_X7_isOut_J1, mrg, hS.2.2.1, hS.2.2.2 h hh]
  simp +decide (disch := omega) only [↓EQA, CEA, LIA, NIA, Nat.lt_irrefl, Option.toList_some, Option.toList_none, List.cons_append, List.nil_append, true_and, and_true, Nat.reduceAdd, Nat.reduceLeDiff, not_true_eq_false, not_false_eq_true, if_true, if_false, ite_true, ite_false, Int32.reduceLT, ite_not, eq_self, or_true, true_or, ite_self, reduceIte, B_X7_isOut_J2]
  have e : (if h = fsX X n then (0 : Int32) else bI (L h = true)) = bI (outX X n L h = true) := by
    unfold bI outX
    by_cases q : h = fsX X n <;> simp [q]
  rw [e]
  exact ⟨by rw [bI_ny]; trivial, hQ⟩
theorem t_isBefore {g : Nat} (hS : STD w X n L) (hn : 1 ≤ n) (hn4 : n ≤ 4) (hg : g < n) (hh : h < n) (hQ : Q (some (.int (bI (befX X n L g h = true)))) w) : Cl (d + 2) m_X7_isBefore [.ref 20, .int (nI g), .int (nI h)] w Q := by
  refine Cl_of k_X7_isBefore.1 (Nat.le_of_ble_eq_true rfl) (show Wp m_X7_isBefore _ 0 _ 0 [.ref 20, .int (nI g), .int (nI h), .null] [] _ from S_X7_isBefore_0 _ _ _ ?_)
  simp +decide (disch := omega) only [↓EQA, CEA, LIA, NIA, Nat.lt_irrefl, Option.toList_some, Option.toList_none, List.cons_append, List.nil_append, true_and, and_true, Nat.reduceAdd, Nat.reduceLeDiff, not_true_eq_false, not_false_eq_true, if_true, if_false, ite_true, ite_false, Int32.reduceLT, ite_not, eq_self, or_true, true_or, ite_self, reduceIte, B_X7_isBefore_0]
  refine t_isOut hS hn hn4 (by omega) ?_
  simp +decide (disch := omega) only [↓EQA, CEA, LIA, NIA, Nat.lt_irrefl, Option.toList_some, Option.toList_none, List.cons_append, List.nil_append, true_and, and_true, Nat.reduceAdd, Nat.reduceLeDiff, not_true_eq_false, not_false_eq_true, if_true, if_false, ite_true, ite_false, Int32.reduceLT, ite_not, eq_self, or_true, true_or, ite_self, reduceIte]
  refine t_isOut hS hn hn4 (by omega) ?_
  simp +decide (disch := omega) only [↓EQA, CEA, LIA, NIA, Nat.lt_irrefl, Option.toList_some, Option.toList_none, List.cons_append, List.nil_append, true_and, and_true, Nat.reduceAdd, Nat.reduceLeDiff, not_true_eq_false, not_false_eq_true, if_true, if_false, ite_true, ite_false, Int32.reduceLT, ite_not, eq_self, or_true, true_or, ite_self, reduceIte, B_X7_isBefore_J1, B_X7_isBefore_J2, mrg, hS.2.1 g hg, hS.2.1 h hh]
  simp +decide (disch := omega) only [↓EQA, CEA, LIA, NIA, Nat.lt_irrefl, Option.toList_some, Option.toList_none, List.cons_append, List.nil_append, true_and, and_true, Nat.reduceAdd, Nat.reduceLeDiff, not_true_eq_false, not_false_eq_true, if_true, if_false, ite_true, ite_false, Int32.reduceLT, ite_not, eq_self, or_true, true_or, ite_self, reduceIte, B_X7_isBefore_J3]
  unfold befX bI at hQ
  unfold bI
  by_cases q2 : X g = X h
  · have q1 : ¬ X g < X h := by rw [q2]; exact Int32.lt_irrefl
    cases h1 : outX X n L g <;> cases h2 : outX X n L h <;> by_cases q3 : g < h <;> simp [h1, h2, q1, q2, q3, narrow] at hQ ⊢ <;> exact hQ
  · by_cases q1 : X g < X h <;> cases h1 : outX X n L g <;> cases h2 : outX X n L h <;> simp [h1, h2, q1, q2, narrow] at hQ ⊢ <;> exact hQ
theorem t_rankOf (hS : STD w X n L) (hn : 1 ≤ n) (hn4 : n ≤ 4) (hh : h < n) (hQ : Q (some (.int (nI (rkX X n L h)))) w) : Cl (d + 3) m_X7_rankOf [.ref 20, .int (nI h)] w Q := by
  refine Cl_of k_X7_rankOf.1 (Nat.le_of_ble_eq_true rfl) (show Wp m_X7_rankOf _ 0 _ 0 [.ref 20, .int (nI h), .null, .null] [] _ from S_X7_rankOf_0 _ _ _ ?_)
  simp +decide (disch := omega) only [↓EQA, CEA, LIA, NIA, Nat.lt_irrefl, Option.toList_some, Option.toList_none, List.cons_append, List.nil_append, true_and, and_true, Nat.reduceAdd, Nat.reduceLeDiff, not_true_eq_false, not_false_eq_true, if_true, if_false, ite_true, ite_false, Int32.reduceLT, ite_not, eq_self, or_true, true_or, ite_self, reduceIte, B_X7_rankOf_0]
  refine cnt_loop (p := fun g => befX X n L g h) (n := n) (fun j a => Wp m_X7_rankOf _ 0 Q 4 [.ref 20, .int (nI h), .int a, .int (nI j)] [] w) (fun j hj hd => ?_) ?_
  · refine S_X7_rankOf_L1 _ _ _ ?_
    simp +decide (disch := omega) only [↓EQA, CEA, LIA, NIA, Nat.lt_irrefl, Option.toList_some, Option.toList_none, List.cons_append, List.nil_append, true_and, and_true, Nat.reduceAdd, Nat.reduceLeDiff, not_true_eq_false, not_false_eq_true, if_true, if_false, ite_true, ite_false, Int32.reduceLT, ite_not, eq_self, or_true, true_or, ite_self, reduceIte, B_X7_rankOf_L1, hS.1, hj]
    refine t_isBefore hS hn hn4 hj hh ?_
    simp +decide (disch := omega) only [↓EQA, CEA, LIA, NIA, Nat.lt_irrefl, Option.toList_some, Option.toList_none, List.cons_append, List.nil_append, true_and, and_true, Nat.reduceAdd, Nat.reduceLeDiff, not_true_eq_false, not_false_eq_true, if_true, if_false, ite_true, ite_false, Int32.reduceLT, ite_not, eq_self, or_true, true_or, ite_self, reduceIte, B_X7_rankOf_J1, ite_not]
    (try dsimp only at hd); split <;> rename_i hb <;> simp only [hb, decide_true, decide_false, if_true, if_false, Bool.false_eq_true, decide_not, Bool.not_true, Bool.not_false] at hd <;> exact hd
  · refine S_X7_rankOf_L1 _ _ _ ?_
    simp +decide (disch := omega) only [↓EQA, CEA, LIA, NIA, Nat.lt_irrefl, Option.toList_some, Option.toList_none, List.cons_append, List.nil_append, true_and, and_true, Nat.reduceAdd, Nat.reduceLeDiff, not_true_eq_false, not_false_eq_true, if_true, if_false, ite_true, ite_false, Int32.reduceLT, ite_not, eq_self, or_true, true_or, ite_self, reduceIte, B_X7_rankOf_L1, hS.1]
    exact hQ
theorem t_take (hk : RK k c) (hT : Told w T) (hZ : SZ T) (hV : RV w k c V) (hn : 1 ≤ nH T) (hk9 : k ≠ 20 ∧ k ≠ 21 ∧ c ≠ 20 ∧ c ≠ 21) (hQ : ∀ w', Ag (fun j _ => j = 20 ∨ j = 21) w w' → STD w' (TO T V) (nH T) V.2.2.2.1 → Q none w') : Cl (d + 5) m_X7_take [.ref 20, .ref k] w Q := by
  have hz := hZ.2
  obtain ⟨z1, z2, z3, z4⟩ := hk9
  refine Cl_of k_X7_take.1 (Nat.le_of_ble_eq_true rfl) (show Wp m_X7_take _ 0 _ 0 [.ref 20, .ref k, .null] [] _ from S_X7_take_0 _ _ _ ?_)
  simp +decide (disch := omega) only [↓EQA, CEA, LIA, NIA, Nat.lt_irrefl, Option.toList_some, Option.toList_none, List.cons_append, List.nil_append, true_and, and_true, Nat.reduceAdd, Nat.reduceLeDiff, not_true_eq_false, not_false_eq_true, if_true, if_false, ite_true, ite_false, Int32.reduceLT, ite_not, eq_self, or_true, true_or, ite_self, reduceIte, B_X7_take_0, hk]
  refine t_begin hk hT ?_ z1
  simp +decide (disch := omega) only [↓EQA, CEA, LIA, NIA, Nat.lt_irrefl, Option.toList_some, Option.toList_none, List.cons_append, List.nil_append, true_and, and_true, Nat.reduceAdd, Nat.reduceLeDiff, not_true_eq_false, not_false_eq_true, if_true, if_false, ite_true, ite_false, Int32.reduceLT, ite_not, eq_self, or_true, true_or, ite_self, reduceIte]
  have key : ∀ m j, j + m = nH T → ∀ w1, Ag (fun j _ => j = 20 ∨ j = 21) w w1 → w1.1 20 1 = nI (nH T) → w1.1 20 2 = w.1 k 4 → (∀ i, i < j → w1.1 21 i = TO T V i) → Wp m_X7_take (d + 4) 0 Q 7 [.ref 20, .ref k, .int (nI j)] [] w1 := by
    intro m
    induction m with
    | zero =>
      intro j hj w1 ha h1 h2 h3
      have : j = nH T := by omega
      subst this
      refine S_X7_take_L1 _ _ _ ?_
      simp +decide (disch := omega) only [↓EQA, CEA, LIA, NIA, Nat.lt_irrefl, Option.toList_some, Option.toList_none, List.cons_append, List.nil_append, true_and, and_true, Nat.reduceAdd, Nat.reduceLeDiff, not_true_eq_false, not_false_eq_true, if_true, if_false, ite_true, ite_false, Int32.reduceLT, ite_not, eq_self, or_true, true_or, ite_self, reduceIte, B_X7_take_L1, h1]
      refine t_settle h1 h3 hn (by omega) ?_
      simp +decide (disch := omega) only [↓EQA, CEA, LIA, NIA, Nat.lt_irrefl, Option.toList_some, Option.toList_none, List.cons_append, List.nil_append, true_and, and_true, Nat.reduceAdd, Nat.reduceLeDiff, not_true_eq_false, not_false_eq_true, if_true, if_false, ite_true, ite_false, Int32.reduceLT, ite_not, eq_self, or_true, true_or, ite_self, reduceIte]
      refine hQ _ (ha.wI (Or.inl rfl)) ⟨?_, ?_, ?_, ?_⟩
      · rw [← h1]; simp [wI]
      · intro i hi; rw [wI_ne (by decide)]; exact h3 i hi
      · simp [wI]
      · intro i hi
        have e : (wI w1 20 3 (nI (fsX (TO T V) (nH T)))).1 20 2 = w.1 k 4 := by rw [← h2]; simp [wI]
        rw [e]; exact hV.2.2.2.1 i hi
    | succ m ih =>
      intro j hj w1 ha h1 h2 h3
      have hj1 : j < nH T := by omega
      have hT1 : Told w1 T := hT.ag ha (fun a b p q z => by omega)
      have hV1 : RV w1 k c V := hV.ag ha (fun i z => by omega) (fun i z => by omega)
      refine S_X7_take_L1 _ _ _ ?_
      simp +decide (disch := omega) only [↓EQA, CEA, LIA, NIA, Nat.lt_irrefl, Option.toList_some, Option.toList_none, List.cons_append, List.nil_append, true_and, and_true, Nat.reduceAdd, Nat.reduceLeDiff, not_true_eq_false, not_false_eq_true, if_true, if_false, ite_true, ite_false, Int32.reduceLT, ite_not, eq_self, or_true, true_or, ite_self, reduceIte, B_X7_take_L1, h1, hj1, hk]
      refine t_wholeTime hk hT1 hZ hV1 (by omega) ?_
      simp +decide (disch := omega) only [↓EQA, CEA, LIA, NIA, Nat.lt_irrefl, Option.toList_some, Option.toList_none, List.cons_append, List.nil_append, true_and, and_true, Nat.reduceAdd, Nat.reduceLeDiff, not_true_eq_false, not_false_eq_true, if_true, if_false, ite_true, ite_false, Int32.reduceLT, ite_not, eq_self, or_true, true_or, ite_self, reduceIte]
      refine ih (j + 1) (by omega) _ (ha.wI (Or.inr rfl)) ?_ ?_ ?_
      · rw [wI_ne (by decide)]; exact h1
      · rw [wI_ne (by decide)]; exact h2
      · intro i hi
        by_cases e : i = j
        · subst e; simp [wI]
        · rw [← h3 i (by omega)]; simp [wI, e]
  refine key (nH T) 0 (by omega) _ ?_ ?_ ?_ (fun i hi => absurd hi (Nat.not_lt_zero i))
  · exact (Ag.rf.wI (Or.inl rfl)).wI (Or.inl rfl)
  · rw [← hZ.1.2.1]; simp [wI]
  · simp [wI]
theorem t_houseAt {r : Nat} (hS : STD w X n L) (hn : 1 ≤ n) (hn4 : n ≤ 4) (hr : r < 4) (hQ : Q (some (.int (if frst (fun h => decide (rkX X n L h = r)) n < n then nI (frst (fun h => decide (rkX X n L h = r)) n) else -1))) w) : Cl (d + 4) m_X7_houseAt [.ref 20, .int (nI r)] w Q := by
  refine Cl_of k_X7_houseAt.1 (Nat.le_of_ble_eq_true rfl) (show Wp m_X7_houseAt _ 0 _ 0 [.ref 20, .int (nI r), .null] [] _ from S_X7_houseAt_0 _ _ _ ?_)
  simp +decide (disch := omega) only [↓EQA, CEA, LIA, NIA, Nat.lt_irrefl, Option.toList_some, Option.toList_none, List.cons_append, List.nil_append, true_and, and_true, Nat.reduceAdd, Nat.reduceLeDiff, not_true_eq_false, not_false_eq_true, if_true, if_false, ite_true, ite_false, Int32.reduceLT, ite_not, eq_self, or_true, true_or, ite_self, reduceIte, B_X7_houseAt_0]
  refine frst_loop (p := fun h => decide (rkX X n L h = r)) (n := n) (fun j => Wp m_X7_houseAt _ 0 Q 2 [.ref 20, .int (nI r), .int (nI j)] [] w) ?_ ?_ ?_
  · intro i hi hp he
    have hc := cnt_le (fun g => befX X n L g i) n
    refine S_X7_houseAt_L1 _ _ _ ?_
    simp +decide (disch := omega) only [↓EQA, CEA, LIA, NIA, Nat.lt_irrefl, Option.toList_some, Option.toList_none, List.cons_append, List.nil_append, true_and, and_true, Nat.reduceAdd, Nat.reduceLeDiff, not_true_eq_false, not_false_eq_true, if_true, if_false, ite_true, ite_false, Int32.reduceLT, ite_not, eq_self, or_true, true_or, ite_self, reduceIte, B_X7_houseAt_L1, hS.1, hi]
    refine t_rankOf hS hn hn4 hi ?_
    have hp2 : rkX X n L i = r := by simpa using hp
    simp +decide (disch := omega) only [↓EQA, CEA, LIA, NIA, Nat.lt_irrefl, Option.toList_some, Option.toList_none, List.cons_append, List.nil_append, true_and, and_true, Nat.reduceAdd, Nat.reduceLeDiff, not_true_eq_false, not_false_eq_true, if_true, if_false, ite_true, ite_false, Int32.reduceLT, ite_not, eq_self, or_true, true_or, ite_self, reduceIte, hp2]
    rw [he, if_pos hi] at hQ
    exact hQ
  · intro i hi hp hd
    have hc : rkX X n L i ≤ n := cnt_le (fun g => befX X n L g i) n
    refine S_X7_houseAt_L1 _ _ _ ?_
    simp +decide (disch := omega) only [↓EQA, CEA, LIA, NIA, Nat.lt_irrefl, Option.toList_some, Option.toList_none, List.cons_append, List.nil_append, true_and, and_true, Nat.reduceAdd, Nat.reduceLeDiff, not_true_eq_false, not_false_eq_true, if_true, if_false, ite_true, ite_false, Int32.reduceLT, ite_not, eq_self, or_true, true_or, ite_self, reduceIte, B_X7_houseAt_L1, hS.1, hi]
    refine t_rankOf hS hn hn4 hi ?_
    have hp2 : ¬ rkX X n L i = r := by simpa using hp
    simp +decide (disch := omega) only [↓EQA, CEA, LIA, NIA, Nat.lt_irrefl, Option.toList_some, Option.toList_none, List.cons_append, List.nil_append, true_and, and_true, Nat.reduceAdd, Nat.reduceLeDiff, not_true_eq_false, not_false_eq_true, if_true, if_false, ite_true, ite_false, Int32.reduceLT, ite_not, eq_self, or_true, true_or, ite_self, reduceIte, hp2]
    exact hd
  · intro he
    refine S_X7_houseAt_L1 _ _ _ ?_
    simp +decide (disch := omega) only [↓EQA, CEA, LIA, NIA, Nat.lt_irrefl, Option.toList_some, Option.toList_none, List.cons_append, List.nil_append, true_and, and_true, Nat.reduceAdd, Nat.reduceLeDiff, not_true_eq_false, not_false_eq_true, if_true, if_false, ite_true, ite_false, Int32.reduceLT, ite_not, eq_self, or_true, true_or, ite_self, reduceIte, B_X7_houseAt_L1, hS.1]
    rw [he, if_neg (Nat.lt_irrefl _)] at hQ
    exact hQ
end Std
