theorem ToldM.ag {P : Nat → Nat → Prop} {w w1 : Mem} {T : Tv} (hM : ToldM w T) (h1 : Ag P w w1) (h : ∀ i, ¬ P 62 i) : ToldM w1 T := by
  have e := h1.row h
  unfold ToldM at hM ⊢
  rw [e]
  exact hM
theorem RM.ag {P : Nat → Nat → Prop} {w w1 : Mem} {row : Nat} {V : Vw} (hV : RM w row V) (h1 : Ag P w w1) (h : ∀ i, ¬ P row i) (h2 : ¬ P 59 22) : RM w1 row V := by
  have e := h1.row h
  have e2 := (h1 59 22 h2).1
  unfold RM at hV ⊢
  rw [e, e2]
  exact hV
theorem bit01 (x k : Int32) : (x >>> (k &&& 31)) &&& 1 = bI (bb x k = true) := by
  have h : ∀ y : Int32, y &&& 1 = 0 ∨ y &&& 1 = 1 := by
    intro y
    have e := pk_and y (m := 1) 1 rfl
    rcases Nat.mod_two_eq_zero_or_one y.toBitVec.toNat with q | q
    · left; rw [e, q]; rfl
    · right; rw [e, q]; rfl
  unfold bb bI
  rcases h (x >>> (k &&& 31)) with q | q <;> simp [q]
theorem outs_bit : ∀ n, n < 16 → ∀ f, f < 4 → ∀ h, h < 4 → bb (nI n &&& ((1 <<< (nI f &&& 31)) ^^^ (-1))) (nI h) = (decide (¬ h = f) && bb (nI n) (nI h)) := by decide +kernel
theorem ones_BS (b0 b1 b2 b3 b4 : Bool) : ∀ n, n < 6 → ONs (fld (fun l a => a ||| if (match l with | 0 => b0 | 1 => b1 | 2 => b2 | 3 => b3 | _ => b4) then 1 <<< (nI l &&& 31) else 0) n 0) = nI (cnt (fun l => match l with | 0 => b0 | 1 => b1 | 2 => b2 | 3 => b3 | _ => b4) n) := by
  cases b0 <;> cases b1 <;> cases b2 <;> cases b3 <;> cases b4 <;> decide +kernel
theorem five {p : Nat → Bool} : ∀ l, l < 5 → p l = (match l with | 0 => p 0 | 1 => p 1 | 2 => p 2 | 3 => p 3 | _ => p 4) := by
  intro l hl
  match l, hl with
  | 0, _ => rfl
  | 1, _ => rfl
  | 2, _ => rfl
  | 3, _ => rfl
  | 4, _ => rfl
theorem ones_CN {T : Tv} {V : Vw} {h : Nat} (hn : nL T ≤ 5) : ONs (BS T V h) = nI (CN T V h) := by
  have e := ones_BS (V.1 h 0) (V.1 h 1) (V.1 h 2) (V.1 h 3) (V.1 h 4) (nL T) (by omega)
  unfold BS CN
  rw [fld_congr (g := fun l a => a ||| if (match l with | 0 => V.1 h 0 | 1 => V.1 h 1 | 2 => V.1 h 2 | 3 => V.1 h 3 | _ => V.1 h 4) then 1 <<< (nI l &&& 31) else 0) (fun l a hl => by rw [five (p := V.1 h) l (by omega)]), cnt_congr (q := fun l => match l with | 0 => V.1 h 0 | 1 => V.1 h 1 | 2 => V.1 h 2 | 3 => V.1 h 3 | _ => V.1 h 4) (fun l hl => five (p := V.1 h) l (by omega))]
  exact e
section MStd
variable {d : Nat} {w : Mem} {Q : Option Value → Mem → Prop} {T : Tv} {V : Vw} {row h n : Nat} {X : Nat → Int32} {L : Nat → Bool}
theorem u_powerOf (hM : ToldM w T) (hZ : SZ T) (hV : RM w row V) (hr : aln 0 row = 8) (hh : h < nH T) (hQ : Q (some (.int (PW T V h))) w) : Cl (d + 2) m_X11_powerOf [.ref 59, .ref row, .int (nI h)] w Q := by
  have hz := hZ.2
  refine Cl_of k_X11_powerOf.1 (Nat.le_of_ble_eq_true rfl) (show Wp m_X11_powerOf _ 0 _ 0 [.ref 59, .ref row, .int (nI h), .null, .null] [] _ from S_X11_powerOf_0 _ _ _ ?_)
  simp +decide (disch := omega) only [↓EQA, CEA, LIA, NIA, Nat.lt_irrefl, Option.toList_some, Option.toList_none, List.cons_append, List.nil_append, true_and, and_true, Nat.reduceAdd, Nat.reduceLeDiff, not_true_eq_false, not_false_eq_true, if_true, if_false, ite_true, ite_false, Int32.reduceLT, ite_not, eq_self, or_true, true_or, ite_self, reduceIte, B_X11_powerOf_0]
  refine fld_loop (f := fun l a => if V.1 h l then a + T 7 l else a) (n := nL T) (fun j a => Wp m_X11_powerOf _ 0 Q 5 [.ref 59, .ref row, .int (nI h), .int a, .int (nI j)] [] w) (fun j hj hd => ?_) ?_
  · refine S_X11_powerOf_L1 _ _ _ ?_
    simp +decide (disch := omega) only [↓EQA, CEA, LIA, NIA, Nat.lt_irrefl, Option.toList_some, Option.toList_none, List.cons_append, List.nil_append, true_and, and_true, Nat.reduceAdd, Nat.reduceLeDiff, not_true_eq_false, not_false_eq_true, if_true, if_false, ite_true, ite_false, Int32.reduceLT, ite_not, eq_self, or_true, true_or, ite_self, reduceIte, B_X11_powerOf_L1, B_X11_powerOf_J1, hM.1, hZ.1, hj, hr, hV.1 h j (by omega) (by omega), hM.2.2.2.1 j hj, Int32.add_zero]
    (try dsimp only at hd); split <;> rename_i hb <;> simp only [hb, decide_true, decide_false, if_true, if_false, Bool.false_eq_true, decide_not, Bool.not_true, Bool.not_false] at hd <;> exact hd
  · refine S_X11_powerOf_L1 _ _ _ ?_
    simp +decide (disch := omega) only [↓EQA, CEA, LIA, NIA, Nat.lt_irrefl, Option.toList_some, Option.toList_none, List.cons_append, List.nil_append, true_and, and_true, Nat.reduceAdd, Nat.reduceLeDiff, not_true_eq_false, not_false_eq_true, if_true, if_false, ite_true, ite_false, Int32.reduceLT, ite_not, eq_self, or_true, true_or, ite_self, reduceIte, B_X11_powerOf_L1, hM.1, hZ.1]
    refine u_kindOf hM (by omega) hh ?_
    have hc := cnt_le (V.1 h) (nL T)
    have hc2 : CN T V h ≤ 5 := by unfold CN; omega
    unfold PW at hQ
    simp +decide (disch := omega) only [↓EQA, CEA, LIA, NIA, Nat.lt_irrefl, Option.toList_some, Option.toList_none, List.cons_append, List.nil_append, true_and, and_true, Nat.reduceAdd, Nat.reduceLeDiff, not_true_eq_false, not_false_eq_true, if_true, if_false, ite_true, ite_false, Int32.reduceLT, ite_not, eq_self, or_true, true_or, ite_self, reduceIte]
    split
    · next e =>
      refine u_aboardOf hM hZ hV hr (by omega) ?_
      simp +decide (disch := omega) only [↓EQA, CEA, LIA, NIA, Nat.lt_irrefl, Option.toList_some, Option.toList_none, List.cons_append, List.nil_append, true_and, and_true, Nat.reduceAdd, Nat.reduceLeDiff, not_true_eq_false, not_false_eq_true, if_true, if_false, ite_true, ite_false, Int32.reduceLT, ite_not, eq_self, or_true, true_or, ite_self, reduceIte]
      refine u_ones ?_
      simp +decide (disch := omega) only [↓EQA, CEA, LIA, NIA, Nat.lt_irrefl, Option.toList_some, Option.toList_none, List.cons_append, List.nil_append, true_and, and_true, Nat.reduceAdd, Nat.reduceLeDiff, not_true_eq_false, not_false_eq_true, if_true, if_false, ite_true, ite_false, Int32.reduceLT, ite_not, eq_self, or_true, true_or, ite_self, reduceIte, ones_CN (V := V) (h := h) hz.2.2.1, B_X11_powerOf_J2, hr, hV.2.1]
      rw [if_pos e] at hQ
      split
      · next q => rw [if_neg (by omega)] at hQ; rw [Int32.mul_comm]; exact hQ
      · next q => rw [if_pos (by omega)] at hQ; exact hQ
    · next e =>
      simp +decide (disch := omega) only [↓EQA, CEA, LIA, NIA, Nat.lt_irrefl, Option.toList_some, Option.toList_none, List.cons_append, List.nil_append, true_and, and_true, Nat.reduceAdd, Nat.reduceLeDiff, not_true_eq_false, not_false_eq_true, if_true, if_false, ite_true, ite_false, Int32.reduceLT, ite_not, eq_self, or_true, true_or, ite_self, reduceIte, B_X11_powerOf_J2, hr, hV.2.1]
      rw [if_neg e] at hQ
      exact hQ
theorem u_timeOf {j : Nat} (hM : ToldM w T) (hZ : SZ T) (hV : RM w row V) (hr : aln 0 row = 8) (hP : POS T V) (hh : h < nH T) (hj : j < nB T) (hQ : Q (some (.int (TM T V h j))) w) : Cl (d + 3) m_X11_timeOf [.ref 59, .ref row, .int (nI h), .int (nI j)] w Q := by
  have hz := hZ.2
  have hp := hP h j hh hj
  have key : ∀ o : Int32, (if o = 0 then (2 : Int32) else 0) = OU T V h j → B_X11_timeOf_J2 (d + 2) 0 Q [.ref 59, .ref row, .int (nI h), .int (nI j), .null, .null, .null, .null] [.int o] w := by
    intro o ho
    simp +decide (disch := omega) only [↓EQA, CEA, LIA, NIA, Nat.lt_irrefl, Option.toList_some, Option.toList_none, List.cons_append, List.nil_append, true_and, and_true, Nat.reduceAdd, Nat.reduceLeDiff, not_true_eq_false, not_false_eq_true, if_true, if_false, ite_true, ite_false, Int32.reduceLT, ite_not, eq_self, or_true, true_or, ite_self, reduceIte, B_X11_timeOf_J2, mrg, hM.2.1 j hj, ho]
    simp +decide (disch := omega) only [↓EQA, CEA, LIA, NIA, Nat.lt_irrefl, Option.toList_some, Option.toList_none, List.cons_append, List.nil_append, true_and, and_true, Nat.reduceAdd, Nat.reduceLeDiff, not_true_eq_false, not_false_eq_true, if_true, if_false, ite_true, ite_false, Int32.reduceLT, ite_not, eq_self, or_true, true_or, ite_self, reduceIte, B_X11_timeOf_J3]
    refine u_weightOf hM hZ hV hr hh ?_
    simp +decide (disch := omega) only [↓EQA, CEA, LIA, NIA, Nat.lt_irrefl, Option.toList_some, Option.toList_none, List.cons_append, List.nil_append, true_and, and_true, Nat.reduceAdd, Nat.reduceLeDiff, not_true_eq_false, not_false_eq_true, if_true, if_false, ite_true, ite_false, Int32.reduceLT, ite_not, eq_self, or_true, true_or, ite_self, reduceIte]
    refine u_powerOf hM hZ hV hr hh ?_
    simp +decide (disch := omega) only [↓EQA, CEA, LIA, NIA, Nat.lt_irrefl, Option.toList_some, Option.toList_none, List.cons_append, List.nil_append, true_and, and_true, Nat.reduceAdd, Nat.reduceLeDiff, not_true_eq_false, not_false_eq_true, if_true, if_false, ite_true, ite_false, Int32.reduceLT, ite_not, eq_self, or_true, true_or, ite_self, reduceIte]
    refine u_hasBit ?_
    simp +decide (disch := omega) only [↓EQA, CEA, LIA, NIA, Nat.lt_irrefl, Option.toList_some, Option.toList_none, List.cons_append, List.nil_append, true_and, and_true, Nat.reduceAdd, Nat.reduceLeDiff, not_true_eq_false, not_false_eq_true, if_true, if_false, ite_true, ite_false, Int32.reduceLT, ite_not, eq_self, or_true, true_or, ite_self, reduceIte, mrg, hM.1, hV.2.2.2.2 j (by omega), Bool.not_eq_true]
    have e5 : (if V.2.2.2.2 j = false then (0 : Int32) else T 0 4) = if V.2.2.2.2 j = true then T 0 4 else 0 := by cases V.2.2.2.2 j <;> rfl
    rw [e5]
    simp +decide (disch := omega) only [↓EQA, CEA, LIA, NIA, Nat.lt_irrefl, Option.toList_some, Option.toList_none, List.cons_append, List.nil_append, true_and, and_true, Nat.reduceAdd, Nat.reduceLeDiff, not_true_eq_false, not_false_eq_true, if_true, if_false, ite_true, ite_false, Int32.reduceLT, ite_not, eq_self, or_true, true_or, ite_self, reduceIte, B_X11_timeOf_J4]
    unfold TM TB at hQ
    generalize hPe : PW T V h + (if V.2.2.2.2 j = true then T 0 4 else 0) = p
    rw [show PR T V j (PW T V h) = p from hPe] at hQ hp
    rw [if_neg hp] at hQ
    refine ⟨fun e => hp (by rw [e]; decide), ?_⟩
    simp +decide (disch := omega) only [↓EQA, CEA, LIA, NIA, Nat.lt_irrefl, Option.toList_some, Option.toList_none, List.cons_append, List.nil_append, true_and, and_true, Nat.reduceAdd, Nat.reduceLeDiff, not_true_eq_false, not_false_eq_true, if_true, if_false, ite_true, ite_false, Int32.reduceLT, ite_not, eq_self, or_true, true_or, ite_self, reduceIte, hr]
    refine u_hasBit ?_
    simp +decide (disch := omega) only [↓EQA, CEA, LIA, NIA, Nat.lt_irrefl, Option.toList_some, Option.toList_none, List.cons_append, List.nil_append, true_and, and_true, Nat.reduceAdd, Nat.reduceLeDiff, not_true_eq_false, not_false_eq_true, if_true, if_false, ite_true, ite_false, Int32.reduceLT, ite_not, eq_self, or_true, true_or, ite_self, reduceIte, hV.2.2.2.1 h (by omega), mrg, Bool.not_eq_true]
    simp +decide (disch := omega) only [↓EQA, CEA, LIA, NIA, Nat.lt_irrefl, Option.toList_some, Option.toList_none, List.cons_append, List.nil_append, true_and, and_true, Nat.reduceAdd, Nat.reduceLeDiff, not_true_eq_false, not_false_eq_true, if_true, if_false, ite_true, ite_false, Int32.reduceLT, ite_not, eq_self, or_true, true_or, ite_self, reduceIte, B_X11_timeOf_J5]
    cases hl : V.2.2.2.1 h <;> rw [hl] at hQ <;> simpa using hQ
  refine Cl_of k_X11_timeOf.1 (Nat.le_of_ble_eq_true rfl) (show Wp m_X11_timeOf _ 0 _ 0 [.ref 59, .ref row, .int (nI h), .int (nI j), .null, .null, .null, .null] [] _ from S_X11_timeOf_0 _ _ _ ?_)
  simp +decide (disch := omega) only [↓EQA, CEA, LIA, NIA, Nat.lt_irrefl, Option.toList_some, Option.toList_none, List.cons_append, List.nil_append, true_and, and_true, Nat.reduceAdd, Nat.reduceLeDiff, not_true_eq_false, not_false_eq_true, if_true, if_false, ite_true, ite_false, Int32.reduceLT, ite_not, eq_self, or_true, true_or, ite_self, reduceIte, B_X11_timeOf_0]
  refine u_kindOf hM (by omega) hh ?_
  simp +decide (disch := omega) only [↓EQA, CEA, LIA, NIA, Nat.lt_irrefl, Option.toList_some, Option.toList_none, List.cons_append, List.nil_append, true_and, and_true, Nat.reduceAdd, Nat.reduceLeDiff, not_true_eq_false, not_false_eq_true, if_true, if_false, ite_true, ite_false, Int32.reduceLT, ite_not, eq_self, or_true, true_or, ite_self, reduceIte, B_X11_timeOf_J1, hr, hV.2.2.1 h (by omega), hM.2.1 j hj]
  split
  · next e => exact key 1 (by unfold OU; rw [if_pos e]; rfl)
  · next e =>
    split
    · next q => exact key 1 (by unfold OU; rw [if_neg e, if_pos q]; rfl)
    · next q => exact key 0 (by unfold OU; rw [if_neg e, if_neg q]; rfl)
theorem u_bridgeOf (hM : ToldM w T) (hZ : SZ T) (hO : TOK T) (hh : h < nH T) (hB : 0 < nB T) (hQ : Q (some (.int (LO T h * T 0 2))) w) : Cl (d + 2) m_X11_bridgeOf [.ref 59, .int (nI h)] w Q := by
  have hz := hZ.2
  refine Cl_of k_X11_bridgeOf.1 (Nat.le_of_ble_eq_true rfl) (show Wp m_X11_bridgeOf _ 0 _ 0 [.ref 59, .int (nI h), .null] [] _ from S_X11_bridgeOf_0 _ _ _ ?_)
  simp +decide (disch := omega) only [↓EQA, CEA, LIA, NIA, Nat.lt_irrefl, Option.toList_some, Option.toList_none, List.cons_append, List.nil_append, true_and, and_true, Nat.reduceAdd, Nat.reduceLeDiff, not_true_eq_false, not_false_eq_true, if_true, if_false, ite_true, ite_false, Int32.reduceLT, ite_not, eq_self, or_true, true_or, ite_self, reduceIte, B_X11_bridgeOf_0]
  refine u_storeysOf hM (by omega) hh ?_
  simp +decide (disch := omega) only [↓EQA, CEA, LIA, NIA, Nat.lt_irrefl, Option.toList_some, Option.toList_none, List.cons_append, List.nil_append, true_and, and_true, Nat.reduceAdd, Nat.reduceLeDiff, not_true_eq_false, not_false_eq_true, if_true, if_false, ite_true, ite_false, Int32.reduceLT, ite_not, eq_self, or_true, true_or, ite_self, reduceIte, hM.1, mrg]
  simp +decide (disch := omega) only [↓EQA, CEA, LIA, NIA, Nat.lt_irrefl, Option.toList_some, Option.toList_none, List.cons_append, List.nil_append, true_and, and_true, Nat.reduceAdd, Nat.reduceLeDiff, not_true_eq_false, not_false_eq_true, if_true, if_false, ite_true, ite_false, Int32.reduceLT, ite_not, eq_self, or_true, true_or, ite_self, reduceIte, B_X11_bridgeOf_J1]
  obtain ⟨s, hs1, hs2, hs3⟩ := (hO.2.2.2.2.2.2.1 h hh).2.2
  obtain ⟨b, hb1, hb2, hb3⟩ := hO.2.1
  have e : (0 < T 5 h - T 0 1) = (T 0 1 < T 5 h) := by
    rw [hs1, hb1]
    apply propext
    have := pk_sub_toInt (a := s) (b := b) (by omega) (by omega)
    rw [nI_ltI (by omega) (by omega), Int32.lt_iff_toInt_lt, this]
    show (0 : Int) < _ ↔ _
    omega
  have e0 : 0 < T 0 5 := by rw [hZ.1.1]; exact nI_lt (a := 0) hB (by omega)
  unfold LO at hQ
  rw [if_pos e0] at hQ
  simp only [e]
  split
  · next q => rw [if_pos q] at hQ; exact hQ
  · next q => rw [if_neg q, Int32.zero_mul] at hQ; exact hQ
theorem u_soFarOf {j : Nat} (hM : ToldM w T) (hZ : SZ T) (hO : TOK T) (hV : RM w row V) (hr : aln 0 row = 8) (hP : POS T V) (hh : h < nH T) (hj : j < nB T) (hQ : Q (some (.int (SF T V h (j + 1)))) w) : Cl (d + 4) m_X11_soFarOf [.ref 59, .ref row, .int (nI h), .int (nI j)] w Q := by
  have hz := hZ.2
  refine Cl_of k_X11_soFarOf.1 (Nat.le_of_ble_eq_true rfl) (show Wp m_X11_soFarOf _ 0 _ 0 [.ref 59, .ref row, .int (nI h), .int (nI j), .null, .null] [] _ from S_X11_soFarOf_0 _ _ _ ?_)
  simp +decide (disch := omega) only [↓EQA, CEA, LIA, NIA, Nat.lt_irrefl, Option.toList_some, Option.toList_none, List.cons_append, List.nil_append, true_and, and_true, Nat.reduceAdd, Nat.reduceLeDiff, not_true_eq_false, not_false_eq_true, if_true, if_false, ite_true, ite_false, Int32.reduceLT, ite_not, eq_self, or_true, true_or, ite_self, reduceIte, B_X11_soFarOf_0]
  refine u_bridgeOf hM hZ hO hh (by omega) ?_
  simp +decide (disch := omega) only [↓EQA, CEA, LIA, NIA, Nat.lt_irrefl, Option.toList_some, Option.toList_none, List.cons_append, List.nil_append, true_and, and_true, Nat.reduceAdd, Nat.reduceLeDiff, not_true_eq_false, not_false_eq_true, if_true, if_false, ite_true, ite_false, Int32.reduceLT, ite_not, eq_self, or_true, true_or, ite_self, reduceIte]
  refine fld_loop (f := fun i a => a + TM T V h i) (n := j + 1) (fun i a => Wp m_X11_soFarOf _ 0 Q 10 [.ref 59, .ref row, .int (nI h), .int (nI j), .int a, .int (nI i)] [] w) (fun i hi hd => ?_) ?_
  · refine S_X11_soFarOf_L1 _ _ _ ?_
    simp +decide (disch := omega) only [↓EQA, CEA, LIA, NIA, Nat.lt_irrefl, Option.toList_some, Option.toList_none, List.cons_append, List.nil_append, true_and, and_true, Nat.reduceAdd, Nat.reduceLeDiff, not_true_eq_false, not_false_eq_true, if_true, if_false, ite_true, ite_false, Int32.reduceLT, ite_not, eq_self, or_true, true_or, ite_self, reduceIte, B_X11_soFarOf_L1, show ¬ j < i by omega]
    refine u_timeOf hM hZ hV hr hP hh (by omega) ?_
    simp +decide (disch := omega) only [↓EQA, CEA, LIA, NIA, Nat.lt_irrefl, Option.toList_some, Option.toList_none, List.cons_append, List.nil_append, true_and, and_true, Nat.reduceAdd, Nat.reduceLeDiff, not_true_eq_false, not_false_eq_true, if_true, if_false, ite_true, ite_false, Int32.reduceLT, ite_not, eq_self, or_true, true_or, ite_self, reduceIte]
    exact hd
  · refine S_X11_soFarOf_L1 _ _ _ ?_
    simp +decide (disch := omega) only [↓EQA, CEA, LIA, NIA, Nat.lt_irrefl, Option.toList_some, Option.toList_none, List.cons_append, List.nil_append, true_and, and_true, Nat.reduceAdd, Nat.reduceLeDiff, not_true_eq_false, not_false_eq_true, if_true, if_false, ite_true, ite_false, Int32.reduceLT, ite_not, eq_self, or_true, true_or, ite_self, reduceIte, B_X11_soFarOf_L1, show j < j + 1 by omega]
    exact hQ
theorem u_totalOf (hM : ToldM w T) (hZ : SZ T) (hO : TOK T) (hV : RM w row V) (hr : aln 0 row = 8) (hP : POS T V) (hh : h < nH T) (hQ : Q (some (.int (TO T V h))) w) : Cl (d + 5) m_X11_totalOf [.ref 59, .ref row, .int (nI h)] w Q := by
  have hz := hZ.2
  refine Cl_of k_X11_totalOf.1 (Nat.le_of_ble_eq_true rfl) (show Wp m_X11_totalOf _ 0 _ 0 [.ref 59, .ref row, .int (nI h)] [] _ from S_X11_totalOf_0 _ _ _ ?_)
  simp +decide (disch := omega) only [↓EQA, CEA, LIA, NIA, Nat.lt_irrefl, Option.toList_some, Option.toList_none, List.cons_append, List.nil_append, true_and, and_true, Nat.reduceAdd, Nat.reduceLeDiff, not_true_eq_false, not_false_eq_true, if_true, if_false, ite_true, ite_false, Int32.reduceLT, ite_not, eq_self, or_true, true_or, ite_self, reduceIte, B_X11_totalOf_0, hM.1, hZ.1]
  by_cases hB : nB T = 0
  · simp +decide (disch := omega) only [↓EQA, CEA, LIA, NIA, Nat.lt_irrefl, Option.toList_some, Option.toList_none, List.cons_append, List.nil_append, true_and, and_true, Nat.reduceAdd, Nat.reduceLeDiff, not_true_eq_false, not_false_eq_true, if_true, if_false, ite_true, ite_false, Int32.reduceLT, ite_not, eq_self, or_true, true_or, ite_self, reduceIte, hB, B_X11_totalOf_J1]
    have e : TO T V h = 0 := by
      unfold TO SF
      rw [hB]
      show LO T h * T 0 2 = 0
      unfold LO
      rw [if_neg (by rw [hZ.1.1, hB]; decide), Int32.zero_mul]
    rw [e] at hQ
    exact hQ
  · obtain ⟨m, hm⟩ : ∃ m, nB T = m + 1 := ⟨nB T - 1, by omega⟩
    simp +decide (disch := omega) only [↓EQA, CEA, LIA, NIA, Nat.lt_irrefl, Option.toList_some, Option.toList_none, List.cons_append, List.nil_append, true_and, and_true, Nat.reduceAdd, Nat.reduceLeDiff, not_true_eq_false, not_false_eq_true, if_true, if_false, ite_true, ite_false, Int32.reduceLT, ite_not, eq_self, or_true, true_or, ite_self, reduceIte, hB, hm, nI_pred]
    refine u_soFarOf (j := m) hM hZ hO hV hr hP hh (by omega) ?_
    simp +decide (disch := omega) only [↓EQA, CEA, LIA, NIA, Nat.lt_irrefl, Option.toList_some, Option.toList_none, List.cons_append, List.nil_append, true_and, and_true, Nat.reduceAdd, Nat.reduceLeDiff, not_true_eq_false, not_false_eq_true, if_true, if_false, ite_true, ite_false, Int32.reduceLT, ite_not, eq_self, or_true, true_or, ite_self, reduceIte, B_X11_totalOf_J1]
    unfold TO at hQ
    rw [hm] at hQ
    exact hQ
theorem u_isAhead {g j : Nat} (hM : ToldM w T) (hZ : SZ T) (hO : TOK T) (hV : RM w row V) (hr : aln 0 row = 8) (hP : POS T V) (hh : h < nH T) (hg : g < nH T) (hj : j < nB T) (hQ : Q (some (.int (bI (AH T V h g j = true)))) w) : Cl (d + 5) m_X11_isAhead [.ref 59, .ref row, .int (nI h), .int (nI g), .int (nI j)] w Q := by
  refine Cl_of k_X11_isAhead.1 (Nat.le_of_ble_eq_true rfl) (show Wp m_X11_isAhead _ 0 _ 0 [.ref 59, .ref row, .int (nI h), .int (nI g), .int (nI j)] [] _ from S_X11_isAhead_0 _ _ _ ?_)
  simp +decide (disch := omega) only [↓EQA, CEA, LIA, NIA, Nat.lt_irrefl, Option.toList_some, Option.toList_none, List.cons_append, List.nil_append, true_and, and_true, Nat.reduceAdd, Nat.reduceLeDiff, not_true_eq_false, not_false_eq_true, if_true, if_false, ite_true, ite_false, Int32.reduceLT, ite_not, eq_self, or_true, true_or, ite_self, reduceIte, B_X11_isAhead_0]
  refine u_soFarOf hM hZ hO hV hr hP hh hj ?_
  simp +decide (disch := omega) only [↓EQA, CEA, LIA, NIA, Nat.lt_irrefl, Option.toList_some, Option.toList_none, List.cons_append, List.nil_append, true_and, and_true, Nat.reduceAdd, Nat.reduceLeDiff, not_true_eq_false, not_false_eq_true, if_true, if_false, ite_true, ite_false, Int32.reduceLT, ite_not, eq_self, or_true, true_or, ite_self, reduceIte]
  refine u_soFarOf hM hZ hO hV hr hP hg hj ?_
  simp +decide (disch := omega) only [↓EQA, CEA, LIA, NIA, Nat.lt_irrefl, Option.toList_some, Option.toList_none, List.cons_append, List.nil_append, true_and, and_true, Nat.reduceAdd, Nat.reduceLeDiff, not_true_eq_false, not_false_eq_true, if_true, if_false, ite_true, ite_false, Int32.reduceLT, ite_not, eq_self, or_true, true_or, ite_self, reduceIte, mrg]
  simp +decide (disch := omega) only [↓EQA, CEA, LIA, NIA, Nat.lt_irrefl, Option.toList_some, Option.toList_none, List.cons_append, List.nil_append, true_and, and_true, Nat.reduceAdd, Nat.reduceLeDiff, not_true_eq_false, not_false_eq_true, if_true, if_false, ite_true, ite_false, Int32.reduceLT, ite_not, eq_self, or_true, true_or, ite_self, reduceIte, B_X11_isAhead_J1]
  have e : (SF T V h (j + 1) < SF T V g (j + 1)) = (AH T V h g j = true) := by simp [AH]
  rw [show bI (SF T V h (j + 1) < SF T V g (j + 1)) = bI (AH T V h g j = true) by unfold bI; simp only [e]]
  exact hQ
abbrev MTOT (w : Mem) (X : Nat → Int32) (n : Nat) (L : Nat → Bool) : Prop := (∀ h, h < n → w.1 67 h = X h) ∧ ∀ h, h < 4 → bb (w.1 59 25) (nI h) = outX X n L h
abbrev MST (w : Mem) (X : Nat → Int32) (n : Nat) (L : Nat → Bool) : Prop := MTOT w X n L ∧ ∀ h, h < n → w.1 68 h = nI (rkX X n L h)
theorem u_isBetter {g : Nat} (hS : MTOT w X n L) (hn4 : n ≤ 4) (hg : g < n) (hh : h < n) (hQ : Q (some (.int (bI (befX X n L g h = true)))) w) : Cl (d + 2) m_X11_isBetter [.ref 59, .int (nI g), .int (nI h)] w Q := by
  refine Cl_of k_X11_isBetter.1 (Nat.le_of_ble_eq_true rfl) (show Wp m_X11_isBetter _ 0 _ 0 [.ref 59, .int (nI g), .int (nI h)] [] _ from S_X11_isBetter_0 _ _ _ ?_)
  simp +decide (disch := omega) only [↓EQA, CEA, LIA, NIA, Nat.lt_irrefl, Option.toList_some, Option.toList_none, List.cons_append, List.nil_append, true_and, and_true, Nat.reduceAdd, Nat.reduceLeDiff, not_true_eq_false, not_false_eq_true, if_true, if_false, ite_true, ite_false, Int32.reduceLT, ite_not, eq_self, or_true, true_or, ite_self, reduceIte, B_X11_isBetter_0]
  refine u_hasBit ?_
  simp +decide (disch := omega) only [↓EQA, CEA, LIA, NIA, Nat.lt_irrefl, Option.toList_some, Option.toList_none, List.cons_append, List.nil_append, true_and, and_true, Nat.reduceAdd, Nat.reduceLeDiff, not_true_eq_false, not_false_eq_true, if_true, if_false, ite_true, ite_false, Int32.reduceLT, ite_not, eq_self, or_true, true_or, ite_self, reduceIte]
  refine u_hasBit ?_
  simp +decide (disch := omega) only [↓EQA, CEA, LIA, NIA, Nat.lt_irrefl, Option.toList_some, Option.toList_none, List.cons_append, List.nil_append, true_and, and_true, Nat.reduceAdd, Nat.reduceLeDiff, not_true_eq_false, not_false_eq_true, if_true, if_false, ite_true, ite_false, Int32.reduceLT, ite_not, eq_self, or_true, true_or, ite_self, reduceIte, B_X11_isBetter_J1, hS.1 g hg, hS.1 h hh, hS.2 g (by omega), hS.2 h (by omega)]
  unfold befX at hQ
  have fin : Cl (d + 1) m_X11_hasBit [.int (w.1 59 25), .int (nI h)] w (fun v w' => o_zret .boolean Q [.ref 59, .int (nI g), .int (nI h)] (v.toList ++ []) w') ∨ outX X n L g = outX X n L h := by
    by_cases q : outX X n L g = outX X n L h
    · exact Or.inr q
    · left
      rw [if_neg q] at hQ
      refine u_hasBit ?_
      simp +decide (disch := omega) only [↓EQA, CEA, LIA, NIA, Nat.lt_irrefl, Option.toList_some, Option.toList_none, List.cons_append, List.nil_append, true_and, and_true, Nat.reduceAdd, Nat.reduceLeDiff, not_true_eq_false, not_false_eq_true, if_true, if_false, ite_true, ite_false, Int32.reduceLT, ite_not, eq_self, or_true, true_or, ite_self, reduceIte, hS.2 h (by omega)]
      exact hQ
  unfold bI at hQ ⊢
  by_cases q2 : X g = X h
  · have q1 : ¬ X g < X h := by rw [q2]; exact Int32.lt_irrefl
    cases h1 : outX X n L g <;> cases h2 : outX X n L h <;> by_cases q3 : g < h <;> simp [h1, h2, q1, q2, q3, narrow] at hQ fin ⊢ <;> first | exact hQ | exact fin
  · by_cases q1 : X g < X h <;> cases h1 : outX X n L g <;> cases h2 : outX X n L h <;> simp [h1, h2, q1, q2, narrow] at hQ fin ⊢ <;> first | exact hQ | exact fin
theorem befX_irr {X : Nat → Int32} {n : Nat} {L : Nat → Bool} {h : Nat} : befX X n L h h = false := by
  unfold befX
  simp
theorem u_layRanks (hM : ToldM w T) (hZ : SZ T) (hO : TOK T) (hV : RM w row V) (hr : aln 0 row = 8) (hP : POS T V) (hrow : row = 64 ∨ row = 69) (hlit : wn (w.1 row 6) 0 15) (hQ : ∀ w', Ag (fun j i => j = 67 ∨ j = 68 ∨ (j = 59 ∧ i = 25)) w w' → MST w' (TO T V) (nH T) V.2.2.2.1 → Q none w') : Cl (d + 6) m_X11_layRanks [.ref 59, .ref row] w Q := by
  have hz := hZ.2
  have hn : 1 ≤ nH T := hO.2.2.2.2.2.2.2.2.2.2
  refine Cl_of k_X11_layRanks.1 (Nat.le_of_ble_eq_true rfl) (show Wp m_X11_layRanks _ 0 _ 0 [.ref 59, .ref row, .null, .null, .null, .null] [] _ from S_X11_layRanks_0 _ _ _ ?_)
  simp +decide (disch := omega) only [↓EQA, CEA, LIA, NIA, Nat.lt_irrefl, Option.toList_some, Option.toList_none, List.cons_append, List.nil_append, true_and, and_true, Nat.reduceAdd, Nat.reduceLeDiff, not_true_eq_false, not_false_eq_true, if_true, if_false, ite_true, ite_false, Int32.reduceLT, ite_not, eq_self, or_true, true_or, ite_self, reduceIte, B_X11_layRanks_0]
  -- the third loop, for the house h: counts
  have third : ∀ h, h < nH T → ∀ w1, Ag (fun j i => j = 67 ∨ j = 68 ∨ (j = 59 ∧ i = 25)) w w1 → MTOT w1 (TO T V) (nH T) V.2.2.2.1 → ∀ f : Nat, Wp m_X11_layRanks (d + 5) 0 Q 70 [.ref 59, .ref row, .int (nI f), .int (nI (h + 1)), .int (nI (rkX (TO T V) (nH T) V.2.2.2.1 h)), .int (nI (nH T))] [] (wI w1 68 h (nI (rkX (TO T V) (nH T) V.2.2.2.1 h))) → Wp m_X11_layRanks (d + 5) 0 Q 87 [.ref 59, .ref row, .int (nI f), .int (nI h), .int 0, .int 0] [] w1 := by
    intro h hh w1 ha ht f hnext
    have hM1 : ToldM w1 T := hM.ag ha (fun i z => by omega)
    refine cnt_loop (p := fun g => befX (TO T V) (nH T) V.2.2.2.1 g h) (n := nH T) (fun j a => Wp m_X11_layRanks _ 0 Q 87 [.ref 59, .ref row, .int (nI f), .int (nI h), .int a, .int (nI j)] [] w1) (fun j hj hd => ?_) ?_
    · refine S_X11_layRanks_L3 _ _ _ ?_
      simp +decide (disch := omega) only [↓EQA, CEA, LIA, NIA, Nat.lt_irrefl, Option.toList_some, Option.toList_none, List.cons_append, List.nil_append, true_and, and_true, Nat.reduceAdd, Nat.reduceLeDiff, not_true_eq_false, not_false_eq_true, if_true, if_false, ite_true, ite_false, Int32.reduceLT, ite_not, eq_self, or_true, true_or, ite_self, reduceIte, B_X11_layRanks_L3, B_X11_layRanks_J2, B_X11_layRanks_J3, hM1.1, hZ.1, hj, Int32.add_zero]
      split
      · next e =>
        subst e
        rw [befX_irr] at hd
        exact hd
      · next e =>
        refine u_isBetter ht (by omega) hj hh ?_
        simp +decide (disch := omega) only [↓EQA, CEA, LIA, NIA, Nat.lt_irrefl, Option.toList_some, Option.toList_none, List.cons_append, List.nil_append, true_and, and_true, Nat.reduceAdd, Nat.reduceLeDiff, not_true_eq_false, not_false_eq_true, if_true, if_false, ite_true, ite_false, Int32.reduceLT, ite_not, eq_self, or_true, true_or, ite_self, reduceIte, B_X11_layRanks_J2, B_X11_layRanks_J3, Int32.add_zero, ite_not]
        (try dsimp only at hd); split <;> rename_i hb <;> simp only [hb, decide_true, decide_false, if_true, if_false, Bool.false_eq_true, decide_not, Bool.not_true, Bool.not_false] at hd <;> exact hd
    · refine S_X11_layRanks_L3 _ _ _ ?_
      simp +decide (disch := omega) only [↓EQA, CEA, LIA, NIA, Nat.lt_irrefl, Option.toList_some, Option.toList_none, List.cons_append, List.nil_append, true_and, and_true, Nat.reduceAdd, Nat.reduceLeDiff, not_true_eq_false, not_false_eq_true, if_true, if_false, ite_true, ite_false, Int32.reduceLT, ite_not, eq_self, or_true, true_or, ite_self, reduceIte, B_X11_layRanks_L3, hM1.1, hZ.1]
      exact hnext
  have second : ∀ m h, h + m = nH T → ∀ w1, Ag (fun j i => j = 67 ∨ j = 68 ∨ (j = 59 ∧ i = 25)) w w1 → MTOT w1 (TO T V) (nH T) V.2.2.2.1 → (∀ i, i < h → w1.1 68 i = nI (rkX (TO T V) (nH T) V.2.2.2.1 i)) → ∀ (f : Nat) (a b : Value), (a = .null ∨ ∃ x, a = .int x) → (b = .null ∨ ∃ x, b = .int x) → Wp m_X11_layRanks (d + 5) 0 Q 70 [.ref 59, .ref row, .int (nI f), .int (nI h), a, b] [] w1 := by
    intro m
    induction m with
    | zero =>
      intro h hm w1 ha ht h68 f a b _ _
      have : h = nH T := by omega
      subst this
      have hM1 : ToldM w1 T := hM.ag ha (fun i z => by omega)
      refine S_X11_layRanks_L2 _ _ _ ?_
      simp +decide (disch := omega) only [↓EQA, CEA, LIA, NIA, Nat.lt_irrefl, Option.toList_some, Option.toList_none, List.cons_append, List.nil_append, true_and, and_true, Nat.reduceAdd, Nat.reduceLeDiff, not_true_eq_false, not_false_eq_true, if_true, if_false, ite_true, ite_false, Int32.reduceLT, ite_not, eq_self, or_true, true_or, ite_self, reduceIte, B_X11_layRanks_L2, hM1.1, hZ.1]
      exact hQ w1 ha ⟨ht, h68⟩
    | succ m ih =>
      intro h hm w1 ha ht h68 f a b hab hb9
      have hh : h < nH T := by omega
      have hM1 : ToldM w1 T := hM.ag ha (fun i z => by omega)
      refine S_X11_layRanks_L2 _ _ _ ?_
      have go : Wp m_X11_layRanks (d + 5) 0 Q 87 [.ref 59, .ref row, .int (nI f), .int (nI h), .int 0, .int 0] [] w1 := by
        refine third h hh w1 ha ht f (ih (h + 1) (by omega) _ (ha.wI (Or.inr (Or.inl rfl))) ?_ ?_ f _ _ (Or.inr ⟨_, rfl⟩) (Or.inr ⟨_, rfl⟩))
        · exact ⟨fun i hi => by rw [wI_ne (by decide)]; exact ht.1 i hi, fun i hi => by rw [wI_ne (by decide)]; exact ht.2 i hi⟩
        · intro i hi
          by_cases e : i = h
          · subst e; simp [wI]
          · rw [← h68 i (by omega)]; simp [wI, e]
      rcases hab with rfl | ⟨x, rfl⟩ <;> rcases hb9 with rfl | ⟨y, rfl⟩ <;> (simp +decide (disch := omega) only [↓EQA, CEA, LIA, NIA, Nat.lt_irrefl, Option.toList_some, Option.toList_none, List.cons_append, List.nil_append, true_and, and_true, Nat.reduceAdd, Nat.reduceLeDiff, not_true_eq_false, not_false_eq_true, if_true, if_false, ite_true, ite_false, Int32.reduceLT, ite_not, eq_self, or_true, true_or, ite_self, reduceIte, B_X11_layRanks_L2, hM1.1, hZ.1, hh]; exact go)
  have first : ∀ m h, h + m = nH T → ∀ w1, Ag (fun j i => j = 67 ∨ j = 68 ∨ (j = 59 ∧ i = 25)) w w1 → w1.1 59 25 = w.1 59 25 → (∀ i, i < h → w1.1 67 i = TO T V i) → Wp m_X11_layRanks (d + 5) 0 Q 4 [.ref 59, .ref row, .int (nI (fsX (TO T V) h)), .int (nI h), .null, .null] [] w1 := by
    intro m
    induction m with
    | zero =>
      intro h hm w1 ha h25 h67
      have : h = nH T := by omega
      subst this
      have hM1 : ToldM w1 T := hM.ag ha (fun i z => by omega)
      have hf := fsX_lt (TO T V) (nH T) hn
      have erow : w1.1 row = w.1 row := ha.row (fun i z => by omega)
      obtain ⟨L9, hL9, -, hL9b⟩ := hlit
      refine S_X11_layRanks_L1 _ _ _ ?_
      simp +decide (disch := omega) only [↓EQA, CEA, LIA, NIA, Nat.lt_irrefl, Option.toList_some, Option.toList_none, List.cons_append, List.nil_append, true_and, and_true, Nat.reduceAdd, Nat.reduceLeDiff, not_true_eq_false, not_false_eq_true, if_true, if_false, ite_true, ite_false, Int32.reduceLT, ite_not, eq_self, or_true, true_or, ite_self, reduceIte, B_X11_layRanks_L1, hM1.1, hZ.1, hr, erow, hL9]
      refine second (nH T) 0 (by omega) _ (ha.wI (Or.inr (Or.inr ⟨rfl, rfl⟩))) ⟨?_, ?_⟩ (fun i hi => absurd hi (Nat.not_lt_zero i)) _ _ _ (Or.inl rfl) (Or.inl rfl)
      · intro i hi; rw [wI_ne (by decide)]; exact h67 i hi
      · intro i hi
        have e1 : (wI w1 59 25 (nI L9 &&& (1 <<< (nI (fsX (TO T V) (nH T)) &&& 31) ^^^ -1))).1 59 25 = nI L9 &&& (1 <<< (nI (fsX (TO T V) (nH T)) &&& 31) ^^^ -1) := by simp [wI]
        rw [e1, outs_bit L9 (by omega) _ (by omega) i hi, ← hL9, hV.2.2.2.1 i hi]
        rfl
    | succ m ih =>
      intro h hm w1 ha h25 h67
      have hh : h < nH T := by omega
      have hM1 : ToldM w1 T := hM.ag ha (fun i z => by omega)
      have hV1 : RM w1 row V := by
        have erow : w1.1 row = w.1 row := ha.row (fun i z => by omega)
        have e2 := (ha 59 22 (fun z => by omega)).1
        unfold RM at hV ⊢
        rw [erow, e2]
        exact hV
      have hf : fsX (TO T V) h ≤ h := by
        by_cases q : h = 0
        · subst q; exact Nat.le_refl 0
        · exact Nat.le_of_lt (fsX_lt _ _ (by omega))
      refine S_X11_layRanks_L1 _ _ _ ?_
      simp +decide (disch := omega) only [↓EQA, CEA, LIA, NIA, Nat.lt_irrefl, Option.toList_some, Option.toList_none, List.cons_append, List.nil_append, true_and, and_true, Nat.reduceAdd, Nat.reduceLeDiff, not_true_eq_false, not_false_eq_true, if_true, if_false, ite_true, ite_false, Int32.reduceLT, ite_not, eq_self, or_true, true_or, ite_self, reduceIte, B_X11_layRanks_L1, hM1.1, hZ.1, hh]
      refine u_totalOf hM1 hZ hO hV1 hr hP hh ?_
      have r1 : (wI w1 67 h (TO T V h)).1 67 h = TO T V h := by simp [wI]
      have r2 : (wI w1 67 h (TO T V h)).1 67 (fsX (TO T V) h) = TO T V (fsX (TO T V) h) := by
        by_cases q : fsX (TO T V) h = h
        · rw [q]; exact r1
        · rw [← h67 (fsX (TO T V) h) (by omega)]; simp [wI, q]
      simp +decide (disch := omega) only [↓EQA, CEA, LIA, NIA, Nat.lt_irrefl, Option.toList_some, Option.toList_none, List.cons_append, List.nil_append, true_and, and_true, Nat.reduceAdd, Nat.reduceLeDiff, not_true_eq_false, not_false_eq_true, if_true, if_false, ite_true, ite_false, Int32.reduceLT, ite_not, eq_self, or_true, true_or, ite_self, reduceIte, B_X11_layRanks_J1, r1, r2]
      have hn2 : fsX (TO T V) (h + 1) = if TO T V h < TO T V (fsX (TO T V) h) then h else fsX (TO T V) h := rfl
      have nxt := ih (h + 1) (by omega) (wI w1 67 h (TO T V h)) (ha.wI (Or.inl rfl)) (by rw [wI_ne (by decide)]; exact h25) (fun i hi => by
        by_cases e : i = h
        · subst e; exact r1
        · rw [← h67 i (by omega)]; simp [wI, e])
      rw [hn2] at nxt
      split
      · next q => rw [if_pos q] at nxt; exact nxt
      · next q => rw [if_neg q] at nxt; exact nxt
  exact first (nH T) 0 (by omega) w Ag.rf rfl (fun i hi => absurd hi (Nat.not_lt_zero i))
end MStd
