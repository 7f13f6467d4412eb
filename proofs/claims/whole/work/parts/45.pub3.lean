/-! ===== ahead, passes; house, lodger, bend ===== -/
theorem usN_add {f g : Nat → Nat} {n : Nat} : usN (fun i => f i + g i) n = usN f n + usN g n := by
  induction n with
  | zero => rfl
  | succ n ih => show usN _ n + (f n + g n) = usN f n + f n + (usN g n + g n); rw [ih]; omega
theorem usN_0 {n : Nat} : usN (fun _ => 0) n = 0 := by
  induction n with
  | zero => rfl
  | succ n ih => show usN _ n + 0 = 0; rw [ih]
theorem cnt_us {p : Nat → Bool} {n : Nat} : cnt p n = usN (fun i => (p i).toNat) n := by
  induction n with
  | zero => rfl
  | succ n ih =>
    rw [cnt_succ, ih]
    show _ = usN _ n + (p n).toNat
    cases p n <;> rfl
theorem us_swap {P : Nat → Nat → Bool} {n : Nat} : ∀ m, usN (fun h => cnt (fun g => P g h) n) m = usN (fun g => cnt (fun h => P g h) m) n := by
  intro m
  induction m with
  | zero => show 0 = usN (fun g => 0) n; rw [usN_0]
  | succ m ih =>
    show usN _ m + cnt (fun g => P g m) n = _
    rw [ih, cnt_us, ← usN_add]
    refine usN_congr fun g _ => ?_
    rw [cnt_succ]
    cases P g m <;> rfl
theorem BS5 (b0 b1 b2 b3 b4 : Bool) : fld (fun l (a : Int32) => a ||| if (match l with | 0 => b0 | 1 => b1 | 2 => b2 | 3 => b3 | _ => b4) then 1 <<< (nI l &&& 31) else 0) 5 0 = nI (cwB (fun l => match l with | 0 => b0 | 1 => b1 | 2 => b2 | 3 => b3 | _ => b4)) := by
  cases b0 <;> cases b1 <;> cases b2 <;> cases b3 <;> cases b4 <;> decide +kernel
theorem fld_ext {α : Type} {f : Nat → α → α} {n m : Nat} {a : α} (h : n ≤ m) (hf : ∀ j a, n ≤ j → j < m → f j a = a) : fld f m a = fld f n a := by
  induction m with
  | zero => have : n = 0 := by omega
            rw [this]
  | succ m ih =>
    by_cases q : n = m + 1
    · rw [q]
    · show f m (fld f m a) = _
      rw [hf m _ (by omega) (by omega), ih (by omega) fun j a p q => hf j a p (by omega)]
theorem BS_cw {T : Tv} {D F : Nat → Nat} {h : Nat} (hU : PU T D F) : BS T (VC (RS D)) h = nI (cw D h) := by
  have hz := hU.1.2
  have e1 : BS T (VC (RS D)) h = fld (fun l (a : Int32) => a ||| if (VC (RS D)).1 h l then 1 <<< (nI l &&& 31) else 0) 5 0 := by
    refine (fld_ext hz.2.2.1 fun j a p q => ?_).symm
    have : (VC (RS D)).1 h j = false := by
      show (cw D h).testBit j = false
      rw [cw_bit D h q, hU.2.2.2.2.1 j p q]; simp
    rw [this]
    exact Int32.or_zero
  rw [e1]
  have e2 := BS5 ((VC (RS D)).1 h 0) ((VC (RS D)).1 h 1) ((VC (RS D)).1 h 2) ((VC (RS D)).1 h 3) ((VC (RS D)).1 h 4)
  rw [fld_congr (g := fun l (a : Int32) => a ||| if (match l with | 0 => (VC (RS D)).1 h 0 | 1 => (VC (RS D)).1 h 1 | 2 => (VC (RS D)).1 h 2 | 3 => (VC (RS D)).1 h 3 | _ => (VC (RS D)).1 h 4) then 1 <<< (nI l &&& 31) else 0) (fun l a hl => by rw [five (p := (VC (RS D)).1 h) l hl]; rfl), e2]
  refine congrArg nI (eq_bits (cwB_lt _) (cw_lt _ _) fun l hl => ?_)
  rw [cwB_bit _ hl]
  exact (five (p := (VC (RS D)).1 h) l hl).symm
section Pub3
variable {d : Nat} {w : Mem} {Q : Option Value → Mem → Prop} {T : Tv} {D F : Nat → Nat} {x y : Int32}
theorem u_areTwo (hM : IMd w T D F) (hZ : SZ T) (hP : PWT T D F) (hQ : Q (some (.int (bI (inR x (nH T) ∧ inR y (nH T) ∧ ¬ x = y)))) w) : Cl (d + 3) m_X11_areTwo [.ref 59, .int x, .int y] w Q := by
  refine Cl_of k_X11_areTwo.1 (Nat.le_of_ble_eq_true rfl) (show Wp m_X11_areTwo _ 0 _ 0 [.ref 59, .int x, .int y] [] _ from S_X11_areTwo_0 _ _ _ ?_)
  simp +decide (disch := omega) only [↓EQA, CEA, LIA, NIA, Nat.lt_irrefl, Option.toList_some, Option.toList_none, List.cons_append, List.nil_append, true_and, and_true, Nat.reduceAdd, Nat.reduceLeDiff, not_true_eq_false, not_false_eq_true, if_true, if_false, ite_true, ite_false, Int32.reduceLT, ite_not, eq_self, or_true, true_or, ite_self, reduceIte, B_X11_areTwo_0]
  refine u_isHouse hM hZ hP ?_
  by_cases g0 : inR x (nH T)
  · rw [show bI (inR x (nH T)) = 1 from if_pos g0]
    simp +decide (disch := omega) only [↓EQA, CEA, LIA, NIA, Nat.lt_irrefl, Option.toList_some, Option.toList_none, List.cons_append, List.nil_append, true_and, and_true, Nat.reduceAdd, Nat.reduceLeDiff, not_true_eq_false, not_false_eq_true, if_true, if_false, ite_true, ite_false, Int32.reduceLT, ite_not, eq_self, or_true, true_or, ite_self, reduceIte]
    refine u_isHouse hM hZ hP ?_
    by_cases g1 : inR y (nH T)
    · rw [show bI (inR y (nH T)) = 1 from if_pos g1]
      simp +decide (disch := omega) only [↓EQA, CEA, LIA, NIA, Nat.lt_irrefl, Option.toList_some, Option.toList_none, List.cons_append, List.nil_append, true_and, and_true, Nat.reduceAdd, Nat.reduceLeDiff, not_true_eq_false, not_false_eq_true, if_true, if_false, ite_true, ite_false, Int32.reduceLT, ite_not, eq_self, or_true, true_or, ite_self, reduceIte, B_X11_areTwo_J1, B_X11_areTwo_J2]
      by_cases g2 : x = y
      · rw [show bI (inR x (nH T) ∧ inR y (nH T) ∧ ¬ x = y) = 0 from if_neg fun z => z.2.2 g2] at hQ
        rw [if_pos g2]; exact hQ
      · rw [show bI (inR x (nH T) ∧ inR y (nH T) ∧ ¬ x = y) = 1 from if_pos ⟨g0, g1, g2⟩] at hQ
        rw [if_neg g2]; exact hQ
    · rw [show bI (inR y (nH T)) = 0 from if_neg g1]
      rw [show bI (inR x (nH T) ∧ inR y (nH T) ∧ ¬ x = y) = 0 from if_neg fun z => g1 z.2.1] at hQ
      simp +decide (disch := omega) only [↓EQA, CEA, LIA, NIA, Nat.lt_irrefl, Option.toList_some, Option.toList_none, List.cons_append, List.nil_append, true_and, and_true, Nat.reduceAdd, Nat.reduceLeDiff, not_true_eq_false, not_false_eq_true, if_true, if_false, ite_true, ite_false, Int32.reduceLT, ite_not, eq_self, or_true, true_or, ite_self, reduceIte, B_X11_areTwo_J1, B_X11_areTwo_J2]; exact hQ
  · rw [show bI (inR x (nH T)) = 0 from if_neg g0]
    rw [show bI (inR x (nH T) ∧ inR y (nH T) ∧ ¬ x = y) = 0 from if_neg fun z => g0 z.1] at hQ
    simp +decide (disch := omega) only [↓EQA, CEA, LIA, NIA, Nat.lt_irrefl, Option.toList_some, Option.toList_none, List.cons_append, List.nil_append, true_and, and_true, Nat.reduceAdd, Nat.reduceLeDiff, not_true_eq_false, not_false_eq_true, if_true, if_false, ite_true, ite_false, Int32.reduceLT, ite_not, eq_self, or_true, true_or, ite_self, reduceIte, B_X11_areTwo_J1, B_X11_areTwo_J2]; exact hQ
theorem p_ahead (hI : IV w T D F) : PRI (d + 20) m_X10_ahead m_X11_ahead [.ref 0, .int x, .int y] [.ref 59, .int x, .int y] w := by
  obtain ⟨hZ, hP, ⟨c1, c2, c3⟩, -⟩ := id hI
  have hz := hZ.2
  by_cases g : inR x (nH T) ∧ inR y (nH T) ∧ ¬ x = y
  · obtain ⟨g0, g1, g2⟩ := id g
    obtain ⟨k, hk, rfl⟩ := inR_k g0 (by omega)
    obtain ⟨j, hj, rfl⟩ := inR_k g1 (by omega)
    have hU := hP.pu (show 1 ≤ nH T by omega)
    obtain ⟨-, hO, hD, hDH, h0, h7, hFr⟩ := id hU
    have g3 : ¬ k = j := fun z => g2 (by rw [z])
    refine askI (v := if frst (fun i => AH T (VC (RS D)) k j i) (nB T) < nB T then nI (frst (fun i => AH T (VC (RS D)) k j i) (nB T)) else -2) (tr := 0) hI (by decide) (fun Q hQ => ?_) (fun w1 K hM hK => ?_)
    · refine Cl_of k_X10_ahead.1 (Nat.le_of_ble_eq_true rfl) (show Wp m_X10_ahead _ 0 _ 0 [.ref 0, .int (nI k), .int (nI j), .null] [] _ from S_X10_ahead_0 _ _ _ ?_)
      simp +decide (disch := omega) only [↓EQA, CEA, LIA, NIA, Nat.lt_irrefl, Option.toList_some, Option.toList_none, List.cons_append, List.nil_append, true_and, and_true, Nat.reduceAdd, Nat.reduceLeDiff, not_true_eq_false, not_false_eq_true, if_true, if_false, ite_true, ite_false, Int32.reduceLT, ite_not, eq_self, or_true, true_or, ite_self, reduceIte, B_X10_ahead_0]
      refine t_isHouse c1 hZ ?_
      rw [show bI (inR _ (nH T)) = 1 from if_pos g0]
      simp +decide (disch := omega) only [↓EQA, CEA, LIA, NIA, Nat.lt_irrefl, Option.toList_some, Option.toList_none, List.cons_append, List.nil_append, true_and, and_true, Nat.reduceAdd, Nat.reduceLeDiff, not_true_eq_false, not_false_eq_true, if_true, if_false, ite_true, ite_false, Int32.reduceLT, ite_not, eq_self, or_true, true_or, ite_self, reduceIte]
      refine t_isHouse c1 hZ ?_
      rw [show bI (inR _ (nH T)) = 1 from if_pos g1]
      simp +decide (disch := omega) only [↓EQA, CEA, LIA, NIA, Nat.lt_irrefl, Option.toList_some, Option.toList_none, List.cons_append, List.nil_append, true_and, and_true, Nat.reduceAdd, Nat.reduceLeDiff, not_true_eq_false, not_false_eq_true, if_true, if_false, ite_true, ite_false, Int32.reduceLT, ite_not, eq_self, or_true, true_or, ite_self, reduceIte, g3]
      refine frst_loop (p := fun i => AH T (VC (RS D)) k j i) (n := nB T) (fun i => Wp m_X10_ahead (d + 19) 0 Q 29 [.ref 0, .int (nI k), .int (nI j), .int (nI i)] [] w) ?_ ?_ ?_
      · intro i hi hp he
        refine S_X10_ahead_L1 _ _ _ ?_
        simp +decide (disch := omega) only [↓EQA, CEA, LIA, NIA, Nat.lt_irrefl, Option.toList_some, Option.toList_none, List.cons_append, List.nil_append, true_and, and_true, Nat.reduceAdd, Nat.reduceLeDiff, not_true_eq_false, not_false_eq_true, if_true, if_false, ite_true, ite_false, Int32.reduceLT, ite_not, eq_self, or_true, true_or, ite_self, reduceIte, B_X10_ahead_L1, c1, hZ.1, hi]
        refine t_isAhead RK_now c1 hZ (c2.rv hD.rok) (by omega) (by omega) hi ?_
        simp +decide (disch := omega) only [↓EQA, CEA, LIA, NIA, Nat.lt_irrefl, Option.toList_some, Option.toList_none, List.cons_append, List.nil_append, true_and, and_true, Nat.reduceAdd, Nat.reduceLeDiff, not_true_eq_false, not_false_eq_true, if_true, if_false, ite_true, ite_false, Int32.reduceLT, ite_not, eq_self, or_true, true_or, ite_self, reduceIte, hp]
        rw [he, if_pos hi] at hQ
        refine t_grantedG Ag.rf c3 fun w9 h9 => ?_
        simp +decide (disch := omega) only [↓EQA, CEA, LIA, NIA, Nat.lt_irrefl, Option.toList_some, Option.toList_none, List.cons_append, List.nil_append, true_and, and_true, Nat.reduceAdd, Nat.reduceLeDiff, not_true_eq_false, not_false_eq_true, if_true, if_false, ite_true, ite_false, Int32.reduceLT, ite_not, eq_self, or_true, true_or, ite_self, reduceIte]
        exact hQ _ h9
      · intro i hi hp hd
        refine S_X10_ahead_L1 _ _ _ ?_
        simp +decide (disch := omega) only [↓EQA, CEA, LIA, NIA, Nat.lt_irrefl, Option.toList_some, Option.toList_none, List.cons_append, List.nil_append, true_and, and_true, Nat.reduceAdd, Nat.reduceLeDiff, not_true_eq_false, not_false_eq_true, if_true, if_false, ite_true, ite_false, Int32.reduceLT, ite_not, eq_self, or_true, true_or, ite_self, reduceIte, B_X10_ahead_L1, c1, hZ.1, hi]
        refine t_isAhead RK_now c1 hZ (c2.rv hD.rok) (by omega) (by omega) hi ?_
        simp +decide (disch := omega) only [↓EQA, CEA, LIA, NIA, Nat.lt_irrefl, Option.toList_some, Option.toList_none, List.cons_append, List.nil_append, true_and, and_true, Nat.reduceAdd, Nat.reduceLeDiff, not_true_eq_false, not_false_eq_true, if_true, if_false, ite_true, ite_false, Int32.reduceLT, ite_not, eq_self, or_true, true_or, ite_self, reduceIte, hp]
        exact hd
      · intro he
        refine S_X10_ahead_L1 _ _ _ ?_
        simp +decide (disch := omega) only [↓EQA, CEA, LIA, NIA, Nat.lt_irrefl, Option.toList_some, Option.toList_none, List.cons_append, List.nil_append, true_and, and_true, Nat.reduceAdd, Nat.reduceLeDiff, not_true_eq_false, not_false_eq_true, if_true, if_false, ite_true, ite_false, Int32.reduceLT, ite_not, eq_self, or_true, true_or, ite_self, reduceIte, B_X10_ahead_L1, c1, hZ.1]
        rw [he, if_neg (Nat.lt_irrefl _)] at hQ
        refine t_grantedG Ag.rf c3 fun w9 h9 => ?_
        simp +decide (disch := omega) only [↓EQA, CEA, LIA, NIA, Nat.lt_irrefl, Option.toList_some, Option.toList_none, List.cons_append, List.nil_append, true_and, and_true, Nat.reduceAdd, Nat.reduceLeDiff, not_true_eq_false, not_false_eq_true, if_true, if_false, ite_true, ite_false, Int32.reduceLT, ite_not, eq_self, or_true, true_or, ite_self, reduceIte]
        exact hQ _ h9
    · refine Cl_of k_X11_ahead.1 (Nat.le_of_ble_eq_true rfl) (show Wp m_X11_ahead _ 0 _ 0 [.ref 59, .int (nI k), .int (nI j), .null] [] _ from S_X11_ahead_0 _ _ _ ?_)
      simp +decide (disch := omega) only [↓EQA, CEA, LIA, NIA, Nat.lt_irrefl, Option.toList_some, Option.toList_none, List.cons_append, List.nil_append, true_and, and_true, Nat.reduceAdd, Nat.reduceLeDiff, not_true_eq_false, not_false_eq_true, if_true, if_false, ite_true, ite_false, Int32.reduceLT, ite_not, eq_self, or_true, true_or, ite_self, reduceIte, B_X11_ahead_0]
      refine u_goodG hM fun wg hMg hA h11 => ?_
      simp +decide (disch := omega) only [↓EQA, CEA, LIA, NIA, Nat.lt_irrefl, Option.toList_some, Option.toList_none, List.cons_append, List.nil_append, true_and, and_true, Nat.reduceAdd, Nat.reduceLeDiff, not_true_eq_false, not_false_eq_true, if_true, if_false, ite_true, ite_false, Int32.reduceLT, ite_not, eq_self, or_true, true_or, ite_self, reduceIte]
      refine u_dryG hMg hA h11 fun wg hMg hA h11 => ?_
      simp +decide (disch := omega) only [↓EQA, CEA, LIA, NIA, Nat.lt_irrefl, Option.toList_some, Option.toList_none, List.cons_append, List.nil_append, true_and, and_true, Nat.reduceAdd, Nat.reduceLeDiff, not_true_eq_false, not_false_eq_true, if_true, if_false, ite_true, ite_false, Int32.reduceLT, ite_not, eq_self, or_true, true_or, ite_self, reduceIte]
      refine u_areTwo hMg hZ hP ?_
      rw [show bI (inR (nI k) (nH T) ∧ inR (nI j) (nH T) ∧ ¬ nI k = nI j) = 1 from if_pos g]
      simp +decide (disch := omega) only [↓EQA, CEA, LIA, NIA, Nat.lt_irrefl, Option.toList_some, Option.toList_none, List.cons_append, List.nil_append, true_and, and_true, Nat.reduceAdd, Nat.reduceLeDiff, not_true_eq_false, not_false_eq_true, if_true, if_false, ite_true, ite_false, Int32.reduceLT, ite_not, eq_self, or_true, true_or, ite_self, reduceIte]
      refine frst_loop (p := fun i => AH T (VC (RS D)) k j i) (n := nB T) (fun i => Wp m_X11_ahead (d + 19) 0 K 25 [.ref 59, .int (nI k), .int (nI j), .int (nI i)] [] wg) ?_ ?_ ?_
      · intro i hi hp he
        refine S_X11_ahead_L1 _ _ _ ?_
        simp +decide (disch := omega) only [↓EQA, CEA, LIA, NIA, Nat.lt_irrefl, Option.toList_some, Option.toList_none, List.cons_append, List.nil_append, true_and, and_true, Nat.reduceAdd, Nat.reduceLeDiff, not_true_eq_false, not_false_eq_true, if_true, if_false, ite_true, ite_false, Int32.reduceLT, ite_not, eq_self, or_true, true_or, ite_self, reduceIte, B_X11_ahead_L1, hMg.1.1, hZ.1, hi]
        refine u_isAhead hMg.1 hZ hO (RM64 hU hMg) rfl (POS0 hU) hk hj hi ?_
        simp +decide (disch := omega) only [↓EQA, CEA, LIA, NIA, Nat.lt_irrefl, Option.toList_some, Option.toList_none, List.cons_append, List.nil_append, true_and, and_true, Nat.reduceAdd, Nat.reduceLeDiff, not_true_eq_false, not_false_eq_true, if_true, if_false, ite_true, ite_false, Int32.reduceLT, ite_not, eq_self, or_true, true_or, ite_self, reduceIte, hp]
        rw [he, if_pos hi] at hK
        exact hK _ ⟨hA, hMg.2.2.2.1, h11⟩
      · intro i hi hp hd
        refine S_X11_ahead_L1 _ _ _ ?_
        simp +decide (disch := omega) only [↓EQA, CEA, LIA, NIA, Nat.lt_irrefl, Option.toList_some, Option.toList_none, List.cons_append, List.nil_append, true_and, and_true, Nat.reduceAdd, Nat.reduceLeDiff, not_true_eq_false, not_false_eq_true, if_true, if_false, ite_true, ite_false, Int32.reduceLT, ite_not, eq_self, or_true, true_or, ite_self, reduceIte, B_X11_ahead_L1, hMg.1.1, hZ.1, hi]
        refine u_isAhead hMg.1 hZ hO (RM64 hU hMg) rfl (POS0 hU) hk hj hi ?_
        simp +decide (disch := omega) only [↓EQA, CEA, LIA, NIA, Nat.lt_irrefl, Option.toList_some, Option.toList_none, List.cons_append, List.nil_append, true_and, and_true, Nat.reduceAdd, Nat.reduceLeDiff, not_true_eq_false, not_false_eq_true, if_true, if_false, ite_true, ite_false, Int32.reduceLT, ite_not, eq_self, or_true, true_or, ite_self, reduceIte, hp]
        exact hd
      · intro he
        refine S_X11_ahead_L1 _ _ _ ?_
        simp +decide (disch := omega) only [↓EQA, CEA, LIA, NIA, Nat.lt_irrefl, Option.toList_some, Option.toList_none, List.cons_append, List.nil_append, true_and, and_true, Nat.reduceAdd, Nat.reduceLeDiff, not_true_eq_false, not_false_eq_true, if_true, if_false, ite_true, ite_false, Int32.reduceLT, ite_not, eq_self, or_true, true_or, ite_self, reduceIte, B_X11_ahead_L1, hMg.1.1, hZ.1]
        rw [he, if_neg (Nat.lt_irrefl _)] at hK
        exact hK _ ⟨hA, hMg.2.2.2.1, h11⟩
  · refine askI (v := -1) (tr := 1) hI (by decide) (fun Q hQ => ?_) (fun w1 K hM hK => ?_)
    · refine Cl_of k_X10_ahead.1 (Nat.le_of_ble_eq_true rfl) (show Wp m_X10_ahead _ 0 _ 0 [.ref 0, .int x, .int y, .null] [] _ from S_X10_ahead_0 _ _ _ ?_)
      simp +decide (disch := omega) only [↓EQA, CEA, LIA, NIA, Nat.lt_irrefl, Option.toList_some, Option.toList_none, List.cons_append, List.nil_append, true_and, and_true, Nat.reduceAdd, Nat.reduceLeDiff, not_true_eq_false, not_false_eq_true, if_true, if_false, ite_true, ite_false, Int32.reduceLT, ite_not, eq_self, or_true, true_or, ite_self, reduceIte, B_X10_ahead_0]
      refine t_isHouse c1 hZ ?_
      by_cases g0 : inR x (nH T)
      · rw [show bI (inR _ (nH T)) = 1 from if_pos g0]
        simp +decide (disch := omega) only [↓EQA, CEA, LIA, NIA, Nat.lt_irrefl, Option.toList_some, Option.toList_none, List.cons_append, List.nil_append, true_and, and_true, Nat.reduceAdd, Nat.reduceLeDiff, not_true_eq_false, not_false_eq_true, if_true, if_false, ite_true, ite_false, Int32.reduceLT, ite_not, eq_self, or_true, true_or, ite_self, reduceIte]
        refine t_isHouse c1 hZ ?_
        by_cases g1 : inR y (nH T)
        · rw [show bI (inR _ (nH T)) = 1 from if_pos g1]
          have g2 : (x = y) = True := eq_true (Classical.byContradiction fun z => g ⟨g0, g1, z⟩)
          simp +decide (disch := omega) only [↓EQA, CEA, LIA, NIA, Nat.lt_irrefl, Option.toList_some, Option.toList_none, List.cons_append, List.nil_append, true_and, and_true, Nat.reduceAdd, Nat.reduceLeDiff, not_true_eq_false, not_false_eq_true, if_true, if_false, ite_true, ite_false, Int32.reduceLT, ite_not, eq_self, or_true, true_or, ite_self, reduceIte, g2, B_X10_ahead_J1]
          refine t_refusedG Ag.rf c3 fun w9 h9 => ?_
          simp +decide (disch := omega) only [↓EQA, CEA, LIA, NIA, Nat.lt_irrefl, Option.toList_some, Option.toList_none, List.cons_append, List.nil_append, true_and, and_true, Nat.reduceAdd, Nat.reduceLeDiff, not_true_eq_false, not_false_eq_true, if_true, if_false, ite_true, ite_false, Int32.reduceLT, ite_not, eq_self, or_true, true_or, ite_self, reduceIte]
          exact hQ _ h9
        · rw [show bI (inR _ (nH T)) = 0 from if_neg g1]
          simp +decide (disch := omega) only [↓EQA, CEA, LIA, NIA, Nat.lt_irrefl, Option.toList_some, Option.toList_none, List.cons_append, List.nil_append, true_and, and_true, Nat.reduceAdd, Nat.reduceLeDiff, not_true_eq_false, not_false_eq_true, if_true, if_false, ite_true, ite_false, Int32.reduceLT, ite_not, eq_self, or_true, true_or, ite_self, reduceIte, B_X10_ahead_J1]
          refine t_refusedG Ag.rf c3 fun w9 h9 => ?_
          simp +decide (disch := omega) only [↓EQA, CEA, LIA, NIA, Nat.lt_irrefl, Option.toList_some, Option.toList_none, List.cons_append, List.nil_append, true_and, and_true, Nat.reduceAdd, Nat.reduceLeDiff, not_true_eq_false, not_false_eq_true, if_true, if_false, ite_true, ite_false, Int32.reduceLT, ite_not, eq_self, or_true, true_or, ite_self, reduceIte]
          exact hQ _ h9
      · rw [show bI (inR _ (nH T)) = 0 from if_neg g0]
        simp +decide (disch := omega) only [↓EQA, CEA, LIA, NIA, Nat.lt_irrefl, Option.toList_some, Option.toList_none, List.cons_append, List.nil_append, true_and, and_true, Nat.reduceAdd, Nat.reduceLeDiff, not_true_eq_false, not_false_eq_true, if_true, if_false, ite_true, ite_false, Int32.reduceLT, ite_not, eq_self, or_true, true_or, ite_self, reduceIte, B_X10_ahead_J1]
        refine t_refusedG Ag.rf c3 fun w9 h9 => ?_
        simp +decide (disch := omega) only [↓EQA, CEA, LIA, NIA, Nat.lt_irrefl, Option.toList_some, Option.toList_none, List.cons_append, List.nil_append, true_and, and_true, Nat.reduceAdd, Nat.reduceLeDiff, not_true_eq_false, not_false_eq_true, if_true, if_false, ite_true, ite_false, Int32.reduceLT, ite_not, eq_self, or_true, true_or, ite_self, reduceIte]
        exact hQ _ h9
    · refine Cl_of k_X11_ahead.1 (Nat.le_of_ble_eq_true rfl) (show Wp m_X11_ahead _ 0 _ 0 [.ref 59, .int x, .int y, .null] [] _ from S_X11_ahead_0 _ _ _ ?_)
      simp +decide (disch := omega) only [↓EQA, CEA, LIA, NIA, Nat.lt_irrefl, Option.toList_some, Option.toList_none, List.cons_append, List.nil_append, true_and, and_true, Nat.reduceAdd, Nat.reduceLeDiff, not_true_eq_false, not_false_eq_true, if_true, if_false, ite_true, ite_false, Int32.reduceLT, ite_not, eq_self, or_true, true_or, ite_self, reduceIte, B_X11_ahead_0]
      refine u_goodG hM fun wg hMg hA h11 => ?_
      simp +decide (disch := omega) only [↓EQA, CEA, LIA, NIA, Nat.lt_irrefl, Option.toList_some, Option.toList_none, List.cons_append, List.nil_append, true_and, and_true, Nat.reduceAdd, Nat.reduceLeDiff, not_true_eq_false, not_false_eq_true, if_true, if_false, ite_true, ite_false, Int32.reduceLT, ite_not, eq_self, or_true, true_or, ite_self, reduceIte]
      refine u_dryG hMg hA h11 fun wg hMg hA h11 => ?_
      simp +decide (disch := omega) only [↓EQA, CEA, LIA, NIA, Nat.lt_irrefl, Option.toList_some, Option.toList_none, List.cons_append, List.nil_append, true_and, and_true, Nat.reduceAdd, Nat.reduceLeDiff, not_true_eq_false, not_false_eq_true, if_true, if_false, ite_true, ite_false, Int32.reduceLT, ite_not, eq_self, or_true, true_or, ite_self, reduceIte]
      refine u_areTwo hMg hZ hP ?_
      rw [show bI (inR x (nH T) ∧ inR y (nH T) ∧ ¬ x = y) = 0 from if_neg g]
      simp +decide (disch := omega) only [↓EQA, CEA, LIA, NIA, Nat.lt_irrefl, Option.toList_some, Option.toList_none, List.cons_append, List.nil_append, true_and, and_true, Nat.reduceAdd, Nat.reduceLeDiff, not_true_eq_false, not_false_eq_true, if_true, if_false, ite_true, ite_false, Int32.reduceLT, ite_not, eq_self, or_true, true_or, ite_self, reduceIte]
      refine u_noG hMg hA fun w9 h9 => ?_
      simp +decide (disch := omega) only [↓EQA, CEA, LIA, NIA, Nat.lt_irrefl, Option.toList_some, Option.toList_none, List.cons_append, List.nil_append, true_and, and_true, Nat.reduceAdd, Nat.reduceLeDiff, not_true_eq_false, not_false_eq_true, if_true, if_false, ite_true, ite_false, Int32.reduceLT, ite_not, eq_self, or_true, true_or, ite_self, reduceIte]
      exact hK _ h9
end Pub3
