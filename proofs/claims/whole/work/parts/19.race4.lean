/-! ===== packing, clearing, passing, what was seen ===== -/
def pkN (R : Rc) : Nat := (((((R.2.1 * 2 ^ 4 + R.2.2.2.1) * 2 ^ 4 + R.2.2.2.2) * 2 ^ 5 + R.1 0) * 2 ^ 5 + R.1 1) * 2 ^ 5 + R.1 2) * 2 ^ 5 + R.1 3
def pkF (R : Rc) (j : Nat) : Nat := fld (fun h a => a * 2 ^ 5 + R.1 h) j ((R.2.1 * 2 ^ 4 + R.2.2.2.1) * 2 ^ 4 + R.2.2.2.2)
theorem pkF_4 (R : Rc) : pkF R 4 = pkN R := rfl
theorem pkF_lt {R : Rc} (hR : ROK R) : ∀ j, j ≤ 4 → pkF R j < 2 ^ (13 + 5 * j) := by
  intro j
  induction j with
  | zero => intro _; show (R.2.1 * 2 ^ 4 + R.2.2.2.1) * 2 ^ 4 + R.2.2.2.2 < 2 ^ 13; obtain ⟨r1, r2, r3, r4, r5⟩ := hR; omega
  | succ j ih =>
    intro hj
    have h1 := ih (by omega)
    have h2 := hR.1 j (by omega)
    show pkF R j * 2 ^ 5 + R.1 j < 2 ^ (13 + 5 * (j + 1))
    have e : 2 ^ (13 + 5 * (j + 1)) = 2 ^ (13 + 5 * j) * 2 ^ 5 := by rw [← Nat.pow_add]; congr 1
    rw [e]
    omega
section Race4
variable {d : Nat} {w : Mem} {Q : Option Value → Mem → Prop} {T : Tv} {R : Rc} {k c h l : Nat}
theorem t_packed (hk : RK k c) (hC : RC w k c R) (hR : ROK R) (hQ : Q (some (.long (lN (pkN R)))) w) : Cl (d + 1) m_X4_packed [.ref k] w Q := by
  obtain ⟨h1, h2, h3, h4, h5, h6⟩ := hk
  obtain ⟨r1, r2, r3, r4, r5⟩ := hR
  have s4 : ((4 : Int32).toInt64 &&& 63).toBitVec.smod 64 = BitVec.ofNat 64 4 := by decide
  have s5 : ((5 : Int32).toInt64 &&& 63).toBitVec.smod 64 = BitVec.ofNat 64 5 := by decide
  refine Cl_of k_X4_packed.1 (Nat.le_of_ble_eq_true rfl) (show Wp m_X4_packed _ 0 _ 0 [.ref k, .null, .null, .null] [] _ from S_X4_packed_0 _ _ _ ?_)
  simp +decide (disch := omega) only [↓EQA, CEA, LIA, NIA, Nat.lt_irrefl, Option.toList_some, Option.toList_none, List.cons_append, List.nil_append, true_and, and_true, Nat.reduceAdd, Nat.reduceLeDiff, not_true_eq_false, not_false_eq_true, if_true, if_false, ite_true, ite_false, Int32.reduceLT, ite_not, eq_self, or_true, true_or, ite_self, reduceIte, B_X4_packed_0, h1, hC.2.1, hC.2.2.2.1, hC.2.2.2.2, nI_l]
  rw [lN_shl s4 (by decide) (by omega) (by omega), lN_shl s4 (by decide) (by omega) (by omega)]
  refine fld_loop (f := fun h a => a * 2 ^ 5 + R.1 h) (n := 4) (a := (R.2.1 * 2 ^ 4 + R.2.2.2.1) * 2 ^ 4 + R.2.2.2.2) (fun j a => Wp m_X4_packed _ 0 Q 28 [.ref k, .long (lN a), .null, .int (nI j)] [] w) (fun j hj hd => ?_) ?_
  · have hb := pkF_lt ⟨r1, r2, r3, r4, r5⟩ j (by omega)
    have hb2 : 2 ^ (13 + 5 * j) ≤ 2 ^ 33 := Nat.pow_le_pow_right (by decide) (by omega)
    have hr := r1 j hj
    unfold pkF at hb
    refine S_X4_packed_L1 _ _ _ ?_
    simp +decide (disch := omega) only [↓EQA, CEA, LIA, NIA, Nat.lt_irrefl, Option.toList_some, Option.toList_none, List.cons_append, List.nil_append, true_and, and_true, Nat.reduceAdd, Nat.reduceLeDiff, not_true_eq_false, not_false_eq_true, if_true, if_false, ite_true, ite_false, Int32.reduceLT, ite_not, eq_self, or_true, true_or, ite_self, reduceIte, B_X4_packed_L1, h1, h3, h4, h5, h6, hj, hC.1 j hj, nI_l]
    rw [lN_shl s5 (by decide) (by omega) (by omega)]
    exact hd
  · refine S_X4_packed_L1 _ _ _ ?_
    simp +decide (disch := omega) only [↓EQA, CEA, LIA, NIA, Nat.lt_irrefl, Option.toList_some, Option.toList_none, List.cons_append, List.nil_append, true_and, and_true, Nat.reduceAdd, Nat.reduceLeDiff, not_true_eq_false, not_false_eq_true, if_true, if_false, ite_true, ite_false, Int32.reduceLT, ite_not, eq_self, or_true, true_or, ite_self, reduceIte, B_X4_packed_L1, h1, h3, h4, h5, h6]
    exact hQ
theorem t_clear (hk : RK k c) (hkc : k ≠ c) (hQ : ∀ w', Ag (fun j _ => j = k ∨ j = c) w w' → RC w' k c (fun _ => 0, 0, 0, 0, 0) → Q none w') : Cl (d + 1) m_X4_clear [.ref k] w Q := by
  obtain ⟨h1, h2, h3, h4, h5, h6⟩ := hk
  refine Cl_of k_X4_clear.1 (Nat.le_of_ble_eq_true rfl) (show Wp m_X4_clear _ 0 _ 0 [.ref k, .null] [] _ from S_X4_clear_0 _ _ _ ?_)
  simp +decide (disch := omega) only [↓EQA, CEA, LIA, NIA, Nat.lt_irrefl, Option.toList_some, Option.toList_none, List.cons_append, List.nil_append, true_and, and_true, Nat.reduceAdd, Nat.reduceLeDiff, not_true_eq_false, not_false_eq_true, if_true, if_false, ite_true, ite_false, Int32.reduceLT, ite_not, eq_self, or_true, true_or, ite_self, reduceIte, B_X4_clear_0]
  have key : ∀ m j, j + m = 4 → ∀ w1, Ag (fun j _ => j = k ∨ j = c) w w1 → (∀ h, h < j → w1.1 c h = 0) → Wp m_X4_clear d 0 Q 2 [.ref k, .int (nI j)] [] w1 := by
    intro m
    induction m with
    | zero =>
      intro j hj w1 ha h7
      have : j = 4 := by omega
      subst this
      refine S_X4_clear_L1 _ _ _ ?_
      simp +decide (disch := omega) only [↓EQA, CEA, LIA, NIA, Nat.lt_irrefl, Option.toList_some, Option.toList_none, List.cons_append, List.nil_append, true_and, and_true, Nat.reduceAdd, Nat.reduceLeDiff, not_true_eq_false, not_false_eq_true, if_true, if_false, ite_true, ite_false, Int32.reduceLT, ite_not, eq_self, or_true, true_or, ite_self, reduceIte, B_X4_clear_L1, h1, h3, h4, h5, h6]
      refine hQ _ ((((ha.wI (Or.inl rfl)).wI (Or.inl rfl)).wI (Or.inl rfl)).wI (Or.inl rfl)) ⟨fun h hh => ?_, ?_, ?_, ?_, ?_⟩
      · simp only [wI_get, hkc.symm, false_and, if_false]; exact h7 h hh
      · simp [wI_get, nI_0]
      · simp [wI_get, nI_0]
      · simp [wI_get, nI_0]
      · simp [wI_get, nI_0]
    | succ m ih =>
      intro j hj w1 ha h7
      have hj4 : j < 4 := by omega
      refine S_X4_clear_L1 _ _ _ ?_
      simp +decide (disch := omega) only [↓EQA, CEA, LIA, NIA, Nat.lt_irrefl, Option.toList_some, Option.toList_none, List.cons_append, List.nil_append, true_and, and_true, Nat.reduceAdd, Nat.reduceLeDiff, not_true_eq_false, not_false_eq_true, if_true, if_false, ite_true, ite_false, Int32.reduceLT, ite_not, eq_self, or_true, true_or, ite_self, reduceIte, B_X4_clear_L1, h1, h3, h4, h5, h6, hj4]
      refine ih (j + 1) (by omega) _ (ha.wI (Or.inr rfl)) fun h hh => ?_
      rw [wI_get]
      by_cases e : h = j
      · subst e; rw [if_pos ⟨rfl, rfl⟩]
      · rw [if_neg (fun z => e z.2)]; exact h7 h (by omega)
  exact key 4 0 rfl w Ag.rf fun h hh => absurd hh (Nat.not_lt_zero _)
theorem nI_m1 (j : Nat) : nI (j + 1) + (-1) = nI j := by rw [← Int32.sub_eq_add_neg]; exact nI_pred j
theorem t_unpack {ra : Nat} (hk : RK k c) (hkc : k ≠ c) (hR : ROK R) (hra : w.1 k 3 = nI ra) (hQ : ∀ w', Ag (fun j _ => j = k ∨ j = c) w w' → RC w' k c (R.1, R.2.1, ra, R.2.2.2) → Q none w') : Cl (d + 1) m_X4_unpack [.ref k, .long (lN (pkN R))] w Q := by
  obtain ⟨h1, h2, h3, h4, h5, h6⟩ := hk
  have s4 : ((4 : Int32).toInt64 &&& 63).toBitVec.smod 64 = BitVec.ofNat 64 4 := by decide
  have s5 : ((5 : Int32).toInt64 &&& 63).toBitVec.smod 64 = BitVec.ofNat 64 5 := by decide
  have e31 : (31 : Int64) = lN (2 ^ 5 - 1) := by decide
  have e15 : (15 : Int64) = lN (2 ^ 4 - 1) := by decide
  refine Cl_of k_X4_unpack.1 (Nat.le_of_ble_eq_true rfl) (show Wp m_X4_unpack _ 0 _ 0 [.ref k, .long (lN (pkN R)), .null, .null, .null, .null] [] _ from S_X4_unpack_0 _ _ _ ?_)
  simp +decide (disch := omega) only [↓EQA, CEA, LIA, NIA, Nat.lt_irrefl, Option.toList_some, Option.toList_none, List.cons_append, List.nil_append, true_and, and_true, Nat.reduceAdd, Nat.reduceLeDiff, not_true_eq_false, not_false_eq_true, if_true, if_false, ite_true, ite_false, Int32.reduceLT, ite_not, eq_self, or_true, true_or, ite_self, reduceIte, B_X4_unpack_0, h1, h3, h4, h5, h6]
  have key : ∀ j, j ≤ 4 → ∀ w1, Ag (fun j _ => j = k ∨ j = c) w w1 → (∀ h, j ≤ h → h < 4 → w1.1 c h = nI (R.1 h)) → w1.1 k 3 = nI ra → Wp m_X4_unpack d 0 Q 11 [.ref k, .long (lN (pkN R)), .null, .long (lN (pkF R j)), .null, .int (nI j + (-1))] [] w1 := by
    intro j
    induction j with
    | zero =>
      intro _ w1 ha h7 h8
      obtain ⟨r1, r2, r3, r4, r5⟩ := hR
      have e0 : (nI 0 + (-1) < 0) = True := by decide
      have f1 : pkF R 0 % 2 ^ 4 = R.2.2.2.2 := by show ((R.2.1 * 2 ^ 4 + R.2.2.2.1) * 2 ^ 4 + R.2.2.2.2) % 2 ^ 4 = _; omega
      have f2 : pkF R 0 / 2 ^ 4 = R.2.1 * 2 ^ 4 + R.2.2.2.1 := by show ((R.2.1 * 2 ^ 4 + R.2.2.2.1) * 2 ^ 4 + R.2.2.2.2) / 2 ^ 4 = _; omega
      have f3 : (R.2.1 * 2 ^ 4 + R.2.2.2.1) % 2 ^ 4 = R.2.2.2.1 := by omega
      have f4 : (R.2.1 * 2 ^ 4 + R.2.2.2.1) / 2 ^ 4 = R.2.1 := by omega
      have hb := pkF_lt (R := R) ⟨r1, r2, r3, r4, r5⟩ 0 (by omega)
      refine S_X4_unpack_L1 _ _ _ ?_
      simp +decide (disch := omega) only [↓EQA, CEA, LIA, NIA, Nat.lt_irrefl, Option.toList_some, Option.toList_none, List.cons_append, List.nil_append, true_and, and_true, Nat.reduceAdd, Nat.reduceLeDiff, not_true_eq_false, not_false_eq_true, if_true, if_false, ite_true, ite_false, Int32.reduceLT, ite_not, eq_self, or_true, true_or, ite_self, reduceIte, B_X4_unpack_L1, e0, h1]
      rw [e15, lN_and (by decide) (by omega), f1, lN_shr s4 (by decide) (by omega), f2, lN_and (by decide) (by omega), f3, lN_shr s4 (by decide) (by omega), f4, lN_i, lN_i, lN_i]
      refine hQ _ (((ha.wI (Or.inl rfl)).wI (Or.inl rfl)).wI (Or.inl rfl)) ⟨fun h hh => ?_, ?_, ?_, ?_, ?_⟩
      · simp only [wI_get, hkc.symm, false_and, if_false]; exact h7 h (Nat.zero_le _) hh
      · simp [wI_get]
      · simp [wI_get, h8]
      · simp [wI_get]
      · simp [wI_get]
    | succ j ih =>
      intro hj w1 ha h7 h8
      have hj4 : j < 4 := by omega
      have hb := pkF_lt hR (j + 1) hj
      have hb2 : 2 ^ (13 + 5 * (j + 1)) ≤ 2 ^ 33 := Nat.pow_le_pow_right (by decide) (by omega)
      have hr := hR.1 j hj4
      have f0 : pkF R (j + 1) = pkF R j * 2 ^ 5 + R.1 j := rfl
      have f1 : pkF R (j + 1) % 2 ^ 5 = R.1 j := by rw [f0]; omega
      have f2 : pkF R (j + 1) / 2 ^ 5 = pkF R j := by rw [f0]; omega
      refine S_X4_unpack_L1 _ _ _ ?_
      simp +decide (disch := omega) only [↓EQA, CEA, LIA, NIA, Nat.lt_irrefl, Option.toList_some, Option.toList_none, List.cons_append, List.nil_append, true_and, and_true, Nat.reduceAdd, Nat.reduceLeDiff, not_true_eq_false, not_false_eq_true, if_true, if_false, ite_true, ite_false, Int32.reduceLT, ite_not, eq_self, or_true, true_or, ite_self, reduceIte, B_X4_unpack_L1, nI_m1, h1, h3, h4, h5, h6, hj4]
      rw [e31, lN_and (by decide) (by omega), f1, lN_shr s5 (by decide) (by omega), f2, lN_i]
      refine ih (by omega) _ (ha.wI (Or.inr rfl)) (fun h hh hh4 => ?_) ?_
      · rw [wI_get]
        by_cases e : h = j
        · subst e; rw [if_pos ⟨rfl, rfl⟩]
        · rw [if_neg (fun z => e z.2)]; exact h7 h (by omega) hh4
      · rw [wI_ne hkc]; exact h8
  exact key 4 (Nat.le_refl _) w Ag.rf (fun h a b => absurd b (by omega)) hra
def PBn (T : Tv) (V : Vw) (h j : Nat) : Nat := cnt (fun g => AH T V g h j && AH T V h g (j + 1)) (nH T)
theorem t_passedBy {V : Vw} {j : Nat} (hk : RK k c) (hT : Told w T) (hZ : SZ T) (hV : RV w k c V) (hh : h < 4) (hj : j + 1 < nB T) (hQ : Q (some (.int (nI (PBn T V h j)))) w) : Cl (d + 5) m_X4_passedBy [.ref k, .int (nI h), .int (nI (j + 1))] w Q := by
  have hk0 := hk
  obtain ⟨h1, h2, h3, h4, h5, h6⟩ := hk
  have hz := hZ.2
  refine Cl_of k_X4_passedBy.1 (Nat.le_of_ble_eq_true rfl) (show Wp m_X4_passedBy _ 0 _ 0 [.ref k, .int (nI h), .int (nI (j + 1)), .null, .null] [] _ from S_X4_passedBy_0 _ _ _ ?_)
  simp +decide (disch := omega) only [↓EQA, CEA, LIA, NIA, Nat.lt_irrefl, Option.toList_some, Option.toList_none, List.cons_append, List.nil_append, true_and, and_true, Nat.reduceAdd, Nat.reduceLeDiff, not_true_eq_false, not_false_eq_true, if_true, if_false, ite_true, ite_false, Int32.reduceLT, ite_not, eq_self, or_true, true_or, ite_self, reduceIte, B_X4_passedBy_0]
  refine cnt_loop (p := fun g => AH T V g h j && AH T V h g (j + 1)) (n := nH T) (fun i a => Wp m_X4_passedBy _ 0 Q 5 [.ref k, .int (nI h), .int (nI (j + 1)), .int a, .int (nI i)] [] w) (fun i hi hd => ?_) ?_
  · refine S_X4_passedBy_L1 _ _ _ ?_
    simp +decide (disch := omega) only [↓EQA, CEA, LIA, NIA, Nat.lt_irrefl, Option.toList_some, Option.toList_none, List.cons_append, List.nil_append, true_and, and_true, Nat.reduceAdd, Nat.reduceLeDiff, not_true_eq_false, not_false_eq_true, if_true, if_false, ite_true, ite_false, Int32.reduceLT, ite_not, eq_self, or_true, true_or, ite_self, reduceIte, B_X4_passedBy_L1, h1, h2, h3, h4, hT, hZ.1, hi, nI_pred]
    refine t_isAhead hk0 hT hZ hV (by omega) hh (by omega) ?_
    simp +decide (disch := omega) only [↓EQA, CEA, LIA, NIA, Nat.lt_irrefl, Option.toList_some, Option.toList_none, List.cons_append, List.nil_append, true_and, and_true, Nat.reduceAdd, Nat.reduceLeDiff, not_true_eq_false, not_false_eq_true, if_true, if_false, ite_true, ite_false, Int32.reduceLT, ite_not, eq_self, or_true, true_or, ite_self, reduceIte, B_X4_passedBy_J1]
    cases q : AH T V i h j
    · simp [q] at hd ⊢
      exact hd
    · simp [q] at hd ⊢
      refine ⟨h1, t_isAhead hk0 hT hZ hV hh (by omega) hj ?_⟩
      simp +decide (disch := omega) only [↓EQA, CEA, LIA, NIA, Nat.lt_irrefl, Option.toList_some, Option.toList_none, List.cons_append, List.nil_append, true_and, and_true, Nat.reduceAdd, Nat.reduceLeDiff, not_true_eq_false, not_false_eq_true, if_true, if_false, ite_true, ite_false, Int32.reduceLT, ite_not, eq_self, or_true, true_or, ite_self, reduceIte, B_X4_passedBy_J1]
      cases q2 : AH T V h i (j + 1) <;> simp [q2] at hd ⊢ <;> exact hd
  · refine S_X4_passedBy_L1 _ _ _ ?_
    simp +decide (disch := omega) only [↓EQA, CEA, LIA, NIA, Nat.lt_irrefl, Option.toList_some, Option.toList_none, List.cons_append, List.nil_append, true_and, and_true, Nat.reduceAdd, Nat.reduceLeDiff, not_true_eq_false, not_false_eq_true, if_true, if_false, ite_true, ite_false, Int32.reduceLT, ite_not, eq_self, or_true, true_or, ite_self, reduceIte, B_X4_passedBy_L1, h1, h2, h3, h4, hT, hZ.1]
    exact hQ
end Race4
