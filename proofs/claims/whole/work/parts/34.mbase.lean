/-! ===== the reference: copying, friends together ===== -/
theorem cnt_one {x n : Nat} : cnt (fun h => decide (x = h + 1)) n = if 1 ≤ x ∧ x ≤ n then 1 else 0 := by
  induction n with
  | zero => show 0 = _; rw [if_neg (by omega)]
  | succ n ih =>
    unfold cnt
    rw [ih]
    by_cases q : x = n + 1
    · rw [if_pos (by simpa using q), if_neg (by omega), if_pos (by omega)]
    · rw [if_neg (by simpa using q)]
      by_cases q2 : 1 ≤ x ∧ x ≤ n
      · rw [if_pos q2, if_pos (by omega)]
      · rw [if_neg q2, if_neg (by omega)]
theorem cnt_false {p : Nat → Bool} {n : Nat} (h : ∀ j, j < n → p j = false) : cnt p n = 0 := by
  induction n with
  | zero => rfl
  | succ n ih => unfold cnt; rw [h n (by omega), ih fun j hj => h j (by omega)]; rfl
theorem usN_congr {f g : Nat → Nat} {n : Nat} (h : ∀ j, j < n → f j = g j) : usN f n = usN g n := fld_congr (fun j a hj => by rw [h j hj]) 0
theorem fr32 : ∀ x : Fin 32, ∀ a b : Fin 5, b.val < a.val → decide (nI x.val &&& nI (2 ^ a.val + 2 ^ b.val) = nI (2 ^ a.val + 2 ^ b.val)) = (x.val.testBit a.val && x.val.testBit b.val) := by decide +kernel
/-- the friends: pairs against bits -/
def FRM (T : Tv) (F : Nat → Nat) : Prop := ∃ A B : Nat → Nat, (∀ i, i < nF T → B i < A i ∧ A i < nL T ∧ T 8 i = nI (2 ^ A i + 2 ^ B i)) ∧ ∀ P : Nat → Nat → Bool, usN (fun i => if P (A i) (B i) then 1 else 0) (nF T) = usN (fun l => cnt (fun m => (F l).testBit m && P l m) l) (nL T)
def tgP (D F : Nat → Nat) (l m : Nat) : Bool := (F l).testBit m && (decide (0 < D l) && decide (D l = D m))
def TGn (D F : Nat → Nat) (n : Nat) : Nat := usN (fun l => cnt (tgP D F l) l) n
theorem TG_eq {T : Tv} {D F : Nat → Nat} {ρ : Nat × Nat × Nat × Nat} (hZ : SZ T) (hD : DH T D) (hF : FRM T F) : frN T (cw D, ρ) (nF T) = TGn D F (nL T) := by
  have hz := hZ.2
  obtain ⟨A, B, h1, h2⟩ := hF
  have h3 := h2 (fun l m => decide (0 < D l) && decide (D l = D m))
  unfold TGn tgP
  rw [← h3]
  show usN (fun i => cnt (frH T (cw D, ρ) i) (nH T)) (nF T) = _
  refine usN_congr fun i hi => ?_
  obtain ⟨a1, a2, a3⟩ := h1 i hi
  have ha := hD (A i) (by omega)
  have e : ∀ h, h < nH T → frH T (cw D, ρ) i h = (decide (D (A i) = h + 1) && decide (D (B i) = h + 1)) := by
    intro h hh
    unfold frH
    rw [a3]
    have := fr32 ⟨cw D h, cw_lt D h⟩ ⟨A i, by omega⟩ ⟨B i, by omega⟩ a1
    rw [cw_bit D h (by omega), cw_bit D h (by omega)] at this
    exact this
  rw [cnt_congr e]
  by_cases q : D (A i) = D (B i)
  · rw [cnt_congr (q := fun h => decide (D (A i) = h + 1)) (fun h hh => by rw [← q, Bool.and_self]), cnt_one]
    simp only [q, decide_true, Bool.and_true, decide_eq_true_eq]
    rw [q] at ha
    by_cases z : 0 < D (B i)
    · rw [if_pos ⟨z, ha⟩, if_pos z]
    · rw [if_neg (fun y => z y.1), if_neg z]
  · rw [cnt_false (fun h hh => by simp; omega)]
    simp [q]
section MBase
variable {d : Nat} {w : Mem} {Q : Option Value → Mem → Prop} {T : Tv} {D F : Nat → Nat} {row i h l r : Nat}
theorem u_copy {a b p q n na nb : Nat} (ha : aln 0 a = na) (hb : aln 0 b = nb) (hab : a ≠ b) (h1 : p + n ≤ na) (h2 : q + n ≤ nb) (hx : na < 2 ^ 30) (hy : nb < 2 ^ 30) (hQ : ∀ w', Ag (fun j i => j = b ∧ q ≤ i ∧ i < q + n) w w' → (∀ k, k < n → w'.1 b (q + k) = w.1 a (p + k)) → Q none w') : Cl (d + 1) m_X11_copy [.ref a, .int (nI p), .ref b, .int (nI q), .int (nI n)] w Q := by
  refine Cl_of k_X11_copy.1 (Nat.le_of_ble_eq_true rfl) (show Wp m_X11_copy _ 0 _ 0 [.ref a, .int (nI p), .ref b, .int (nI q), .int (nI n), .null] [] _ from S_X11_copy_0 _ _ _ ?_)
  simp +decide (disch := omega) only [↓EQA, CEA, LIA, NIA, Nat.lt_irrefl, Option.toList_some, Option.toList_none, List.cons_append, List.nil_append, true_and, and_true, Nat.reduceAdd, Nat.reduceLeDiff, not_true_eq_false, not_false_eq_true, if_true, if_false, ite_true, ite_false, Int32.reduceLT, ite_not, eq_self, or_true, true_or, ite_self, reduceIte, B_X11_copy_0]
  have key : ∀ m j, j + m = n → ∀ w1, Ag (fun j i => j = b ∧ q ≤ i ∧ i < q + n) w w1 → (∀ k, k < j → w1.1 b (q + k) = w.1 a (p + k)) → Wp m_X11_copy d 0 Q 3 [.ref a, .int (nI p), .ref b, .int (nI q), .int (nI n), .int (nI j)] [] w1 := by
    intro m
    induction m with
    | zero =>
      intro j hj w1 hag hk
      have : j = n := by omega
      subst this
      refine S_X11_copy_L1 _ _ _ ?_
      simp +decide (disch := omega) only [↓EQA, CEA, LIA, NIA, Nat.lt_irrefl, Option.toList_some, Option.toList_none, List.cons_append, List.nil_append, true_and, and_true, Nat.reduceAdd, Nat.reduceLeDiff, not_true_eq_false, not_false_eq_true, if_true, if_false, ite_true, ite_false, Int32.reduceLT, ite_not, eq_self, or_true, true_or, ite_self, reduceIte, B_X11_copy_L1]
      exact hQ w1 hag hk
    | succ m ih =>
      intro j hj w1 hag hk
      have hj1 : j < n := by omega
      have b1 : p + j < na := by omega
      have b2 : q + j < nb := by omega
      have er : w1.1 a (p + j) = w.1 a (p + j) := (hag a (p + j) (fun z => hab z.1)).1
      refine S_X11_copy_L1 _ _ _ ?_
      simp +decide (disch := omega) only [↓EQA, CEA, LIA, NIA, Nat.lt_irrefl, Option.toList_some, Option.toList_none, List.cons_append, List.nil_append, true_and, and_true, Nat.reduceAdd, Nat.reduceLeDiff, not_true_eq_false, not_false_eq_true, if_true, if_false, ite_true, ite_false, Int32.reduceLT, ite_not, eq_self, or_true, true_or, ite_self, reduceIte, B_X11_copy_L1, hj1, nI_add, ha, hb, b1, b2, er]
      refine ih (j + 1) (by omega) _ (hag.wI ⟨rfl, by omega, by omega⟩) fun k hk2 => ?_
      rw [wI_get]
      by_cases e : k = j
      · subst e; rw [if_pos ⟨rfl, rfl⟩]
      · rw [if_neg (fun z => e (by omega))]; exact hk k (by omega)
  exact key n 0 (by omega) w Ag.rf fun k hk => absurd hk (Nat.not_lt_zero _)
abbrev ToF (w : Mem) (T : Tv) (F : Nat → Nat) : Prop := ∀ l, l < nL T → w.1 62 (35 + 4 * l + 3) = nI (F l) ∧ F l < 32
theorem ToF.ag {P : Nat → Nat → Prop} {w1 : Mem} (h : ToF w T F) (h1 : Ag P w w1) (hp : ∀ i, ¬ P 62 i) : ToF w1 T F := by
  have e := h1.row hp
  intro l hl
  rw [e]; exact h l hl
theorem MR.ag {P : Nat → Nat → Prop} {w1 : Mem} (h : MR w row D) (h1 : Ag P w w1) (hp : ∀ i, ¬ P row i) : MR w1 row D := by
  have e := h1.row hp
  intro i hi
  rw [e]; exact h i hi
theorem u_togetherOf (hM : ToldM w T) (hZ : SZ T) (hF : ToF w T F) (hr : aln 0 row = 8) (hR : ∀ l, l < nL T → w.1 row l = nI (D l)) (hD : ∀ l, l < 5 → D l ≤ 4) (hQ : Q (some (.int (nI (TGn D F (nL T))))) w) : Cl (d + 2) m_X11_togetherOf [.ref 59, .ref row] w Q := by
  have hz := hZ.2
  refine Cl_of k_X11_togetherOf.1 (Nat.le_of_ble_eq_true rfl) (show Wp m_X11_togetherOf _ 0 _ 0 [.ref 59, .ref row, .null, .null, .null] [] _ from S_X11_togetherOf_0 _ _ _ ?_)
  simp +decide (disch := omega) only [↓EQA, CEA, LIA, NIA, Nat.lt_irrefl, Option.toList_some, Option.toList_none, List.cons_append, List.nil_append, true_and, and_true, Nat.reduceAdd, Nat.reduceLeDiff, not_true_eq_false, not_false_eq_true, if_true, if_false, ite_true, ite_false, Int32.reduceLT, ite_not, eq_self, or_true, true_or, ite_self, reduceIte, B_X11_togetherOf_0]
  suffices key : ∀ v : Value, Wp m_X11_togetherOf (d + 1) 0 Q 4 [.ref 59, .ref row, .int (nI 0), .int (nI 0), v] [] w from key .null
  refine fld_loop (f := fun l a => a + cnt (tgP D F l) l) (n := nL T) (a := 0) (fun l a => ∀ v : Value, Wp m_X11_togetherOf (d + 1) 0 Q 4 [.ref 59, .ref row, .int (nI a), .int (nI l), v] [] w) (fun l hl hd v => ?_) (fun v => ?_)
  · generalize fld (fun l a => a + cnt (tgP D F l) l) l 0 = a0 at hd ⊢
    have hl5 : l < 5 := by omega
    have hdl := hD l hl5
    refine S_X11_togetherOf_L1 _ _ _ ?_
    simp +decide (disch := omega) only [↓EQA, CEA, LIA, NIA, Nat.lt_irrefl, Option.toList_some, Option.toList_none, List.cons_append, List.nil_append, true_and, and_true, Nat.reduceAdd, Nat.reduceLeDiff, not_true_eq_false, not_false_eq_true, if_true, if_false, ite_true, ite_false, Int32.reduceLT, ite_not, eq_self, or_true, true_or, ite_self, reduceIte, B_X11_togetherOf_L1, hM.1, hZ.1, hl]
    refine cnt_loopA (p := tgP D F l) (n := l) (a := a0) (fun m a => Wp m_X11_togetherOf (d + 1) 0 Q 18 [.ref 59, .ref row, .int a, .int (nI l), .int (nI m)] [] w) (fun m hm he => ?_) ?_
    · have hdm := hD m (by omega)
      have e0 : (0 < nI (D l)) = (0 < D l) := lt_n (a := 0) (by decide) (by omega)
      refine S_X11_togetherOf_L2 _ _ _ ?_
      simp +decide (disch := omega) only [↓EQA, CEA, LIA, NIA, Nat.lt_irrefl, Option.toList_some, Option.toList_none, List.cons_append, List.nil_append, true_and, and_true, Nat.reduceAdd, Nat.reduceLeDiff, not_true_eq_false, not_false_eq_true, if_true, if_false, ite_true, ite_false, Int32.reduceLT, ite_not, eq_self, or_true, true_or, ite_self, reduceIte, B_X11_togetherOf_L2, B_X11_togetherOf_J1, B_X11_togetherOf_J2, hm, hr, hR l hl, hR m (by omega), e0, Int32.add_zero]
      by_cases q1 : 0 < D l
      · rw [if_pos q1]
        by_cases q2 : D l = D m
        · rw [if_pos q2]
          simp +decide (disch := omega) only [↓EQA, CEA, LIA, NIA, Nat.lt_irrefl, Option.toList_some, Option.toList_none, List.cons_append, List.nil_append, true_and, and_true, Nat.reduceAdd, Nat.reduceLeDiff, not_true_eq_false, not_false_eq_true, if_true, if_false, ite_true, ite_false, Int32.reduceLT, ite_not, eq_self, or_true, true_or, ite_self, reduceIte, (hF l hl).1]
          refine u_hasBit ?_
          simp +decide (disch := omega) only [↓EQA, CEA, LIA, NIA, Nat.lt_irrefl, Option.toList_some, Option.toList_none, List.cons_append, List.nil_append, true_and, and_true, Nat.reduceAdd, Nat.reduceLeDiff, not_true_eq_false, not_false_eq_true, if_true, if_false, ite_true, ite_false, Int32.reduceLT, ite_not, eq_self, or_true, true_or, ite_self, reduceIte, B_X11_togetherOf_J1, B_X11_togetherOf_J2, bbN (hF l hl).2 (show m < 5 by omega), Int32.add_zero, ite_not]
          rw [show tgP D F l m = (F l).testBit m by unfold tgP; rw [← q2]; simp [q1]] at he
          split
          · next q3 => rw [if_pos q3] at he; exact he
          · next q3 => rw [if_neg q3] at he; exact he
        · rw [if_neg q2]
          rw [show tgP D F l m = false by unfold tgP; simp [q2]] at he
          exact he
      · rw [if_neg q1]
        rw [show tgP D F l m = false by unfold tgP; simp [q1]] at he
        exact he
    · refine S_X11_togetherOf_L2 _ _ _ ?_
      simp +decide (disch := omega) only [↓EQA, CEA, LIA, NIA, Nat.lt_irrefl, Option.toList_some, Option.toList_none, List.cons_append, List.nil_append, true_and, and_true, Nat.reduceAdd, Nat.reduceLeDiff, not_true_eq_false, not_false_eq_true, if_true, if_false, ite_true, ite_false, Int32.reduceLT, ite_not, eq_self, or_true, true_or, ite_self, reduceIte, B_X11_togetherOf_L2]
      exact hd _
  · refine S_X11_togetherOf_L1 _ _ _ ?_
    simp +decide (disch := omega) only [↓EQA, CEA, LIA, NIA, Nat.lt_irrefl, Option.toList_some, Option.toList_none, List.cons_append, List.nil_append, true_and, and_true, Nat.reduceAdd, Nat.reduceLeDiff, not_true_eq_false, not_false_eq_true, if_true, if_false, ite_true, ite_false, Int32.reduceLT, ite_not, eq_self, or_true, true_or, ite_self, reduceIte, B_X11_togetherOf_L1, hM.1, hZ.1]
    exact hQ
theorem u_prizeFor (hM : ToldM w T) (hZ : SZ T) (hr : r < 2 ^ 30) (hQ : Q (some (.int (PZ T r))) w) : Cl (d + 1) m_X11_prizeFor [.ref 59, .int (nI r)] w Q := by
  have hz := hZ.2
  refine Cl_of k_X11_prizeFor.1 (Nat.le_of_ble_eq_true rfl) (show Wp m_X11_prizeFor _ 0 _ 0 [.ref 59, .int (nI r)] [] _ from S_X11_prizeFor_0 _ _ _ ?_)
  unfold PZ at hQ
  by_cases q : r < nP T
  · rw [if_pos q] at hQ
    have e := hM.2.2.2.2.1 r q
    simp +decide (disch := omega) only [↓EQA, CEA, LIA, NIA, Nat.lt_irrefl, Option.toList_some, Option.toList_none, List.cons_append, List.nil_append, true_and, and_true, Nat.reduceAdd, Nat.reduceLeDiff, not_true_eq_false, not_false_eq_true, if_true, if_false, ite_true, ite_false, Int32.reduceLT, ite_not, eq_self, or_true, true_or, ite_self, reduceIte, B_X11_prizeFor_0, B_X11_prizeFor_J1, hM.1, hZ.1, q, e]
    exact hQ
  · rw [if_neg q] at hQ
    simp +decide (disch := omega) only [↓EQA, CEA, LIA, NIA, Nat.lt_irrefl, Option.toList_some, Option.toList_none, List.cons_append, List.nil_append, true_and, and_true, Nat.reduceAdd, Nat.reduceLeDiff, not_true_eq_false, not_false_eq_true, if_true, if_false, ite_true, ite_false, Int32.reduceLT, ite_not, eq_self, or_true, true_or, ite_self, reduceIte, B_X11_prizeFor_0, B_X11_prizeFor_J1, hM.1, hZ.1, q]
    exact hQ
theorem u_aboardAhead {E : Nat → Nat} {p : Nat} (hl : l ≤ 5) (hR : ∀ q, q < l → w.1 69 q = nI (E q)) (hE : ∀ q, q < l → E q ≤ 4) (hp : p ≤ 4) (hQ : Q (some (.int (nI (cnt (fun q => decide (E q = p)) l)))) w) : Cl (d + 1) m_X11_aboardAhead [.ref 59, .int (nI l), .int (nI p)] w Q := by
  refine Cl_of k_X11_aboardAhead.1 (Nat.le_of_ble_eq_true rfl) (show Wp m_X11_aboardAhead _ 0 _ 0 [.ref 59, .int (nI l), .int (nI p), .null, .null] [] _ from S_X11_aboardAhead_0 _ _ _ ?_)
  simp +decide (disch := omega) only [↓EQA, CEA, LIA, NIA, Nat.lt_irrefl, Option.toList_some, Option.toList_none, List.cons_append, List.nil_append, true_and, and_true, Nat.reduceAdd, Nat.reduceLeDiff, not_true_eq_false, not_false_eq_true, if_true, if_false, ite_true, ite_false, Int32.reduceLT, ite_not, eq_self, or_true, true_or, ite_self, reduceIte, B_X11_aboardAhead_0]
  refine cnt_loop (p := fun q => decide (E q = p)) (n := l) (fun j a => Wp m_X11_aboardAhead d 0 Q 5 [.ref 59, .int (nI l), .int (nI p), .int a, .int (nI j)] [] w) (fun j hj hd => ?_) ?_
  · have e := hE j hj
    have hj8 : j < 8 := by omega
    refine S_X11_aboardAhead_L1 _ _ _ ?_
    simp +decide (disch := omega) only [↓EQA, CEA, LIA, NIA, Nat.lt_irrefl, Option.toList_some, Option.toList_none, List.cons_append, List.nil_append, true_and, and_true, Nat.reduceAdd, Nat.reduceLeDiff, not_true_eq_false, not_false_eq_true, if_true, if_false, ite_true, ite_false, Int32.reduceLT, ite_not, eq_self, or_true, true_or, ite_self, reduceIte, B_X11_aboardAhead_L1, B_X11_aboardAhead_J1, hj, hj8, hR j hj, Int32.add_zero]
    (try dsimp only at hd); split <;> rename_i hb <;> simp only [hb, decide_true, decide_false, if_true, if_false, Bool.false_eq_true, decide_not, Bool.not_true, Bool.not_false] at hd <;> exact hd
  · refine S_X11_aboardAhead_L1 _ _ _ ?_
    simp +decide (disch := omega) only [↓EQA, CEA, LIA, NIA, Nat.lt_irrefl, Option.toList_some, Option.toList_none, List.cons_append, List.nil_append, true_and, and_true, Nat.reduceAdd, Nat.reduceLeDiff, not_true_eq_false, not_false_eq_true, if_true, if_false, ite_true, ite_false, Int32.reduceLT, ite_not, eq_self, or_true, true_or, ite_self, reduceIte, B_X11_aboardAhead_L1]
    exact hQ
theorem u_bestAt {p : Nat} (hl : l < 5) (hp : p ≤ 4) (h7 : w.1 70 l = nI p) (hQ : Q (some (.int (plD p))) w) : Cl (d + 1) m_X11_bestAt [.ref 59, .int (nI l)] w Q := by
  unfold plD at hQ
  refine Cl_of k_X11_bestAt.1 (Nat.le_of_ble_eq_true rfl) (show Wp m_X11_bestAt _ 0 _ 0 [.ref 59, .int (nI l)] [] _ from S_X11_bestAt_0 _ _ _ ?_)
  by_cases q : p = 0
  · rw [if_pos q] at hQ
    simp +decide (disch := omega) only [↓EQA, CEA, LIA, NIA, Nat.lt_irrefl, Option.toList_some, Option.toList_none, List.cons_append, List.nil_append, true_and, and_true, Nat.reduceAdd, Nat.reduceLeDiff, not_true_eq_false, not_false_eq_true, if_true, if_false, ite_true, ite_false, Int32.reduceLT, ite_not, eq_self, or_true, true_or, ite_self, reduceIte, B_X11_bestAt_0, B_X11_bestAt_J1, hl, h7, q]
    exact hQ
  · rw [if_neg q] at hQ
    obtain ⟨m, rfl⟩ : ∃ m, p = m + 1 := ⟨p - 1, by omega⟩
    simp +decide (disch := omega) only [↓EQA, CEA, LIA, NIA, Nat.lt_irrefl, Option.toList_some, Option.toList_none, List.cons_append, List.nil_append, true_and, and_true, Nat.reduceAdd, Nat.reduceLeDiff, not_true_eq_false, not_false_eq_true, if_true, if_false, ite_true, ite_false, Int32.reduceLT, ite_not, eq_self, or_true, true_or, ite_self, reduceIte, B_X11_bestAt_0, B_X11_bestAt_J1, hl, h7, q, nI_pred]
    exact hQ
end MBase
