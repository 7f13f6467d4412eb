/-! ===== races by draws ===== -/
section Races
variable {d : Nat} {w : Mem} {Q : Option Value → Mem → Prop} {T : Tv} {R : Rc} {n h r : Nat}
theorem drF_lt (T : Tv) (x : Int32) (n : Nat) (hn : n ≤ 4) : ∃ s, s < 16 ∧ (drF T x n).2 = nI s := by
  induction n with
  | zero => exact ⟨0, by decide, rfl⟩
  | succ n ih =>
    obtain ⟨s, hs, e⟩ := ih (by omega)
    have es : drF T x (n + 1) = drS T n (drF T x n) := rfl
    rw [es]
    unfold drS
    dsimp only
    split
    · rw [e, stN (by omega) (by omega)]
      exact ⟨_, (tl16 ⟨s, hs⟩ ⟨n, by omega⟩).2.2.2, rfl⟩
    · exact ⟨s, hs, e⟩
/-- the draws of a seed: after i races the number drawn last; where it rains in the race i -/
def sdI (T : Tv) (x : Int32) (i : Nat) : Int32 := fld (fun _ a => (drF T a (nB T)).1) i x
def rainN (T : Tv) (x : Int32) (i : Nat) : Nat := (drF T (sdI T x i) (nB T)).2.toNatClampNeg
theorem rainN_ok (hZ : SZ T) (x : Int32) (i : Nat) : (drF T (sdI T x i) (nB T)).2 = nI (rainN T x i) ∧ rainN T x i < 16 := by
  have hz := hZ.2
  obtain ⟨s, hs, e⟩ := drF_lt T (sdI T x i) (nB T) hz.1
  unfold rainN
  rw [e, tn (by omega)]
  exact ⟨rfl, hs⟩
abbrev RaP : Nat → Nat → Prop := fun j i => j = 18 ∨ j = 19 ∨ j = 20 ∨ j = 21 ∨ (j = 55 ∧ i = 6)
def wonF (T : Tv) (R : Rc) (x : Int32) (h i : Nat) : Bool := decide (rkR T R (rainN T x i) h = 0)
theorem RC.rn2 {w w1 : Mem} {R : Rc} {s s' : Nat} (h : RC w 18 19 (RRain R s)) (ha : Ag (fun j i => (j = 18 ∧ i = 3) ∨ (j = 55 ∧ i = 6)) w w1) (hs : w1.1 18 3 = nI s') : RC w1 18 19 (RRain R s') := by
  obtain ⟨c1, c2, c3, c4, c5⟩ := h
  exact ⟨fun a b => by rw [(ha 19 a (by omega)).1]; exact c1 a b, by rw [(ha 18 2 (by omega)).1]; exact c2, hs, by rw [(ha 18 4 (by omega)).1]; exact c4, by rw [(ha 18 5 (by omega)).1]; exact c5⟩
theorem t_racesWon {x : Int32} {N : Nat} (hT : Told w T) (hZ : SZ T) (hO : TOK T) (hC : RC w 16 17 R) (hR : ROK R) (hh : h < nH T) (hN : N ≤ 60) (hQ : ∀ w', Ag RaP w w' → Q (some (.int (nI (cnt (wonF T R x h) N)))) w') : Cl (d + 6) m_X5_racesWon [.ref 55, .int (nI h), .int x, .int (nI N)] w Q := by
  have hz := hZ.2
  have hH : 1 ≤ nH T := hO.2.2.2.2.2.2.2.2.2.2
  refine Cl_of k_X5_racesWon.1 (Nat.le_of_ble_eq_true rfl) (show Wp m_X5_racesWon _ 0 _ 0 [.ref 55, .int (nI h), .int x, .int (nI N), .null, .null] [] _ from S_X5_racesWon_0 _ _ _ ?_)
  simp +decide (disch := omega) only [↓EQA, CEA, LIA, NIA, Nat.lt_irrefl, Option.toList_some, Option.toList_none, List.cons_append, List.nil_append, true_and, and_true, Nat.reduceAdd, Nat.reduceLeDiff, not_true_eq_false, not_false_eq_true, if_true, if_false, ite_true, ite_false, Int32.reduceLT, ite_not, eq_self, or_true, true_or, ite_self, reduceIte, B_X5_racesWon_0]
  refine t_beginRaces hC fun w0 ha0 hC0 h60 => ?_
  simp +decide (disch := omega) only [↓EQA, CEA, LIA, NIA, Nat.lt_irrefl, Option.toList_some, Option.toList_none, List.cons_append, List.nil_append, true_and, and_true, Nat.reduceAdd, Nat.reduceLeDiff, not_true_eq_false, not_false_eq_true, if_true, if_false, ite_true, ite_false, Int32.reduceLT, ite_not, eq_self, or_true, true_or, ite_self, reduceIte]
  have key : ∀ m j, j + m = N → ∀ w1 s', Ag RaP w w1 → RC w1 18 19 (RRain R s') → w1.1 55 6 = sdI T x j → Wp m_X5_racesWon (d + 5) 0 Q 11 [.ref 55, .int (nI h), .int x, .int (nI N), .int (nI (cnt (wonF T R x h) j)), .int (nI j)] [] w1 := by
    intro m
    induction m with
    | zero =>
      intro j hj w1 s' ha hC1 h6
      have : j = N := by omega
      subst this
      refine S_X5_racesWon_L1 _ _ _ ?_
      simp +decide (disch := omega) only [↓EQA, CEA, LIA, NIA, Nat.lt_irrefl, Option.toList_some, Option.toList_none, List.cons_append, List.nil_append, true_and, and_true, Nat.reduceAdd, Nat.reduceLeDiff, not_true_eq_false, not_false_eq_true, if_true, if_false, ite_true, ite_false, Int32.reduceLT, ite_not, eq_self, or_true, true_or, ite_self, reduceIte, B_X5_racesWon_L1]
      exact hQ w1 ha
    | succ m ih =>
      intro j hj w1 s' ha hC1 h6
      have hj1 : j < N := by omega
      have hT1 : Told w1 T := hT.ag ha (fun a b p q z => by omega)
      have ern := rainN_ok hZ x j
      refine S_X5_racesWon_L1 _ _ _ ?_
      simp +decide (disch := omega) only [↓EQA, CEA, LIA, NIA, Nat.lt_irrefl, Option.toList_some, Option.toList_none, List.cons_append, List.nil_append, true_and, and_true, Nat.reduceAdd, Nat.reduceLeDiff, not_true_eq_false, not_false_eq_true, if_true, if_false, ite_true, ite_false, Int32.reduceLT, ite_not, eq_self, or_true, true_or, ite_self, reduceIte, B_X5_racesWon_L1, hj1]
      refine t_drawRain hT1 hZ fun w2 ha2 g6 g3 => ?_
      have ha3 : Ag RaP w w2 := ha.tr (ha2.wk fun j i z => by rcases z with z | z; exact Or.inl z.1; exact Or.inr (Or.inr (Or.inr (Or.inr z))))
      have hT2 : Told w2 T := hT.ag ha3 (fun a b p q z => by omega)
      rw [h6] at g6 g3
      rw [ern.1] at g3
      have hC2 : RC w2 18 19 (RRain R (rainN T x j)) := hC1.rn2 ha2 g3
      have hR2 : ROK (RRain R (rainN T x j)) := hR.rain ern.2
      simp +decide (disch := omega) only [↓EQA, CEA, LIA, NIA, Nat.lt_irrefl, Option.toList_some, Option.toList_none, List.cons_append, List.nil_append, true_and, and_true, Nat.reduceAdd, Nat.reduceLeDiff, not_true_eq_false, not_false_eq_true, if_true, if_false, ite_true, ite_false, Int32.reduceLT, ite_not, eq_self, or_true, true_or, ite_self, reduceIte]
      refine t_take RK_trial hT2 hZ (hC2.rv hR2) hH (by decide) fun w3 ha4 hS3 => ?_
      have ha5 : Ag RaP w w3 := ha3.tr (ha4.wk fun j i z => z.elim (fun z => Or.inr (Or.inr (Or.inl z))) fun z => Or.inr (Or.inr (Or.inr (Or.inl z))))
      have hC3 : RC w3 18 19 (RRain R (rainN T x j)) := hC2.ag ha4 (fun i z => by omega) (fun i z => by omega)
      have k6 : w3.1 55 6 = sdI T x (j + 1) := by rw [(ha4 55 6 (by omega)).1]; exact g6
      simp +decide (disch := omega) only [↓EQA, CEA, LIA, NIA, Nat.lt_irrefl, Option.toList_some, Option.toList_none, List.cons_append, List.nil_append, true_and, and_true, Nat.reduceAdd, Nat.reduceLeDiff, not_true_eq_false, not_false_eq_true, if_true, if_false, ite_true, ite_false, Int32.reduceLT, ite_not, eq_self, or_true, true_or, ite_self, reduceIte]
      refine t_rankOf hS3 hH (by omega) hh ?_
      have hc : rkX (TO T (VC (RRain R (rainN T x j)))) (nH T) (VC (RRain R (rainN T x j))).2.2.2.1 h ≤ 4 := Nat.le_trans (cnt_le _ _) hz.2.1
      have hn := ih (j + 1) (by omega) w3 _ ha5 hC3 k6
      unfold cnt at hn
      have hwf : wonF T R x h j = decide (rkX (TO T (VC (RRain R (rainN T x j)))) (nH T) (VC (RRain R (rainN T x j))).2.2.2.1 h = 0) := rfl
      rw [hwf] at hn
      simp +decide (disch := omega) only [↓EQA, CEA, LIA, NIA, Nat.lt_irrefl, Option.toList_some, Option.toList_none, List.cons_append, List.nil_append, true_and, and_true, Nat.reduceAdd, Nat.reduceLeDiff, not_true_eq_false, not_false_eq_true, if_true, if_false, ite_true, ite_false, Int32.reduceLT, ite_not, eq_self, or_true, true_or, ite_self, reduceIte, B_X5_racesWon_J1]
      by_cases q : rkX (TO T (VC (RRain R (rainN T x j)))) (nH T) (VC (RRain R (rainN T x j))).2.2.2.1 h = 0
      · simp only [q, decide_true, if_true] at hn ⊢; exact hn
      · simp only [q, decide_false, if_false, Bool.false_eq_true] at hn ⊢; exact hn
  exact key N 0 (by omega) w0 R.2.2.1 (ha0.wk fun j i z => z.elim Or.inl fun z => z.elim (fun z => Or.inr (Or.inl z)) fun z => Or.inr (Or.inr (Or.inr (Or.inr z)))) hC0 h60
/-- the least total of the races -/
def lsR (T : Tv) (R : Rc) (x : Int32) (i : Nat) (a : Int32) : Int32 := fld (fun h a => if TO T (VC (RRain R (rainN T x i))) h < a then TO T (VC (RRain R (rainN T x i))) h else a) (nH T) a
theorem min_fs (X : Nat → Int32) (n : Nat) (hn : 1 ≤ n) (a : Int32) : fld (fun h a => if X h < a then X h else a) n a = if X (fsX X n) < a then X (fsX X n) else a := by
  induction n with
  | zero => omega
  | succ n ih =>
    by_cases q : n = 0
    · subst q
      have e : fsX X 1 = 0 := by show (if X 0 < X 0 then 0 else 0) = 0; split <;> rfl
      rw [e]
      rfl
    · have e : fsX X (n + 1) = if X n < X (fsX X n) then n else fsX X n := rfl
      show (if X n < fld _ n a then X n else fld _ n a) = _
      rw [ih (by omega), e]
      by_cases h1 : X (fsX X n) < a <;> by_cases h2 : X n < X (fsX X n) <;> by_cases h3 : X n < a <;> simp [h1, h2, h3]
      · exact absurd (Int32.lt_trans h2 h1) h3
      · exact absurd (Int32.lt_of_lt_of_le h3 (Int32.not_lt.mp h1)) h2
theorem t_leastOfRaces {x : Int32} {N : Nat} (hT : Told w T) (hZ : SZ T) (hO : TOK T) (hC : RC w 16 17 R) (hR : ROK R) (hN : N ≤ 60) (hQ : ∀ w', Ag RaP w w' → Q (some (.int (fld (lsR T R x) N 1000000))) w') : Cl (d + 6) m_X5_leastOfRaces [.ref 55, .int x, .int (nI N)] w Q := by
  have hz := hZ.2
  have hH : 1 ≤ nH T := hO.2.2.2.2.2.2.2.2.2.2
  refine Cl_of k_X5_leastOfRaces.1 (Nat.le_of_ble_eq_true rfl) (show Wp m_X5_leastOfRaces _ 0 _ 0 [.ref 55, .int x, .int (nI N), .null, .null] [] _ from S_X5_leastOfRaces_0 _ _ _ ?_)
  simp +decide (disch := omega) only [↓EQA, CEA, LIA, NIA, Nat.lt_irrefl, Option.toList_some, Option.toList_none, List.cons_append, List.nil_append, true_and, and_true, Nat.reduceAdd, Nat.reduceLeDiff, not_true_eq_false, not_false_eq_true, if_true, if_false, ite_true, ite_false, Int32.reduceLT, ite_not, eq_self, or_true, true_or, ite_self, reduceIte, B_X5_leastOfRaces_0]
  refine t_beginRaces hC fun w0 ha0 hC0 h60 => ?_
  simp +decide (disch := omega) only [↓EQA, CEA, LIA, NIA, Nat.lt_irrefl, Option.toList_some, Option.toList_none, List.cons_append, List.nil_append, true_and, and_true, Nat.reduceAdd, Nat.reduceLeDiff, not_true_eq_false, not_false_eq_true, if_true, if_false, ite_true, ite_false, Int32.reduceLT, ite_not, eq_self, or_true, true_or, ite_self, reduceIte]
  have key : ∀ m j, j + m = N → ∀ w1 s', Ag RaP w w1 → RC w1 18 19 (RRain R s') → w1.1 55 6 = sdI T x j → Wp m_X5_leastOfRaces (d + 5) 0 Q 11 [.ref 55, .int x, .int (nI N), .int (fld (lsR T R x) j 1000000), .int (nI j)] [] w1 := by
    intro m
    induction m with
    | zero =>
      intro j hj w1 s' ha hC1 h6
      have : j = N := by omega
      subst this
      refine S_X5_leastOfRaces_L1 _ _ _ ?_
      simp +decide (disch := omega) only [↓EQA, CEA, LIA, NIA, Nat.lt_irrefl, Option.toList_some, Option.toList_none, List.cons_append, List.nil_append, true_and, and_true, Nat.reduceAdd, Nat.reduceLeDiff, not_true_eq_false, not_false_eq_true, if_true, if_false, ite_true, ite_false, Int32.reduceLT, ite_not, eq_self, or_true, true_or, ite_self, reduceIte, B_X5_leastOfRaces_L1]
      exact hQ w1 ha
    | succ m ih =>
      intro j hj w1 s' ha hC1 h6
      have hj1 : j < N := by omega
      have hT1 : Told w1 T := hT.ag ha (fun a b p q z => by omega)
      have ern := rainN_ok hZ x j
      have efl : fld (lsR T R x) (j + 1) 1000000 = lsR T R x j (fld (lsR T R x) j 1000000) := rfl
      generalize fld (lsR T R x) j 1000000 = a at efl ⊢
      have el : lsR T R x j a = _ := min_fs (TO T (VC (RRain R (rainN T x j)))) (nH T) hH a
      rw [el] at efl
      refine S_X5_leastOfRaces_L1 _ _ _ ?_
      simp +decide (disch := omega) only [↓EQA, CEA, LIA, NIA, Nat.lt_irrefl, Option.toList_some, Option.toList_none, List.cons_append, List.nil_append, true_and, and_true, Nat.reduceAdd, Nat.reduceLeDiff, not_true_eq_false, not_false_eq_true, if_true, if_false, ite_true, ite_false, Int32.reduceLT, ite_not, eq_self, or_true, true_or, ite_self, reduceIte, B_X5_leastOfRaces_L1, hj1]
      refine t_drawRain hT1 hZ fun w2 ha2 g6 g3 => ?_
      have ha3 : Ag RaP w w2 := ha.tr (ha2.wk fun j i z => by rcases z with z | z; exact Or.inl z.1; exact Or.inr (Or.inr (Or.inr (Or.inr z))))
      have hT2 : Told w2 T := hT.ag ha3 (fun a b p q z => by omega)
      rw [h6] at g6 g3
      rw [ern.1] at g3
      have hC2 : RC w2 18 19 (RRain R (rainN T x j)) := hC1.rn2 ha2 g3
      have hR2 : ROK (RRain R (rainN T x j)) := hR.rain ern.2
      simp +decide (disch := omega) only [↓EQA, CEA, LIA, NIA, Nat.lt_irrefl, Option.toList_some, Option.toList_none, List.cons_append, List.nil_append, true_and, and_true, Nat.reduceAdd, Nat.reduceLeDiff, not_true_eq_false, not_false_eq_true, if_true, if_false, ite_true, ite_false, Int32.reduceLT, ite_not, eq_self, or_true, true_or, ite_self, reduceIte]
      refine t_take RK_trial hT2 hZ (hC2.rv hR2) hH (by decide) fun w3 ha4 hS3 => ?_
      have ha5 : Ag RaP w w3 := ha3.tr (ha4.wk fun j i z => z.elim (fun z => Or.inr (Or.inr (Or.inl z))) fun z => Or.inr (Or.inr (Or.inr (Or.inl z))))
      have hC3 : RC w3 18 19 (RRain R (rainN T x j)) := hC2.ag ha4 (fun i z => by omega) (fun i z => by omega)
      have k6 : w3.1 55 6 = sdI T x (j + 1) := by rw [(ha4 55 6 (by omega)).1]; exact g6
      have hf := fsX_lt (TO T (VC (RRain R (rainN T x j)))) (nH T) hH
      simp +decide (disch := omega) only [↓EQA, CEA, LIA, NIA, Nat.lt_irrefl, Option.toList_some, Option.toList_none, List.cons_append, List.nil_append, true_and, and_true, Nat.reduceAdd, Nat.reduceLeDiff, not_true_eq_false, not_false_eq_true, if_true, if_false, ite_true, ite_false, Int32.reduceLT, ite_not, eq_self, or_true, true_or, ite_self, reduceIte, hS3.2.2.1, hS3.2.1 _ hf]
      have hn := ih (j + 1) (by omega) w3 _ ha5 hC3 k6
      rw [efl] at hn
      first | exact hn | (split <;> rename_i q <;> simp only [q, if_true, if_false] at hn <;> exact hn)
  exact key N 0 (by omega) w0 R.2.2.1 (ha0.wk fun j i z => z.elim Or.inl fun z => z.elim (fun z => Or.inr (Or.inl z)) fun z => Or.inr (Or.inr (Or.inr (Or.inr z)))) hC0 h60
end Races
