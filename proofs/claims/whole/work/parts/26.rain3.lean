/-! ===== odds, means, hopes, races of the class ===== -/
section Rain3
variable {d : Nat} {w : Mem} {Q : Option Value → Mem → Prop} {T : Tv} {R : Rc} {n h r : Nat}
abbrev RRain (R : Rc) (s : Nat) : Rc := (R.1, R.2.1, s, R.2.2.2)
/-- the rank of a house, its total, if it rains on the bends of s -/
def rkR (T : Tv) (R : Rc) (s h : Nat) : Nat := rkX (TO T (VC (RRain R s))) (nH T) (VC (RRain R s)).2.2.2.1 h
def toR (T : Tv) (R : Rc) (s h : Nat) : Nat := (TO T (VC (RRain R s)) h).toNatClampNeg
def rnN (T : Tv) : Nat := (T 0 3).toNatClampNeg
def wrN (T : Tv) (s : Nat) : Nat := fld (fun k a => a * (if s.testBit k then rnN T else 100 - rnN T)) (nB T) 1
def PZn (T : Tv) (r : Nat) : Nat := (PZ T r).toNatClampNeg
theorem wn.cl {x : Int32} {a b : Nat} (h : wn x a b) (hb : b < 2 ^ 31) : x = nI x.toNatClampNeg ∧ a ≤ x.toNatClampNeg ∧ x.toNatClampNeg ≤ b := by
  obtain ⟨n, rfl, h1, h2⟩ := h
  rw [tn (by omega)]
  exact ⟨rfl, h1, h2⟩
theorem rn_ok (hO : TOK T) : T 0 3 = nI (rnN T) ∧ rnN T ≤ 100 := by
  have := (hO.2.2.2.1).cl (by decide)
  exact ⟨this.1, this.2.2⟩
theorem PZ_ok (hO : TOK T) : PZ T r = nI (PZn T r) ∧ PZn T r ≤ 99 := by
  have : wn (PZ T r) 0 99 := by
    unfold PZ
    split
    · next q => exact hO.2.2.2.2.2.2.2.2.1 r q
    · exact wn0.wk (Nat.le_refl _) (by omega)
  have := this.cl (by decide)
  exact ⟨this.1, this.2.2⟩
theorem wV {R : Rc} (hR : ROK R) : wn (VC R).2.1 0 20 := ⟨R.2.1, rfl, Nat.zero_le _, hR.2.1⟩
theorem ROK.rain {R : Rc} {s : Nat} (hR : ROK R) (hs : s < 16) : ROK (RRain R s) := ⟨hR.1, hR.2.1, hs, hR.2.2.2.1, hR.2.2.2.2⟩
theorem toR_ok {s : Nat} (hZ : SZ T) (hO : TOK T) (hR : ROK R) (hh : h < nH T) : TO T (VC (RRain R s)) h = nI (toR T R s h) ∧ toR T R s h ≤ 30000 := by
  have := (TO_b hZ hO (V := VC (RRain R s)) ⟨R.2.1, rfl, Nat.zero_le _, hR.2.1⟩ hh).cl (by decide)
  exact ⟨this.1, this.2.2⟩
theorem wr_ok {s : Nat} (hZ : SZ T) (hO : TOK T) (hs : s < 16) : WRs T (nI s) = lN (wrN T s) ∧ wrN T s ≤ 100 ^ nB T := by
  have hz := hZ.2
  obtain ⟨e, hr⟩ := rn_ok hO
  unfold WRs wrN
  have key : ∀ m, m ≤ 4 → fld (fun k a => a * (if bb (nI s) (nI k) then (T 0 3).toInt64 else (100 - T 0 3).toInt64)) m 1 = lN (fld (fun k a => a * (if s.testBit k then rnN T else 100 - rnN T)) m 1) ∧ fld (fun k a => a * (if s.testBit k then rnN T else 100 - rnN T)) m 1 ≤ 100 ^ m := by
    intro m
    induction m with
    | zero => intro _; exact ⟨rfl, Nat.le_refl _⟩
    | succ m ih =>
      intro hm
      obtain ⟨i1, i2⟩ := ih (by omega)
      have e1 : (100 - T 0 3).toInt64 = lN (100 - rnN T) := by
        rw [e, show (100 : Int32) = nI 100 from rfl, nI_sub hr, nI_l (by omega)]
      have e2 : (T 0 3).toInt64 = lN (rnN T) := by rw [e, nI_l (by omega)]
      constructor
      · show fld _ m 1 * _ = lN (fld _ m 1 * _)
        rw [i1, ← lN_mul, bbN (by omega) (by omega), e1, e2]
        cases s.testBit m <;> rfl
      · show fld _ m 1 * _ ≤ 100 ^ (m + 1)
        rw [Nat.pow_succ]
        exact Nat.mul_le_mul i2 (by split <;> omega)
  exact key _ (by omega)
/-- a sum -/
def usN (f : Nat → Nat) (n : Nat) : Nat := fld (fun s a => a + f s) n 0
theorem usN_le {f : Nat → Nat} {n B : Nat} (h : ∀ s, s < n → f s ≤ B) : usN f n ≤ n * B := by
  induction n with
  | zero => exact Nat.zero_le _
  | succ n ih =>
    have h1 := ih fun s hs => h s (by omega)
    have h2 := h n (by omega)
    show usN f n + f n ≤ _
    rw [Nat.succ_mul]
    omega
def odF (T : Tv) (R : Rc) (h r s : Nat) : Nat := if rkR T R s h = r then wrN T s else 0
def meF (T : Tv) (R : Rc) (h s : Nat) : Nat := wrN T s * toR T R s h
def hoF (T : Tv) (R : Rc) (h s : Nat) : Nat := wrN T s * PZn T (rkR T R s h)
theorem p4 {n : Nat} (h : n ≤ 4) : 2 ^ n ≤ 16 := by
  have := Nat.pow_le_pow_right (n := 2) (by decide) h
  omega
theorem h4 {n : Nat} (h : n ≤ 4) : 100 ^ n ≤ 100000000 ∧ 1 ≤ 100 ^ n := by
  have := Nat.pow_le_pow_right (n := 100) (by decide) h
  exact ⟨by omega, Nat.pow_pos (by decide)⟩
theorem sh2' {n : Nat} (h : n ≤ 4) : (1 : Int32) <<< (nI n &&& 31) = nI (2 ^ n) := by
  rcases (by omega : n = 0 ∨ n = 1 ∨ n = 2 ∨ n = 3 ∨ n = 4) with rfl | rfl | rfl | rfl | rfl <;> decide
abbrev RnP : Nat → Nat → Prop := fun j i => j = 18 ∨ j = 19 ∨ j = 20 ∨ j = 21 ∨ (j = 55 ∧ (i = 4 ∨ i = 5))
theorem RC.rn {w : Mem} {R : Rc} {s s' : Nat} (h : RC w 18 19 (RRain R s)) : RC (wI w 18 3 (nI s')) 18 19 (RRain R s') := by
  obtain ⟨c1, c2, c3, c4, c5⟩ := h
  exact ⟨fun a b => by rw [wI_ne (by decide)]; exact c1 a b, by rw [← c2]; simp [wI], by simp [wI], by rw [← c4]; simp [wI], by rw [← c5]; simp [wI]⟩
theorem t_findOdds (hT : Told w T) (hZ : SZ T) (hO : TOK T) (hC : RC w 16 17 R) (hR : ROK R) (hh : h < nH T) (hr : r < 4) (hQ : ∀ w', Ag RnP w w' → w'.2 55 4 = lN (usN (odF T R h r) (2 ^ nB T) / Nat.gcd (100 ^ nB T) (usN (odF T R h r) (2 ^ nB T))) → w'.2 55 5 = lN (100 ^ nB T / Nat.gcd (100 ^ nB T) (usN (odF T R h r) (2 ^ nB T))) → Q none w') : Cl (d + 6) m_X5_findOdds [.ref 55, .int (nI h), .int (nI r)] w Q := by
  have hz := hZ.2
  have hH : 1 ≤ nH T := hO.2.2.2.2.2.2.2.2.2.2
  have hp := p4 hz.1
  have h100 := h4 hz.1
  have e2 := sh2' hz.1
  refine Cl_of k_X5_findOdds.1 (Nat.le_of_ble_eq_true rfl) (show Wp m_X5_findOdds _ 0 _ 0 [.ref 55, .int (nI h), .int (nI r), .null] [] _ from S_X5_findOdds_0 _ _ _ ?_)
  simp +decide (disch := omega) only [↓EQA, CEA, LIA, NIA, Nat.lt_irrefl, Option.toList_some, Option.toList_none, List.cons_append, List.nil_append, true_and, and_true, Nat.reduceAdd, Nat.reduceLeDiff, not_true_eq_false, not_false_eq_true, if_true, if_false, ite_true, ite_false, Int32.reduceLT, ite_not, eq_self, or_true, true_or, ite_self, reduceIte, B_X5_findOdds_0]
  refine t_beginRain hT hZ hC fun w0 ha0 hC0 h40 h50 => ?_
  simp +decide (disch := omega) only [↓EQA, CEA, LIA, NIA, Nat.lt_irrefl, Option.toList_some, Option.toList_none, List.cons_append, List.nil_append, true_and, and_true, Nat.reduceAdd, Nat.reduceLeDiff, not_true_eq_false, not_false_eq_true, if_true, if_false, ite_true, ite_false, Int32.reduceLT, ite_not, eq_self, or_true, true_or, ite_self, reduceIte]
  have key : ∀ m s, s + m = 2 ^ nB T → ∀ w1 s', Ag RnP w w1 → RC w1 18 19 (RRain R s') → w1.2 55 4 = lN (usN (odF T R h r) s) → w1.2 55 5 = lN (100 ^ nB T) → Wp m_X5_findOdds (d + 5) 0 Q 6 [.ref 55, .int (nI h), .int (nI r), .int (nI s)] [] w1 := by
    intro m
    induction m with
    | zero =>
      intro s hs w1 s' ha hC1 g4 g5
      have : s = 2 ^ nB T := by omega
      subst this
      have hT1 : Told w1 T := hT.ag ha (fun a b p q z => by omega)
      have hu := usN_le (f := odF T R h r) (n := 2 ^ nB T) (B := 100 ^ nB T) fun s hs => by unfold odF; split; exact (wr_ok hZ hO (by omega)).2; exact Nat.zero_le _
      have hu2 : 2 ^ nB T * 100 ^ nB T ≤ 16 * 100000000 := Nat.mul_le_mul hp h100.1
      refine S_X5_findOdds_L1 _ _ _ ?_
      simp +decide (disch := omega) only [↓EQA, CEA, LIA, NIA, Nat.lt_irrefl, Option.toList_some, Option.toList_none, List.cons_append, List.nil_append, true_and, and_true, Nat.reduceAdd, Nat.reduceLeDiff, not_true_eq_false, not_false_eq_true, if_true, if_false, ite_true, ite_false, Int32.reduceLT, ite_not, eq_self, or_true, true_or, ite_self, reduceIte, B_X5_findOdds_L1, hT1, hZ.1, e2]
      refine t_reduce g4 g5 (by omega) (by omega) h100.2 fun w2 ha2 k4 k5 => ?_
      simp +decide (disch := omega) only [↓EQA, CEA, LIA, NIA, Nat.lt_irrefl, Option.toList_some, Option.toList_none, List.cons_append, List.nil_append, true_and, and_true, Nat.reduceAdd, Nat.reduceLeDiff, not_true_eq_false, not_false_eq_true, if_true, if_false, ite_true, ite_false, Int32.reduceLT, ite_not, eq_self, or_true, true_or, ite_self, reduceIte]
      exact hQ w2 (ha.tr (ha2.wk fun j i z => Or.inr (Or.inr (Or.inr (Or.inr z))))) k4 k5
    | succ m ih =>
      intro s hs w1 s' ha hC1 g4 g5
      have hs1 : s < 2 ^ nB T := by omega
      have hs16 : s < 16 := by omega
      have hT1 : Told w1 T := hT.ag ha (fun a b p q z => by omega)
      have ha2 := ha.wI (k := 18) (p := 3) (v := nI s) (Or.inl rfl)
      have hT2 : Told (wI w1 18 3 (nI s)) T := hT.ag ha2 (fun a b p q z => by omega)
      have hC2 : RC (wI w1 18 3 (nI s)) 18 19 (RRain R s) := hC1.rn
      have hR2 : ROK (RRain R s) := hR.rain hs16
      refine S_X5_findOdds_L1 _ _ _ ?_
      simp +decide (disch := omega) only [↓EQA, CEA, LIA, NIA, Nat.lt_irrefl, Option.toList_some, Option.toList_none, List.cons_append, List.nil_append, true_and, and_true, Nat.reduceAdd, Nat.reduceLeDiff, not_true_eq_false, not_false_eq_true, if_true, if_false, ite_true, ite_false, Int32.reduceLT, ite_not, eq_self, or_true, true_or, ite_self, reduceIte, B_X5_findOdds_L1, hT1, hZ.1, e2, hs1]
      refine t_take RK_trial hT2 hZ (hC2.rv hR2) hH (by decide) fun w3 ha3 hS3 => ?_
      simp +decide (disch := omega) only [↓EQA, CEA, LIA, NIA, Nat.lt_irrefl, Option.toList_some, Option.toList_none, List.cons_append, List.nil_append, true_and, and_true, Nat.reduceAdd, Nat.reduceLeDiff, not_true_eq_false, not_false_eq_true, if_true, if_false, ite_true, ite_false, Int32.reduceLT, ite_not, eq_self, or_true, true_or, ite_self, reduceIte]
      refine t_rankOf hS3 hH (by omega) hh ?_
      have hc : rkR T R s h ≤ 4 := Nat.le_trans (cnt_le _ _) hz.2.1
      have ha4 : Ag RnP w w3 := ha2.tr (ha3.wk fun j i z => z.elim (fun z => Or.inr (Or.inr (Or.inl z))) fun z => Or.inr (Or.inr (Or.inr (Or.inl z))))
      have hC3 : RC w3 18 19 (RRain R s) := hC2.ag ha3 (fun i z => by omega) (fun i z => by omega)
      have hT3 : Told w3 T := hT.ag ha4 (fun a b p q z => by omega)
      have k4 : w3.2 55 4 = lN (usN (odF T R h r) s) := by rw [(ha3 55 4 (by omega)).2]; exact g4
      have k5 : w3.2 55 5 = lN (100 ^ nB T) := by rw [(ha3 55 5 (by omega)).2]; exact g5
      have eo : usN (odF T R h r) (s + 1) = usN (odF T R h r) s + odF T R h r s := rfl
      by_cases q : rkR T R s h = r
      · have q2 : rkX (TO T (VC (RRain R s))) (nH T) (VC (RRain R s)).2.2.2.1 h = r := q
        simp +decide (disch := omega) only [↓EQA, CEA, LIA, NIA, Nat.lt_irrefl, Option.toList_some, Option.toList_none, List.cons_append, List.nil_append, true_and, and_true, Nat.reduceAdd, Nat.reduceLeDiff, not_true_eq_false, not_false_eq_true, if_true, if_false, ite_true, ite_false, Int32.reduceLT, ite_not, eq_self, or_true, true_or, ite_self, reduceIte, B_X5_findOdds_J1, q2, k4]
        refine t_weightOfRain hT3 hZ ?_
        simp +decide (disch := omega) only [↓EQA, CEA, LIA, NIA, Nat.lt_irrefl, Option.toList_some, Option.toList_none, List.cons_append, List.nil_append, true_and, and_true, Nat.reduceAdd, Nat.reduceLeDiff, not_true_eq_false, not_false_eq_true, if_true, if_false, ite_true, ite_false, Int32.reduceLT, ite_not, eq_self, or_true, true_or, ite_self, reduceIte, B_X5_findOdds_J1, (wr_ok hZ hO hs16).1, lN_add]
        refine ih (s + 1) (by omega) _ s (ha4.wL (Or.inr (Or.inr (Or.inr (Or.inr ⟨rfl, Or.inl rfl⟩))))) hC3 ?_ ?_
        · rw [eo]; unfold odF; rw [if_pos q]; simp [wL]
        · rw [← k5]; simp [wL]
      · have q2 : ¬ rkX (TO T (VC (RRain R s))) (nH T) (VC (RRain R s)).2.2.2.1 h = r := q
        have hc2 : rkX (TO T (VC (RRain R s))) (nH T) (VC (RRain R s)).2.2.2.1 h ≤ 4 := hc
        simp +decide (disch := omega) only [↓EQA, CEA, LIA, NIA, Nat.lt_irrefl, Option.toList_some, Option.toList_none, List.cons_append, List.nil_append, true_and, and_true, Nat.reduceAdd, Nat.reduceLeDiff, not_true_eq_false, not_false_eq_true, if_true, if_false, ite_true, ite_false, Int32.reduceLT, ite_not, eq_self, or_true, true_or, ite_self, reduceIte, B_X5_findOdds_J1, q2]
        refine ih (s + 1) (by omega) _ s ha4 hC3 ?_ k5
        rw [eo]; unfold odF; rw [if_neg q]; exact k4
  exact key (2 ^ nB T) 0 (by omega) w0 R.2.2.1 (ha0.wk fun j i z => z.elim Or.inl fun z => z.elim (fun z => Or.inr (Or.inl z)) fun z => Or.inr (Or.inr (Or.inr (Or.inr z)))) hC0 h40 h50
theorem t_findMean (hT : Told w T) (hZ : SZ T) (hO : TOK T) (hC : RC w 16 17 R) (hR : ROK R) (hh : h < nH T) (hQ : ∀ w', Ag RnP w w' → w'.2 55 4 = lN (usN (meF T R h) (2 ^ nB T) / Nat.gcd (100 ^ nB T) (usN (meF T R h) (2 ^ nB T))) → w'.2 55 5 = lN (100 ^ nB T / Nat.gcd (100 ^ nB T) (usN (meF T R h) (2 ^ nB T))) → Q none w') : Cl (d + 6) m_X5_findMean [.ref 55, .int (nI h)] w Q := by
  have hz := hZ.2
  have hH : 1 ≤ nH T := hO.2.2.2.2.2.2.2.2.2.2
  have hp := p4 hz.1
  have h100 := h4 hz.1
  have e2 := sh2' hz.1
  refine Cl_of k_X5_findMean.1 (Nat.le_of_ble_eq_true rfl) (show Wp m_X5_findMean _ 0 _ 0 [.ref 55, .int (nI h), .null] [] _ from S_X5_findMean_0 _ _ _ ?_)
  simp +decide (disch := omega) only [↓EQA, CEA, LIA, NIA, Nat.lt_irrefl, Option.toList_some, Option.toList_none, List.cons_append, List.nil_append, true_and, and_true, Nat.reduceAdd, Nat.reduceLeDiff, not_true_eq_false, not_false_eq_true, if_true, if_false, ite_true, ite_false, Int32.reduceLT, ite_not, eq_self, or_true, true_or, ite_self, reduceIte, B_X5_findMean_0]
  refine t_beginRain hT hZ hC fun w0 ha0 hC0 h40 h50 => ?_
  simp +decide (disch := omega) only [↓EQA, CEA, LIA, NIA, Nat.lt_irrefl, Option.toList_some, Option.toList_none, List.cons_append, List.nil_append, true_and, and_true, Nat.reduceAdd, Nat.reduceLeDiff, not_true_eq_false, not_false_eq_true, if_true, if_false, ite_true, ite_false, Int32.reduceLT, ite_not, eq_self, or_true, true_or, ite_self, reduceIte]
  have key : ∀ m s, s + m = 2 ^ nB T → ∀ w1 s', Ag RnP w w1 → RC w1 18 19 (RRain R s') → w1.2 55 4 = lN (usN (meF T R h) s) → w1.2 55 5 = lN (100 ^ nB T) → Wp m_X5_findMean (d + 5) 0 Q 6 [.ref 55, .int (nI h), .int (nI s)] [] w1 := by
    intro m
    induction m with
    | zero =>
      intro s hs w1 s' ha hC1 g4 g5
      have : s = 2 ^ nB T := by omega
      subst this
      have hT1 : Told w1 T := hT.ag ha (fun a b p q z => by omega)
      have hu := usN_le (f := meF T R h) (n := 2 ^ nB T) (B := 100 ^ nB T * 30000) fun s hs => Nat.mul_le_mul (wr_ok hZ hO (by omega)).2 (toR_ok hZ hO hR hh).2
      have hu2 : 2 ^ nB T * (100 ^ nB T * 30000) ≤ 16 * (100000000 * 30000) := Nat.mul_le_mul hp (Nat.mul_le_mul h100.1 (Nat.le_refl _))
      refine S_X5_findMean_L1 _ _ _ ?_
      simp +decide (disch := omega) only [↓EQA, CEA, LIA, NIA, Nat.lt_irrefl, Option.toList_some, Option.toList_none, List.cons_append, List.nil_append, true_and, and_true, Nat.reduceAdd, Nat.reduceLeDiff, not_true_eq_false, not_false_eq_true, if_true, if_false, ite_true, ite_false, Int32.reduceLT, ite_not, eq_self, or_true, true_or, ite_self, reduceIte, B_X5_findMean_L1, hT1, hZ.1, e2]
      refine t_reduce g4 g5 (by omega) (by omega) h100.2 fun w2 ha2 k4 k5 => ?_
      simp +decide (disch := omega) only [↓EQA, CEA, LIA, NIA, Nat.lt_irrefl, Option.toList_some, Option.toList_none, List.cons_append, List.nil_append, true_and, and_true, Nat.reduceAdd, Nat.reduceLeDiff, not_true_eq_false, not_false_eq_true, if_true, if_false, ite_true, ite_false, Int32.reduceLT, ite_not, eq_self, or_true, true_or, ite_self, reduceIte]
      exact hQ w2 (ha.tr (ha2.wk fun j i z => Or.inr (Or.inr (Or.inr (Or.inr z))))) k4 k5
    | succ m ih =>
      intro s hs w1 s' ha hC1 g4 g5
      have hs1 : s < 2 ^ nB T := by omega
      have hs16 : s < 16 := by omega
      have hT1 : Told w1 T := hT.ag ha (fun a b p q z => by omega)
      have ha2 := ha.wI (k := 18) (p := 3) (v := nI s) (Or.inl rfl)
      have hT2 : Told (wI w1 18 3 (nI s)) T := hT.ag ha2 (fun a b p q z => by omega)
      have hC2 : RC (wI w1 18 3 (nI s)) 18 19 (RRain R s) := hC1.rn
      have hR2 : ROK (RRain R s) := hR.rain hs16
      refine S_X5_findMean_L1 _ _ _ ?_
      simp +decide (disch := omega) only [↓EQA, CEA, LIA, NIA, Nat.lt_irrefl, Option.toList_some, Option.toList_none, List.cons_append, List.nil_append, true_and, and_true, Nat.reduceAdd, Nat.reduceLeDiff, not_true_eq_false, not_false_eq_true, if_true, if_false, ite_true, ite_false, Int32.reduceLT, ite_not, eq_self, or_true, true_or, ite_self, reduceIte, B_X5_findMean_L1, hT1, hZ.1, e2, hs1]
      refine t_take RK_trial hT2 hZ (hC2.rv hR2) hH (by decide) fun w3 ha3 hS3 => ?_
      have ha4 : Ag RnP w w3 := ha2.tr (ha3.wk fun j i z => z.elim (fun z => Or.inr (Or.inr (Or.inl z))) fun z => Or.inr (Or.inr (Or.inr (Or.inl z))))
      have hC3 : RC w3 18 19 (RRain R s) := hC2.ag ha3 (fun i z => by omega) (fun i z => by omega)
      have hT3 : Told w3 T := hT.ag ha4 (fun a b p q z => by omega)
      have k4 : w3.2 55 4 = lN (usN (meF T R h) s) := by rw [(ha3 55 4 (by omega)).2]; exact g4
      have k5 : w3.2 55 5 = lN (100 ^ nB T) := by rw [(ha3 55 5 (by omega)).2]; exact g5
      have eo : usN (meF T R h) (s + 1) = usN (meF T R h) s + meF T R h s := rfl
      have et := toR_ok (s := s) hZ hO hR hh
      simp +decide (disch := omega) only [↓EQA, CEA, LIA, NIA, Nat.lt_irrefl, Option.toList_some, Option.toList_none, List.cons_append, List.nil_append, true_and, and_true, Nat.reduceAdd, Nat.reduceLeDiff, not_true_eq_false, not_false_eq_true, if_true, if_false, ite_true, ite_false, Int32.reduceLT, ite_not, eq_self, or_true, true_or, ite_self, reduceIte, k4]
      refine t_weightOfRain hT3 hZ ?_
      simp +decide (disch := omega) only [↓EQA, CEA, LIA, NIA, Nat.lt_irrefl, Option.toList_some, Option.toList_none, List.cons_append, List.nil_append, true_and, and_true, Nat.reduceAdd, Nat.reduceLeDiff, not_true_eq_false, not_false_eq_true, if_true, if_false, ite_true, ite_false, Int32.reduceLT, ite_not, eq_self, or_true, true_or, ite_self, reduceIte, (wr_ok hZ hO hs16).1, hS3.2.1 h hh, et.1, nI_l, lN_mul, lN_add]
      refine ih (s + 1) (by omega) _ s (ha4.wL (Or.inr (Or.inr (Or.inr (Or.inr ⟨rfl, Or.inl rfl⟩))))) hC3 ?_ ?_
      · rw [eo]; unfold meF; simp [wL]
      · rw [← k5]; simp [wL]
  exact key (2 ^ nB T) 0 (by omega) w0 R.2.2.1 (ha0.wk fun j i z => z.elim Or.inl fun z => z.elim (fun z => Or.inr (Or.inl z)) fun z => Or.inr (Or.inr (Or.inr (Or.inr z)))) hC0 h40 h50
theorem t_findHopes (hT : Told w T) (hZ : SZ T) (hO : TOK T) (hC : RC w 16 17 R) (hR : ROK R) (hh : h < nH T) (hQ : ∀ w', Ag RnP w w' → w'.2 55 4 = lN (usN (hoF T R h) (2 ^ nB T) / Nat.gcd (100 ^ nB T) (usN (hoF T R h) (2 ^ nB T))) → w'.2 55 5 = lN (100 ^ nB T / Nat.gcd (100 ^ nB T) (usN (hoF T R h) (2 ^ nB T))) → Q none w') : Cl (d + 6) m_X5_findHopes [.ref 55, .int (nI h)] w Q := by
  have hz := hZ.2
  have hH : 1 ≤ nH T := hO.2.2.2.2.2.2.2.2.2.2
  have hp := p4 hz.1
  have h100 := h4 hz.1
  have e2 := sh2' hz.1
  refine Cl_of k_X5_findHopes.1 (Nat.le_of_ble_eq_true rfl) (show Wp m_X5_findHopes _ 0 _ 0 [.ref 55, .int (nI h), .null] [] _ from S_X5_findHopes_0 _ _ _ ?_)
  simp +decide (disch := omega) only [↓EQA, CEA, LIA, NIA, Nat.lt_irrefl, Option.toList_some, Option.toList_none, List.cons_append, List.nil_append, true_and, and_true, Nat.reduceAdd, Nat.reduceLeDiff, not_true_eq_false, not_false_eq_true, if_true, if_false, ite_true, ite_false, Int32.reduceLT, ite_not, eq_self, or_true, true_or, ite_self, reduceIte, B_X5_findHopes_0]
  refine t_beginRain hT hZ hC fun w0 ha0 hC0 h40 h50 => ?_
  simp +decide (disch := omega) only [↓EQA, CEA, LIA, NIA, Nat.lt_irrefl, Option.toList_some, Option.toList_none, List.cons_append, List.nil_append, true_and, and_true, Nat.reduceAdd, Nat.reduceLeDiff, not_true_eq_false, not_false_eq_true, if_true, if_false, ite_true, ite_false, Int32.reduceLT, ite_not, eq_self, or_true, true_or, ite_self, reduceIte]
  have key : ∀ m s, s + m = 2 ^ nB T → ∀ w1 s', Ag RnP w w1 → RC w1 18 19 (RRain R s') → w1.2 55 4 = lN (usN (hoF T R h) s) → w1.2 55 5 = lN (100 ^ nB T) → Wp m_X5_findHopes (d + 5) 0 Q 6 [.ref 55, .int (nI h), .int (nI s)] [] w1 := by
    intro m
    induction m with
    | zero =>
      intro s hs w1 s' ha hC1 g4 g5
      have : s = 2 ^ nB T := by omega
      subst this
      have hT1 : Told w1 T := hT.ag ha (fun a b p q z => by omega)
      have hu := usN_le (f := hoF T R h) (n := 2 ^ nB T) (B := 100 ^ nB T * 99) fun s hs => Nat.mul_le_mul (wr_ok hZ hO (by omega)).2 (PZ_ok hO).2
      have hu2 : 2 ^ nB T * (100 ^ nB T * 99) ≤ 16 * (100000000 * 99) := Nat.mul_le_mul hp (Nat.mul_le_mul h100.1 (Nat.le_refl _))
      refine S_X5_findHopes_L1 _ _ _ ?_
      simp +decide (disch := omega) only [↓EQA, CEA, LIA, NIA, Nat.lt_irrefl, Option.toList_some, Option.toList_none, List.cons_append, List.nil_append, true_and, and_true, Nat.reduceAdd, Nat.reduceLeDiff, not_true_eq_false, not_false_eq_true, if_true, if_false, ite_true, ite_false, Int32.reduceLT, ite_not, eq_self, or_true, true_or, ite_self, reduceIte, B_X5_findHopes_L1, hT1, hZ.1, e2]
      refine t_reduce g4 g5 (by omega) (by omega) h100.2 fun w2 ha2 k4 k5 => ?_
      simp +decide (disch := omega) only [↓EQA, CEA, LIA, NIA, Nat.lt_irrefl, Option.toList_some, Option.toList_none, List.cons_append, List.nil_append, true_and, and_true, Nat.reduceAdd, Nat.reduceLeDiff, not_true_eq_false, not_false_eq_true, if_true, if_false, ite_true, ite_false, Int32.reduceLT, ite_not, eq_self, or_true, true_or, ite_self, reduceIte]
      exact hQ w2 (ha.tr (ha2.wk fun j i z => Or.inr (Or.inr (Or.inr (Or.inr z))))) k4 k5
    | succ m ih =>
      intro s hs w1 s' ha hC1 g4 g5
      have hs1 : s < 2 ^ nB T := by omega
      have hs16 : s < 16 := by omega
      have hT1 : Told w1 T := hT.ag ha (fun a b p q z => by omega)
      have ha2 := ha.wI (k := 18) (p := 3) (v := nI s) (Or.inl rfl)
      have hT2 : Told (wI w1 18 3 (nI s)) T := hT.ag ha2 (fun a b p q z => by omega)
      have hC2 : RC (wI w1 18 3 (nI s)) 18 19 (RRain R s) := hC1.rn
      have hR2 : ROK (RRain R s) := hR.rain hs16
      refine S_X5_findHopes_L1 _ _ _ ?_
      simp +decide (disch := omega) only [↓EQA, CEA, LIA, NIA, Nat.lt_irrefl, Option.toList_some, Option.toList_none, List.cons_append, List.nil_append, true_and, and_true, Nat.reduceAdd, Nat.reduceLeDiff, not_true_eq_false, not_false_eq_true, if_true, if_false, ite_true, ite_false, Int32.reduceLT, ite_not, eq_self, or_true, true_or, ite_self, reduceIte, B_X5_findHopes_L1, hT1, hZ.1, e2, hs1]
      refine t_take RK_trial hT2 hZ (hC2.rv hR2) hH (by decide) fun w3 ha3 hS3 => ?_
      have ha4 : Ag RnP w w3 := ha2.tr (ha3.wk fun j i z => z.elim (fun z => Or.inr (Or.inr (Or.inl z))) fun z => Or.inr (Or.inr (Or.inr (Or.inl z))))
      have hC3 : RC w3 18 19 (RRain R s) := hC2.ag ha3 (fun i z => by omega) (fun i z => by omega)
      have hT3 : Told w3 T := hT.ag ha4 (fun a b p q z => by omega)
      have k4 : w3.2 55 4 = lN (usN (hoF T R h) s) := by rw [(ha3 55 4 (by omega)).2]; exact g4
      have k5 : w3.2 55 5 = lN (100 ^ nB T) := by rw [(ha3 55 5 (by omega)).2]; exact g5
      have eo : usN (hoF T R h) (s + 1) = usN (hoF T R h) s + hoF T R h s := rfl
      have hc : rkR T R s h ≤ 4 := Nat.le_trans (cnt_le _ _) hz.2.1
      have et := PZ_ok (r := rkR T R s h) hO
      simp +decide (disch := omega) only [↓EQA, CEA, LIA, NIA, Nat.lt_irrefl, Option.toList_some, Option.toList_none, List.cons_append, List.nil_append, true_and, and_true, Nat.reduceAdd, Nat.reduceLeDiff, not_true_eq_false, not_false_eq_true, if_true, if_false, ite_true, ite_false, Int32.reduceLT, ite_not, eq_self, or_true, true_or, ite_self, reduceIte, k4]
      refine t_weightOfRain hT3 hZ ?_
      simp +decide (disch := omega) only [↓EQA, CEA, LIA, NIA, Nat.lt_irrefl, Option.toList_some, Option.toList_none, List.cons_append, List.nil_append, true_and, and_true, Nat.reduceAdd, Nat.reduceLeDiff, not_true_eq_false, not_false_eq_true, if_true, if_false, ite_true, ite_false, Int32.reduceLT, ite_not, eq_self, or_true, true_or, ite_self, reduceIte]
      refine t_rankOf hS3 hH (by omega) hh ?_
      simp +decide (disch := omega) only [↓EQA, CEA, LIA, NIA, Nat.lt_irrefl, Option.toList_some, Option.toList_none, List.cons_append, List.nil_append, true_and, and_true, Nat.reduceAdd, Nat.reduceLeDiff, not_true_eq_false, not_false_eq_true, if_true, if_false, ite_true, ite_false, Int32.reduceLT, ite_not, eq_self, or_true, true_or, ite_self, reduceIte]
      refine t_prizeFor (r := rkR T R s h) hT3 hZ (by omega) ?_
      simp +decide (disch := omega) only [↓EQA, CEA, LIA, NIA, Nat.lt_irrefl, Option.toList_some, Option.toList_none, List.cons_append, List.nil_append, true_and, and_true, Nat.reduceAdd, Nat.reduceLeDiff, not_true_eq_false, not_false_eq_true, if_true, if_false, ite_true, ite_false, Int32.reduceLT, ite_not, eq_self, or_true, true_or, ite_self, reduceIte, (wr_ok hZ hO hs16).1, et.1, nI_l, lN_mul, lN_add]
      refine ih (s + 1) (by omega) _ s (ha4.wL (Or.inr (Or.inr (Or.inr (Or.inr ⟨rfl, Or.inl rfl⟩))))) hC3 ?_ ?_
      · rw [eo]; unfold hoF; simp [wL]
      · rw [← k5]; simp [wL]
  exact key (2 ^ nB T) 0 (by omega) w0 R.2.2.1 (ha0.wk fun j i z => z.elim Or.inl fun z => z.elim (fun z => Or.inr (Or.inl z)) fun z => Or.inr (Or.inr (Or.inr (Or.inr z)))) hC0 h40 h50
end Rain3
