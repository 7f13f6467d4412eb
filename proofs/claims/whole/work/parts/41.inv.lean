/-! ===== the relation of the class's memory and the reference's ===== -/
abbrev inR (x : Int32) (n : Nat) : Prop := ¬ x < 0 ∧ x < nI n
/-- a row of places that the told allows -/
abbrev DOKT (T : Tv) (D : Nat → Nat) : Prop := DOK D ∧ DH T D ∧ (∀ l, nL T ≤ l → l < 5 → D l = 0) ∧ 1 ≤ D 7
/-- nothing is told yet -/
abbrev UNT (T : Tv) (D : Nat → Nat) : Prop := (∀ i, i ≤ 10 → T 0 i = 0) ∧ ∀ q, q < 8 → D q = 0
abbrev PWT (T : Tv) (D F : Nat → Nat) : Prop := (1 ≤ nH T ∧ PU T D F) ∨ (nH T = 0 ∧ UNT T D)
abbrev ICl (w : Mem) (T : Tv) (D : Nat → Nat) : Prop := Told w T ∧ RC w 16 17 (RS D) ∧ CCH w T
abbrev IMd (w : Mem) (T : Tv) (D F : Nat → Nat) : Prop := ToldM w T ∧ ToF w T F ∧ MR w 64 D ∧ w.1 59 22 = 0 ∧ w.1 59 14 = bI (1 ≤ nH T) ∧ ∀ l, l < nL T → FO T l = w.1 62 (35 + 4 * l + 3)
abbrev KRow (w : Mem) (T : Tv) (kl kr n : Nat) (A : Nat → Nat → Nat) : Prop := ∀ i, i < n → DOKT T (A i) ∧ w.2 kl i = lN (pkN (RS (A i))) ∧ ∀ q, q < 8 → w.1 kr (8 * i + q) = nI (A i q)
abbrev IKp (w : Mem) (T : Tv) : Prop := ∃ n m A B, n ≤ 16 ∧ m ≤ 3 ∧ w.1 56 3 = nI n ∧ w.1 56 4 = nI m ∧ w.1 59 20 = nI n ∧ w.1 59 21 = nI m ∧ KRow w T 57 65 n A ∧ KRow w T 58 66 m B ∧ (nH T = 0 → n = 0 ∧ m = 0)
/-- a byte as the class holds it -/
def sbt (b : Nat) : Int32 := if b < 128 then nI b else nI b - 256
abbrev ITp (w : Mem) : Prop := ∃ t, t ≤ 900 ∧ w.1 0 1 = nI t ∧ w.1 59 2 = nI t ∧ ∀ i, i < t → ∃ b, b < 256 ∧ w.1 60 i = nI b ∧ w.1 1 i = sbt b
abbrev IFt (w : Mem) : Prop := w.1 0 11 = w.1 59 9 ∧ w.1 0 13 = w.1 59 11 ∧ (w.1 0 13 = 4 → w.1 0 12 = w.1 59 10)
def IV (w : Mem) (T : Tv) (D F : Nat → Nat) : Prop := SZ T ∧ PWT T D F ∧ ICl w T D ∧ IMd w T D F ∧ IKp w T ∧ ITp w ∧ IFt w
def INV (w : Mem) : Prop := ∃ T D F, IV w T D F
abbrev QC : Nat → Nat → Prop := fun j i => (j = 0 ∧ i = 13) ∨ (18 ≤ j ∧ j ≤ 21) ∨ (j = 45 ∧ 7 ≤ i) ∨ (47 ≤ j ∧ j ≤ 55)
abbrev QM : Nat → Nat → Prop := fun j i => (j = 59 ∧ (i = 0 ∨ i = 11 ∨ i = 22 ∨ i = 25 ∨ (28 ≤ i ∧ i ≤ 42))) ∨ (67 ≤ j ∧ j ≤ 72)
theorem CCH.ag {P : Nat → Nat → Prop} {w w1 : Mem} {T : Tv} (h : CCH w T) (ha : Ag P w w1) (h1 : ∀ i, 7 ≤ i → ¬ P 45 i) (h2 : ∀ i, ¬ P 52 i) : CCH w1 T := by
  have e7 := (ha 45 7 (h1 7 (by decide))).1
  have e8 := (ha 45 8 (h1 8 (by decide))).1
  have e9 := (ha 45 9 (h1 9 (by decide))).1
  have e10 := (ha 45 10 (h1 10 (by decide))).2
  have e52 := ha.row h2
  unfold CCH RESB at h ⊢
  rw [e7, e8, e9, e10, e52]
  exact h
section Inv
variable {d : Nat} {w w1 w2 : Mem} {Q : Option Value → Mem → Prop} {T : Tv} {D F : Nat → Nat} {h : Nat} {x y : Int32}
/-- after a question -/
theorem IV.ask (hI : IV w T D F) (h1 : Ag QC w w1) (hc : CCH w1 T) (h2 : Ag QM w1 w2) (hd : w2.1 59 22 = 0) (ht : w2.1 59 11 = w1.1 0 13) (h4 : ¬ w1.1 0 13 = 4) : INV w2 := by
  obtain ⟨hZ, hP, ⟨c1, c2, c3⟩, ⟨m1, m2, m3, m4, m5, m6⟩, ⟨n, m, A, B, k1, k2, k3, k4, k5, k6, k7, k8, k9⟩, ⟨t, t1, t2, t3, t4⟩, f1, f2, f3⟩ := hI
  have ha : Ag (fun j i => QC j i ∨ QM j i) w w2 := (h1.wk fun j i z => Or.inl z).tr (h2.wk fun j i z => Or.inr z)
  have g : ∀ j i, ¬ (QC j i ∨ QM j i) → w2.1 j i = w.1 j i := fun j i z => (ha j i z).1
  have gL : ∀ j i, ¬ (QC j i ∨ QM j i) → w2.2 j i = w.2 j i := fun j i z => (ha j i z).2
  refine ⟨T, D, F, hZ, hP, ⟨c1.ag ha (fun a b p q z => by omega), c2.ag ha (fun i z => by omega) (fun i z => by omega), hc.ag h2 (fun i _ z => by omega) (fun i z => by omega)⟩, ⟨m1.ag ha (fun i z => by omega), m2.ag ha (fun i z => by omega), m3.ag ha (fun i z => by omega), hd, by rw [g 59 14 (by omega)]; exact m5, fun l hl => by rw [g 62 _ (by omega)]; exact m6 l hl⟩, ⟨n, m, A, B, k1, k2, by rw [g 56 3 (by omega)]; exact k3, by rw [g 56 4 (by omega)]; exact k4, by rw [g 59 20 (by omega)]; exact k5, by rw [g 59 21 (by omega)]; exact k6, fun i hi => ⟨(k7 i hi).1, by rw [gL 57 i (by omega)]; exact (k7 i hi).2.1, fun q hq => by rw [g 65 _ (by omega)]; exact (k7 i hi).2.2 q hq⟩, fun i hi => ⟨(k8 i hi).1, by rw [gL 58 i (by omega)]; exact (k8 i hi).2.1, fun q hq => by rw [g 66 _ (by omega)]; exact (k8 i hi).2.2 q hq⟩, k9⟩, ⟨t, t1, by rw [g 0 1 (by omega)]; exact t2, by rw [g 59 2 (by omega)]; exact t3, fun i hi => by rw [g 60 i (by omega), g 1 i (by omega)]; exact t4 i hi⟩, by rw [g 0 11 (by omega), g 59 9 (by omega)]; exact f1, ?_, fun z => ?_⟩
  · rw [ht, (h2 0 13 (by omega)).1]
  · rw [(h2 0 13 (by omega)).1] at z; exact absurd z h4
/-- a call of the class, then the same of the reference -/
def PRI (d : Nat) (Mc Mr : MD) (ac ar : List Value) (w : Mem) : Prop := ∀ Q : Option Value → Mem → Prop, (∀ (x : Int32) (w1 : Mem), (∀ K : Option Value → Mem → Prop, (∀ w2, INV w2 → K (some (.int x)) w2) → Cl d Mr ar w1 K) → Q (some (.int x)) w1) → Cl d Mc ac w Q
def PRL (d : Nat) (Mc Mr : MD) (ac ar : List Value) (w : Mem) : Prop := ∀ Q : Option Value → Mem → Prop, (∀ (x : Int64) (w1 : Mem), (∀ K : Option Value → Mem → Prop, (∀ w2, INV w2 → K (some (.long x)) w2) → Cl d Mr ar w1 K) → Q (some (.long x)) w1) → Cl d Mc ac w Q
abbrev CAf (w w1 : Mem) (T : Tv) (tr : Int32) : Prop := Ag QC w w1 ∧ CCH w1 T ∧ w1.1 0 13 = tr
abbrev MAf (w1 w2 : Mem) (tr : Int32) : Prop := Ag QM w1 w2 ∧ w2.1 59 22 = 0 ∧ w2.1 59 11 = tr
theorem askI {Mc Mr : MD} {ac ar : List Value} {v tr : Int32} (hI : IV w T D F) (h4 : ¬ tr = 4) (hC : ∀ Q : Option Value → Mem → Prop, (∀ w1, CAf w w1 T tr → Q (some (.int v)) w1) → Cl d Mc ac w Q) (hM : ∀ w1 K, IMd w1 T D F → (∀ w2, MAf w1 w2 tr → K (some (.int v)) w2) → Cl d Mr ar w1 K) : PRI d Mc Mr ac ar w := by
  intro Q hQ
  refine hC Q fun w1 ⟨a1, a2, a3⟩ => hQ v w1 fun K hK => ?_
  have hM1 : IMd w1 T D F := by
    obtain ⟨-, -, -, ⟨m1, m2, m3, m4, m5, m6⟩, -⟩ := hI
    exact ⟨m1.ag a1 (fun i z => by omega), m2.ag a1 (fun i z => by omega), m3.ag a1 (fun i z => by omega), by rw [(a1 59 22 (by omega)).1]; exact m4, by rw [(a1 59 14 (by omega)).1]; exact m5, fun l hl => by rw [(a1 62 _ (by omega)).1]; exact m6 l hl⟩
  exact hM w1 K hM1 fun w2 ⟨b1, b2, b3⟩ => hK w2 (hI.ask a1 a2 b1 b2 (by rw [b3, a3]) (by rw [a3]; exact h4))
theorem askL {Mc Mr : MD} {ac ar : List Value} {v : Int64} {tr : Int32} (hI : IV w T D F) (h4 : ¬ tr = 4) (hC : ∀ Q : Option Value → Mem → Prop, (∀ w1, CAf w w1 T tr → Q (some (.long v)) w1) → Cl d Mc ac w Q) (hM : ∀ w1 K, IMd w1 T D F → (∀ w2, MAf w1 w2 tr → K (some (.long v)) w2) → Cl d Mr ar w1 K) : PRL d Mc Mr ac ar w := by
  intro Q hQ
  refine hC Q fun w1 ⟨a1, a2, a3⟩ => hQ v w1 fun K hK => ?_
  have hM1 : IMd w1 T D F := by
    obtain ⟨-, -, -, ⟨m1, m2, m3, m4, m5, m6⟩, -⟩ := hI
    exact ⟨m1.ag a1 (fun i z => by omega), m2.ag a1 (fun i z => by omega), m3.ag a1 (fun i z => by omega), by rw [(a1 59 22 (by omega)).1]; exact m4, by rw [(a1 59 14 (by omega)).1]; exact m5, fun l hl => by rw [(a1 62 _ (by omega)).1]; exact m6 l hl⟩
  exact hM w1 K hM1 fun w2 ⟨b1, b2, b3⟩ => hK w2 (hI.ask a1 a2 b1 b2 (by rw [b3, a3]) (by rw [a3]; exact h4))
/-! the small ones of the class -/
theorem t_granted (hQ : Q (some (.int x)) (wI w 0 13 0)) : Cl (d + 1) m_X10_granted [.ref 0, .int x] w Q := by
  refine Cl_of k_X10_granted.1 (Nat.le_of_ble_eq_true rfl) (show Wp m_X10_granted _ 0 _ 0 [.ref 0, .int x] [] _ from S_X10_granted_0 _ _ _ ?_)
  simp +decide (disch := omega) only [↓EQA, CEA, LIA, NIA, Nat.lt_irrefl, Option.toList_some, Option.toList_none, List.cons_append, List.nil_append, true_and, and_true, Nat.reduceAdd, Nat.reduceLeDiff, not_true_eq_false, not_false_eq_true, if_true, if_false, ite_true, ite_false, Int32.reduceLT, ite_not, eq_self, or_true, true_or, ite_self, reduceIte, B_X10_granted_0]
  exact hQ
theorem t_refused (hQ : Q (some (.int (-1))) (wI w 0 13 x)) : Cl (d + 1) m_X10_refused [.ref 0, .int x] w Q := by
  refine Cl_of k_X10_refused.1 (Nat.le_of_ble_eq_true rfl) (show Wp m_X10_refused _ 0 _ 0 [.ref 0, .int x] [] _ from S_X10_refused_0 _ _ _ ?_)
  simp +decide (disch := omega) only [↓EQA, CEA, LIA, NIA, Nat.lt_irrefl, Option.toList_some, Option.toList_none, List.cons_append, List.nil_append, true_and, and_true, Nat.reduceAdd, Nat.reduceLeDiff, not_true_eq_false, not_false_eq_true, if_true, if_false, ite_true, ite_false, Int32.reduceLT, ite_not, eq_self, or_true, true_or, ite_self, reduceIte, B_X10_refused_0]
  exact hQ
theorem t_done (hQ : Q (some (.int (bI (x = 0)))) (wI w 0 13 x)) : Cl (d + 1) m_X10_done [.ref 0, .int x] w Q := by
  refine Cl_of k_X10_done.1 (Nat.le_of_ble_eq_true rfl) (show Wp m_X10_done _ 0 _ 0 [.ref 0, .int x] [] _ from S_X10_done_0 _ _ _ ?_)
  simp +decide (disch := omega) only [↓EQA, CEA, LIA, NIA, Nat.lt_irrefl, Option.toList_some, Option.toList_none, List.cons_append, List.nil_append, true_and, and_true, Nat.reduceAdd, Nat.reduceLeDiff, not_true_eq_false, not_false_eq_true, if_true, if_false, ite_true, ite_false, Int32.reduceLT, ite_not, eq_self, or_true, true_or, ite_self, reduceIte, B_X10_done_0, B_X10_done_J1]
  by_cases q : x = 0
  · rw [if_pos q]; rw [show bI (x = 0) = 1 from if_pos q] at hQ; exact hQ
  · rw [if_neg q]; rw [show bI (x = 0) = 0 from if_neg q] at hQ; exact hQ
theorem t_isWithin {lo hi : Int32} (hQ : Q (some (.int (bI (¬ x < lo ∧ ¬ hi < x)))) w) : Cl (d + 1) m_X10_isWithin [.int x, .int lo, .int hi] w Q := by
  refine Cl_of k_X10_isWithin.1 (Nat.le_of_ble_eq_true rfl) (show Wp m_X10_isWithin _ 0 _ 0 [.int x, .int lo, .int hi] [] _ from S_X10_isWithin_0 _ _ _ ?_)
  simp +decide (disch := omega) only [↓EQA, CEA, LIA, NIA, Nat.lt_irrefl, Option.toList_some, Option.toList_none, List.cons_append, List.nil_append, true_and, and_true, Nat.reduceAdd, Nat.reduceLeDiff, not_true_eq_false, not_false_eq_true, if_true, if_false, ite_true, ite_false, Int32.reduceLT, ite_not, eq_self, or_true, true_or, ite_self, reduceIte, B_X10_isWithin_0, B_X10_isWithin_J1, B_X10_isWithin_J2]
  by_cases q1 : x < lo
  · rw [if_pos q1]; rw [show bI (¬ x < lo ∧ ¬ hi < x) = 0 from if_neg fun z => z.1 q1] at hQ; exact hQ
  · rw [if_neg q1]
    by_cases q2 : hi < x
    · rw [if_pos q2]; rw [show bI (¬ x < lo ∧ ¬ hi < x) = 0 from if_neg fun z => z.2 q2] at hQ; exact hQ
    · rw [if_neg q2]; rw [show bI (¬ x < lo ∧ ¬ hi < x) = 1 from if_pos ⟨q1, q2⟩] at hQ; exact hQ
theorem t_isTold (hT : Told w T) (hZ : SZ T) (hQ : Q (some (.int (bI (1 ≤ nH T)))) w) : Cl (d + 1) m_X10_isTold [.ref 0] w Q := by
  have hz := hZ.2
  have e : (0 < nI (nH T)) = (1 ≤ nH T) := lt_n (a := 0) (by decide) (by omega)
  refine Cl_of k_X10_isTold.1 (Nat.le_of_ble_eq_true rfl) (show Wp m_X10_isTold _ 0 _ 0 [.ref 0] [] _ from S_X10_isTold_0 _ _ _ ?_)
  simp +decide (disch := omega) only [↓EQA, CEA, LIA, NIA, Nat.lt_irrefl, Option.toList_some, Option.toList_none, List.cons_append, List.nil_append, true_and, and_true, Nat.reduceAdd, Nat.reduceLeDiff, not_true_eq_false, not_false_eq_true, if_true, if_false, ite_true, ite_false, Int32.reduceLT, ite_not, eq_self, or_true, true_or, ite_self, reduceIte, B_X10_isTold_0, B_X10_isTold_J1, hT, hZ.1, e]
  by_cases q : 1 ≤ nH T
  · rw [if_pos q]; rw [show bI (1 ≤ nH T) = 1 from if_pos q] at hQ; exact hQ
  · rw [if_neg q]; rw [show bI (1 ≤ nH T) = 0 from if_neg q] at hQ; exact hQ
theorem t_isHouse (hT : Told w T) (hZ : SZ T) (hQ : Q (some (.int (bI (inR x (nH T))))) w) : Cl (d + 1) m_X10_isHouse [.ref 0, .int x] w Q := by
  refine Cl_of k_X10_isHouse.1 (Nat.le_of_ble_eq_true rfl) (show Wp m_X10_isHouse _ 0 _ 0 [.ref 0, .int x] [] _ from S_X10_isHouse_0 _ _ _ ?_)
  simp +decide (disch := omega) only [↓EQA, CEA, LIA, NIA, Nat.lt_irrefl, Option.toList_some, Option.toList_none, List.cons_append, List.nil_append, true_and, and_true, Nat.reduceAdd, Nat.reduceLeDiff, not_true_eq_false, not_false_eq_true, if_true, if_false, ite_true, ite_false, Int32.reduceLT, ite_not, eq_self, or_true, true_or, ite_self, reduceIte, B_X10_isHouse_0, B_X10_isHouse_J1, B_X10_isHouse_J2, hT, hZ.1]
  by_cases q1 : x < 0
  · rw [if_pos q1]; rw [show bI (inR x (nH T)) = 0 from if_neg fun z => z.1 q1] at hQ; exact hQ
  · rw [if_neg q1]
    by_cases q2 : x < nI (nH T)
    · rw [if_pos q2]; rw [show bI (inR x (nH T)) = 1 from if_pos ⟨q1, q2⟩] at hQ; exact hQ
    · rw [if_neg q2]; rw [show bI (inR x (nH T)) = 0 from if_neg fun z => q2 z.2] at hQ; exact hQ
theorem t_isLodger (hT : Told w T) (hZ : SZ T) (hQ : Q (some (.int (bI (inR x (nL T))))) w) : Cl (d + 1) m_X10_isLodger [.ref 0, .int x] w Q := by
  refine Cl_of k_X10_isLodger.1 (Nat.le_of_ble_eq_true rfl) (show Wp m_X10_isLodger _ 0 _ 0 [.ref 0, .int x] [] _ from S_X10_isLodger_0 _ _ _ ?_)
  simp +decide (disch := omega) only [↓EQA, CEA, LIA, NIA, Nat.lt_irrefl, Option.toList_some, Option.toList_none, List.cons_append, List.nil_append, true_and, and_true, Nat.reduceAdd, Nat.reduceLeDiff, not_true_eq_false, not_false_eq_true, if_true, if_false, ite_true, ite_false, Int32.reduceLT, ite_not, eq_self, or_true, true_or, ite_self, reduceIte, B_X10_isLodger_0, B_X10_isLodger_J1, B_X10_isLodger_J2, hT, hZ.1]
  by_cases q1 : x < 0
  · rw [if_pos q1]; rw [show bI (inR x (nL T)) = 0 from if_neg fun z => z.1 q1] at hQ; exact hQ
  · rw [if_neg q1]
    by_cases q2 : x < nI (nL T)
    · rw [if_pos q2]; rw [show bI (inR x (nL T)) = 1 from if_pos ⟨q1, q2⟩] at hQ; exact hQ
    · rw [if_neg q2]; rw [show bI (inR x (nL T)) = 0 from if_neg fun z => q2 z.2] at hQ; exact hQ
theorem t_isBend (hT : Told w T) (hZ : SZ T) (hQ : Q (some (.int (bI (inR x (nB T))))) w) : Cl (d + 1) m_X10_isBend [.ref 0, .int x] w Q := by
  refine Cl_of k_X10_isBend.1 (Nat.le_of_ble_eq_true rfl) (show Wp m_X10_isBend _ 0 _ 0 [.ref 0, .int x] [] _ from S_X10_isBend_0 _ _ _ ?_)
  simp +decide (disch := omega) only [↓EQA, CEA, LIA, NIA, Nat.lt_irrefl, Option.toList_some, Option.toList_none, List.cons_append, List.nil_append, true_and, and_true, Nat.reduceAdd, Nat.reduceLeDiff, not_true_eq_false, not_false_eq_true, if_true, if_false, ite_true, ite_false, Int32.reduceLT, ite_not, eq_self, or_true, true_or, ite_self, reduceIte, B_X10_isBend_0, B_X10_isBend_J1, B_X10_isBend_J2, hT, hZ.1]
  by_cases q1 : x < 0
  · rw [if_pos q1]; rw [show bI (inR x (nB T)) = 0 from if_neg fun z => z.1 q1] at hQ; exact hQ
  · rw [if_neg q1]
    by_cases q2 : x < nI (nB T)
    · rw [if_pos q2]; rw [show bI (inR x (nB T)) = 1 from if_pos ⟨q1, q2⟩] at hQ; exact hQ
    · rw [if_neg q2]; rw [show bI (inR x (nB T)) = 0 from if_neg fun z => q2 z.2] at hQ; exact hQ
theorem inR_in {n : Nat} (hn : n < 2 ^ 30) : (¬ x < 0 ∧ ¬ nI n - 1 < x) ↔ inR x n := by
  have e1 : (nI n).toInt = n := nI_toInt (by omega)
  have e2 : (nI n - 1).toInt = (n : Int) - 1 := pk_sub_toInt (a := n) (b := 1) (by omega) (by omega)
  simp only [inR, Int32.lt_iff_toInt_lt, e1, e2]
  omega
theorem inR_k {n : Nat} (h : inR x n) (hn : n < 2 ^ 30) : ∃ k, k < n ∧ x = nI k := by
  obtain ⟨k, hk, rfl⟩ := nI_of h.1
  exact ⟨k, (nI_ltI hk (by omega)).mp h.2, rfl⟩
theorem PWT.none (hP : PWT T D F) (h0 : ¬ 1 ≤ nH T) : nL T = 0 ∧ nB T = 0 ∧ nH T = 0 := by
  rcases hP with h | ⟨h1, h2, -⟩
  · exact absurd h.1 h0
  · refine ⟨?_, ?_, h1⟩
    · unfold nL; rw [h2 7 (by decide)]; rfl
    · unfold nB; rw [h2 5 (by decide)]; rfl
theorem u_isHouse (hM : IMd w T D F) (hZ : SZ T) (hP : PWT T D F) (hQ : Q (some (.int (bI (inR x (nH T))))) w) : Cl (d + 2) m_X11_isHouse [.ref 59, .int x] w Q := by
  have hz := hZ.2
  refine Cl_of k_X11_isHouse.1 (Nat.le_of_ble_eq_true rfl) (show Wp m_X11_isHouse _ 0 _ 0 [.ref 59, .int x] [] _ from S_X11_isHouse_0 _ _ _ ?_)
  by_cases h0 : 1 ≤ nH T
  · have e14 : w.1 59 14 = 1 := by rw [hM.2.2.2.2.1]; exact if_pos h0
    simp +decide (disch := omega) only [↓EQA, CEA, LIA, NIA, Nat.lt_irrefl, Option.toList_some, Option.toList_none, List.cons_append, List.nil_append, true_and, and_true, Nat.reduceAdd, Nat.reduceLeDiff, not_true_eq_false, not_false_eq_true, if_true, if_false, ite_true, ite_false, Int32.reduceLT, ite_not, eq_self, or_true, true_or, ite_self, reduceIte, B_X11_isHouse_0, e14, hM.1.1, hZ.1]
    refine u_in ?_
    by_cases q : inR x (nH T)
    · rw [show bI (¬ x < 0 ∧ ¬ nI (nH T) - 1 < x) = 1 from if_pos ((inR_in (by omega)).mpr q)]
      rw [show bI (inR x (nH T)) = 1 from if_pos q] at hQ
      simp +decide (disch := omega) only [↓EQA, CEA, LIA, NIA, Nat.lt_irrefl, Option.toList_some, Option.toList_none, List.cons_append, List.nil_append, true_and, and_true, Nat.reduceAdd, Nat.reduceLeDiff, not_true_eq_false, not_false_eq_true, if_true, if_false, ite_true, ite_false, Int32.reduceLT, ite_not, eq_self, or_true, true_or, ite_self, reduceIte, B_X11_isHouse_J2]; exact hQ
    · rw [show bI (¬ x < 0 ∧ ¬ nI (nH T) - 1 < x) = 0 from if_neg fun z => q ((inR_in (by omega)).mp z)]
      rw [show bI (inR x (nH T)) = 0 from if_neg q] at hQ
      simp +decide (disch := omega) only [↓EQA, CEA, LIA, NIA, Nat.lt_irrefl, Option.toList_some, Option.toList_none, List.cons_append, List.nil_append, true_and, and_true, Nat.reduceAdd, Nat.reduceLeDiff, not_true_eq_false, not_false_eq_true, if_true, if_false, ite_true, ite_false, Int32.reduceLT, ite_not, eq_self, or_true, true_or, ite_self, reduceIte, B_X11_isHouse_J1, B_X11_isHouse_J2]; exact hQ
  · have e14 : w.1 59 14 = 0 := by rw [hM.2.2.2.2.1]; exact if_neg h0
    have hn := hP.none h0
    rw [hn.2.2, show bI (inR x 0) = 0 from if_neg fun z => z.1 z.2] at hQ
    simp +decide (disch := omega) only [↓EQA, CEA, LIA, NIA, Nat.lt_irrefl, Option.toList_some, Option.toList_none, List.cons_append, List.nil_append, true_and, and_true, Nat.reduceAdd, Nat.reduceLeDiff, not_true_eq_false, not_false_eq_true, if_true, if_false, ite_true, ite_false, Int32.reduceLT, ite_not, eq_self, or_true, true_or, ite_self, reduceIte, B_X11_isHouse_0, e14, B_X11_isHouse_J1, B_X11_isHouse_J2]; exact hQ
theorem u_isLodger (hM : IMd w T D F) (hZ : SZ T) (hP : PWT T D F) (hQ : Q (some (.int (bI (inR x (nL T))))) w) : Cl (d + 2) m_X11_isLodger [.ref 59, .int x] w Q := by
  have hz := hZ.2
  refine Cl_of k_X11_isLodger.1 (Nat.le_of_ble_eq_true rfl) (show Wp m_X11_isLodger _ 0 _ 0 [.ref 59, .int x] [] _ from S_X11_isLodger_0 _ _ _ ?_)
  by_cases h0 : 1 ≤ nH T
  · have e14 : w.1 59 14 = 1 := by rw [hM.2.2.2.2.1]; exact if_pos h0
    simp +decide (disch := omega) only [↓EQA, CEA, LIA, NIA, Nat.lt_irrefl, Option.toList_some, Option.toList_none, List.cons_append, List.nil_append, true_and, and_true, Nat.reduceAdd, Nat.reduceLeDiff, not_true_eq_false, not_false_eq_true, if_true, if_false, ite_true, ite_false, Int32.reduceLT, ite_not, eq_self, or_true, true_or, ite_self, reduceIte, B_X11_isLodger_0, e14, hM.1.1, hZ.1]
    refine u_in ?_
    by_cases q : inR x (nL T)
    · rw [show bI (¬ x < 0 ∧ ¬ nI (nL T) - 1 < x) = 1 from if_pos ((inR_in (by omega)).mpr q)]
      rw [show bI (inR x (nL T)) = 1 from if_pos q] at hQ
      simp +decide (disch := omega) only [↓EQA, CEA, LIA, NIA, Nat.lt_irrefl, Option.toList_some, Option.toList_none, List.cons_append, List.nil_append, true_and, and_true, Nat.reduceAdd, Nat.reduceLeDiff, not_true_eq_false, not_false_eq_true, if_true, if_false, ite_true, ite_false, Int32.reduceLT, ite_not, eq_self, or_true, true_or, ite_self, reduceIte, B_X11_isLodger_J2]; exact hQ
    · rw [show bI (¬ x < 0 ∧ ¬ nI (nL T) - 1 < x) = 0 from if_neg fun z => q ((inR_in (by omega)).mp z)]
      rw [show bI (inR x (nL T)) = 0 from if_neg q] at hQ
      simp +decide (disch := omega) only [↓EQA, CEA, LIA, NIA, Nat.lt_irrefl, Option.toList_some, Option.toList_none, List.cons_append, List.nil_append, true_and, and_true, Nat.reduceAdd, Nat.reduceLeDiff, not_true_eq_false, not_false_eq_true, if_true, if_false, ite_true, ite_false, Int32.reduceLT, ite_not, eq_self, or_true, true_or, ite_self, reduceIte, B_X11_isLodger_J1, B_X11_isLodger_J2]; exact hQ
  · have e14 : w.1 59 14 = 0 := by rw [hM.2.2.2.2.1]; exact if_neg h0
    have hn := hP.none h0
    rw [hn.1, show bI (inR x 0) = 0 from if_neg fun z => z.1 z.2] at hQ
    simp +decide (disch := omega) only [↓EQA, CEA, LIA, NIA, Nat.lt_irrefl, Option.toList_some, Option.toList_none, List.cons_append, List.nil_append, true_and, and_true, Nat.reduceAdd, Nat.reduceLeDiff, not_true_eq_false, not_false_eq_true, if_true, if_false, ite_true, ite_false, Int32.reduceLT, ite_not, eq_self, or_true, true_or, ite_self, reduceIte, B_X11_isLodger_0, e14, B_X11_isLodger_J1, B_X11_isLodger_J2]; exact hQ
theorem u_isBend (hM : IMd w T D F) (hZ : SZ T) (hP : PWT T D F) (hQ : Q (some (.int (bI (inR x (nB T))))) w) : Cl (d + 2) m_X11_isBend [.ref 59, .int x] w Q := by
  have hz := hZ.2
  refine Cl_of k_X11_isBend.1 (Nat.le_of_ble_eq_true rfl) (show Wp m_X11_isBend _ 0 _ 0 [.ref 59, .int x] [] _ from S_X11_isBend_0 _ _ _ ?_)
  by_cases h0 : 1 ≤ nH T
  · have e14 : w.1 59 14 = 1 := by rw [hM.2.2.2.2.1]; exact if_pos h0
    simp +decide (disch := omega) only [↓EQA, CEA, LIA, NIA, Nat.lt_irrefl, Option.toList_some, Option.toList_none, List.cons_append, List.nil_append, true_and, and_true, Nat.reduceAdd, Nat.reduceLeDiff, not_true_eq_false, not_false_eq_true, if_true, if_false, ite_true, ite_false, Int32.reduceLT, ite_not, eq_self, or_true, true_or, ite_self, reduceIte, B_X11_isBend_0, e14, hM.1.1, hZ.1]
    refine u_in ?_
    by_cases q : inR x (nB T)
    · rw [show bI (¬ x < 0 ∧ ¬ nI (nB T) - 1 < x) = 1 from if_pos ((inR_in (by omega)).mpr q)]
      rw [show bI (inR x (nB T)) = 1 from if_pos q] at hQ
      simp +decide (disch := omega) only [↓EQA, CEA, LIA, NIA, Nat.lt_irrefl, Option.toList_some, Option.toList_none, List.cons_append, List.nil_append, true_and, and_true, Nat.reduceAdd, Nat.reduceLeDiff, not_true_eq_false, not_false_eq_true, if_true, if_false, ite_true, ite_false, Int32.reduceLT, ite_not, eq_self, or_true, true_or, ite_self, reduceIte, B_X11_isBend_J2]; exact hQ
    · rw [show bI (¬ x < 0 ∧ ¬ nI (nB T) - 1 < x) = 0 from if_neg fun z => q ((inR_in (by omega)).mp z)]
      rw [show bI (inR x (nB T)) = 0 from if_neg q] at hQ
      simp +decide (disch := omega) only [↓EQA, CEA, LIA, NIA, Nat.lt_irrefl, Option.toList_some, Option.toList_none, List.cons_append, List.nil_append, true_and, and_true, Nat.reduceAdd, Nat.reduceLeDiff, not_true_eq_false, not_false_eq_true, if_true, if_false, ite_true, ite_false, Int32.reduceLT, ite_not, eq_self, or_true, true_or, ite_self, reduceIte, B_X11_isBend_J1, B_X11_isBend_J2]; exact hQ
  · have e14 : w.1 59 14 = 0 := by rw [hM.2.2.2.2.1]; exact if_neg h0
    have hn := hP.none h0
    rw [hn.2.1, show bI (inR x 0) = 0 from if_neg fun z => z.1 z.2] at hQ
    simp +decide (disch := omega) only [↓EQA, CEA, LIA, NIA, Nat.lt_irrefl, Option.toList_some, Option.toList_none, List.cons_append, List.nil_append, true_and, and_true, Nat.reduceAdd, Nat.reduceLeDiff, not_true_eq_false, not_false_eq_true, if_true, if_false, ite_true, ite_false, Int32.reduceLT, ite_not, eq_self, or_true, true_or, ite_self, reduceIte, B_X11_isBend_0, e14, B_X11_isBend_J1, B_X11_isBend_J2]; exact hQ
end Inv
