/-! ===== feed ===== -/
theorem sb8 (z : Int32) : z.toInt8.toInt32 = sbt (z.toBitVec.toNat % 256) := by
  apply Int32.toInt_inj.mp
  rw [Int8.toInt_toInt32, Int32.toInt_toInt8]
  have hz : z.toInt = if 2 * z.toBitVec.toNat < 2 ^ 32 then (z.toBitVec.toNat : Int) else (z.toBitVec.toNat : Int) - (2 ^ 32 : Nat) := BitVec.toInt_eq_toNat_cond z.toBitVec
  have hN := z.toBitVec.isLt
  rw [hz]
  generalize z.toBitVec.toNat = N at hN ⊢
  have e1 : ∀ b, b < 256 → (sbt b).toInt = if b < 128 then (b : Int) else (b : Int) - 256 := by
    intro b hb
    unfold sbt
    by_cases q : b < 128
    · rw [if_pos q, if_pos q, nI_toInt (by omega)]
    · rw [if_neg q, if_neg q]
      exact pk_sub_toInt (a := b) (b := 256) (by omega) (by omega)
  rw [e1 _ (Nat.mod_lt _ (by decide))]
  unfold Int.bmod
  split <;> split <;> (dsimp only; split <;> omega)
def shA : Nat → Int32
  | 0 => 24
  | 1 => 16
  | 2 => 8
  | _ => 0
/-- the i-th byte of a number -/
def byB (x : Int32) (i : Nat) : Nat := (x >>> (shA i &&& 31)).toBitVec.toNat % 256
theorem byB_lt (x : Int32) (i : Nat) : byB x i < 256 := Nat.mod_lt _ (by decide)
theorem byM (z : Int32) : z &&& 255 = nI (z.toBitVec.toNat % 256) := pk_and z (m := 255) 8 (by decide)
section Feed
variable {d : Nat} {w : Mem} {Q : Option Value → Mem → Prop} {T : Tv} {D F : Nat → Nat} {x : Int32} {t : Nat}
theorem t_tapeNumber (h1 : w.1 0 1 = nI t) (ht : t + 4 ≤ 900) (hQ : ∀ w', Ag (fun j i => (j = 0 ∧ i = 1) ∨ (j = 1 ∧ t ≤ i ∧ i < t + 4)) w w' → w'.1 0 1 = nI (t + 4) → (∀ i, i < 4 → w'.1 1 (t + i) = sbt (byB x i)) → Q none w') : Cl (d + 1) m_X10_tapeNumber [.ref 0, .int x] w Q := by
  have step : ∀ (i : Nat) (s s' : Int32) (w1 : Mem), i < 4 → s = shA i → s + (-8) = s' → ¬ s < 0 → Ag (fun j i => (j = 0 ∧ i = 1) ∨ (j = 1 ∧ t ≤ i ∧ i < t + 4)) w w1 → w1.1 0 1 = nI (t + i) → (∀ k, k < i → w1.1 1 (t + k) = sbt (byB x k)) → (∀ w2, Ag (fun j i => (j = 0 ∧ i = 1) ∨ (j = 1 ∧ t ≤ i ∧ i < t + 4)) w w2 → w2.1 0 1 = nI (t + i + 1) → (∀ k, k < i + 1 → w2.1 1 (t + k) = sbt (byB x k)) → Wp m_X10_tapeNumber d 0 Q 3 [.ref 0, .int x, .int s'] [] w2) → Wp m_X10_tapeNumber d 0 Q 3 [.ref 0, .int x, .int s] [] w1 := by
    intro i s s' w1 hi hs hs' hs0 ha g1 g2 hnext
    have hti : t + i < 900 := by omega
    have e9 : (s < 0) = False := eq_false hs0
    have ev : vp_nar .byte (x >>> (s &&& 31)).toInt8.toInt32 = sbt (byB x i) := by rw [pk_vb, sb8, hs]; rfl
    have r1 : (wI w1 1 (t + i) (sbt (byB x i))).1 0 1 = nI (t + i) := by rw [wI_ne (by decide)]; exact g1
    refine S_X10_tapeNumber_L1 _ _ _ ?_
    simp +decide (disch := omega) only [↓EQA, CEA, LIA, NIA, Nat.lt_irrefl, Option.toList_some, Option.toList_none, List.cons_append, List.nil_append, true_and, and_true, Nat.reduceAdd, Nat.reduceLeDiff, not_true_eq_false, not_false_eq_true, if_true, if_false, ite_true, ite_false, Int32.reduceLT, ite_not, eq_self, or_true, true_or, ite_self, reduceIte, B_X10_tapeNumber_L1, e9, g1, hti, ev, r1, nI_1, hs']
    refine hnext _ ((ha.wI (Or.inr ⟨rfl, by omega, by omega⟩)).wI (Or.inl ⟨rfl, rfl⟩)) (by simp [wI]) fun k hk => ?_
    rw [wI_ne (by decide), wI_get]
    by_cases e : k = i
    · rw [if_pos ⟨rfl, by omega⟩, e]
    · rw [if_neg (by omega)]; exact g2 k (by omega)
  refine Cl_of k_X10_tapeNumber.1 (Nat.le_of_ble_eq_true rfl) (show Wp m_X10_tapeNumber _ 0 _ 0 [.ref 0, .int x, .null] [] _ from S_X10_tapeNumber_0 _ _ _ ?_)
  simp +decide (disch := omega) only [↓EQA, CEA, LIA, NIA, Nat.lt_irrefl, Option.toList_some, Option.toList_none, List.cons_append, List.nil_append, true_and, and_true, Nat.reduceAdd, Nat.reduceLeDiff, not_true_eq_false, not_false_eq_true, if_true, if_false, ite_true, ite_false, Int32.reduceLT, ite_not, eq_self, or_true, true_or, ite_self, reduceIte, B_X10_tapeNumber_0]
  refine step 0 24 16 w (by decide) rfl (by decide) (by decide) Ag.rf h1 (fun k hk => absurd hk (Nat.not_lt_zero _)) fun w1 a1 b1 c1 => ?_
  refine step 1 16 8 w1 (by decide) rfl (by decide) (by decide) a1 b1 c1 fun w2 a2 b2 c2 => ?_
  refine step 2 8 0 w2 (by decide) rfl (by decide) (by decide) a2 b2 c2 fun w3 a3 b3 c3 => ?_
  refine step 3 0 (-8) w3 (by decide) rfl (by decide) (by decide) a3 b3 c3 fun w4 a4 b4 c4 => ?_
  refine S_X10_tapeNumber_L1 _ _ _ ?_
  simp +decide (disch := omega) only [↓EQA, CEA, LIA, NIA, Nat.lt_irrefl, Option.toList_some, Option.toList_none, List.cons_append, List.nil_append, true_and, and_true, Nat.reduceAdd, Nat.reduceLeDiff, not_true_eq_false, not_false_eq_true, if_true, if_false, ite_true, ite_false, Int32.reduceLT, ite_not, eq_self, or_true, true_or, ite_self, reduceIte, B_X10_tapeNumber_L1, B_X10_tapeNumber_J1]
  exact hQ w4 a4 b4 c4
/-- the numbers fed, by four bytes -/
def fdA (a b c d e : Int32) (i : Nat) : Int32 := if i < 4 then a else if i < 8 then b else if i < 12 then c else if i < 16 then d else e
def fdB (a b c d e : Int32) (i : Nat) : Nat := byB (fdA a b c d e i) (i % 4)
theorem u_feedL {a b c e f : Int32} (ht : t + 20 ≤ 900) (h2 : w.1 59 2 = nI t) (hQ : ∀ w', Ag (fun j i => (j = 59 ∧ i = 2) ∨ (j = 60 ∧ t ≤ i ∧ i < t + 20)) w w' → w'.1 59 2 = nI (t + 20) → (∀ i, i < 20 → w'.1 60 (t + i) = nI (fdB a b c e f i)) → Q (some (.int (nI (t + 20)))) w') : Wp m_X11_feed d 0 Q 23 [.ref 59, .int a, .int b, .int c, .int e, .int f, .int (nI 0), .null] [] w := by
  have key : ∀ m k, k + m = 20 → ∀ w1 (v : Value), Ag (fun j i => (j = 59 ∧ i = 2) ∨ (j = 60 ∧ t ≤ i ∧ i < t + 20)) w w1 → w1.1 59 2 = nI (t + k) → (∀ i, i < k → w1.1 60 (t + i) = nI (fdB a b c e f i)) → Wp m_X11_feed d 0 Q 23 [.ref 59, .int a, .int b, .int c, .int e, .int f, .int (nI k), v] [] w1 := by
    intro m
    induction m with
    | zero =>
      intro k hk w1 v ha g1 g2
      have : k = 20 := by omega
      subst this
      refine S_X11_feed_L1 _ _ _ ?_
      simp +decide (disch := omega) only [↓EQA, CEA, LIA, NIA, Nat.lt_irrefl, Option.toList_some, Option.toList_none, List.cons_append, List.nil_append, true_and, and_true, Nat.reduceAdd, Nat.reduceLeDiff, not_true_eq_false, not_false_eq_true, if_true, if_false, ite_true, ite_false, Int32.reduceLT, ite_not, eq_self, or_true, true_or, ite_self, reduceIte, B_X11_feed_L1, g1]
      exact hQ w1 ha g1 g2
    | succ m ih =>
      intro k hk w1 v ha g1 g2
      have hk20 : k < 20 := by omega
      have htk : t + k < 900 := by omega
      have esh : ((24 : Int32) - 8 * (nI k - nI k / 4 * 4)) = shA (k % 4) := by
        have : ∀ k : Fin 20, ((24 : Int32) - 8 * (nI k.val - nI k.val / 4 * 4)) = shA (k.val % 4) := by decide +kernel
        exact this ⟨k, hk20⟩
      have two : B_X11_feed_J1 d 0 Q [.ref 59, .int a, .int b, .int c, .int e, .int f, .int (nI k), v] [.int (fdA a b c e f k)] w1 := by
        have ev : (fdA a b c e f k >>> (shA (k % 4) &&& 31)) &&& 255 = nI (fdB a b c e f k) := byM _
        have r1 : (wI w1 60 (t + k) (nI (fdB a b c e f k))).1 59 2 = nI (t + k) := by rw [wI_ne (by decide)]; exact g1
        simp +decide (disch := omega) only [↓EQA, CEA, LIA, NIA, Nat.lt_irrefl, Option.toList_some, Option.toList_none, List.cons_append, List.nil_append, true_and, and_true, Nat.reduceAdd, Nat.reduceLeDiff, not_true_eq_false, not_false_eq_true, if_true, if_false, ite_true, ite_false, Int32.reduceLT, ite_not, eq_self, or_true, true_or, ite_self, reduceIte, B_X11_feed_J1, g1, esh, ev, htk, r1, nI_1]
        refine ih (k + 1) (by omega) _ _ ((ha.wI (Or.inr ⟨rfl, by omega, by omega⟩)).wI (Or.inl ⟨rfl, rfl⟩)) (by simp [wI]; rfl) fun i hi => ?_
        rw [wI_ne (by decide), wI_get]
        by_cases z : i = k
        · rw [if_pos ⟨rfl, by omega⟩, z]
        · rw [if_neg (by omega)]; exact g2 i (by omega)
      have e4 : (nI k < 4) = (k < 4) := lt_n (b := 4) (by omega) (by decide)
      have e8 : (nI k < 8) = (k < 8) := lt_n (b := 8) (by omega) (by decide)
      have e12 : (nI k < 12) = (k < 12) := lt_n (b := 12) (by omega) (by decide)
      have e16 : (nI k < 16) = (k < 16) := lt_n (b := 16) (by omega) (by decide)
      unfold fdA at two
      refine S_X11_feed_L1 _ _ _ ?_
      simp +decide (disch := omega) only [↓EQA, CEA, LIA, NIA, Nat.lt_irrefl, Option.toList_some, Option.toList_none, List.cons_append, List.nil_append, true_and, and_true, Nat.reduceAdd, Nat.reduceLeDiff, not_true_eq_false, not_false_eq_true, if_true, if_false, ite_true, ite_false, Int32.reduceLT, ite_not, eq_self, or_true, true_or, ite_self, reduceIte, B_X11_feed_L1, hk20, e4, e8, e12, e16]
      by_cases q1 : k < 4
      · rw [if_pos q1] at two ⊢; exact two
      · rw [if_neg q1] at two ⊢
        by_cases q2 : k < 8
        · rw [if_pos q2] at two ⊢; exact two
        · rw [if_neg q2] at two ⊢
          by_cases q3 : k < 12
          · rw [if_pos q3] at two ⊢; exact two
          · rw [if_neg q3] at two ⊢
            by_cases q4 : k < 16
            · rw [if_pos q4] at two ⊢; exact two
            · rw [if_neg q4] at two ⊢; exact two
  exact key 20 0 (by omega) w .null Ag.rf h2 fun i hi => absurd hi (Nat.not_lt_zero _)
theorem p_feed {a b c e f : Int32} (hI : IV w T D F) : PRI (d + 20) m_X10_feed m_X11_feed [.ref 0, .int a, .int b, .int c, .int e, .int f] [.ref 59, .int a, .int b, .int c, .int e, .int f] w := by
  obtain ⟨hZ, hP, ⟨c1, c2, c3⟩, ⟨m1, m2, m3, m4, m5, m6⟩, ⟨n, m, A, B, hn, hm, i3, i4, i20, i21, hA, hB, hnm⟩, ⟨t, t1, t2, t3, t4⟩, f1, f2, f3⟩ := id hI
  have e20 : nI t + 20 = nI (t + 20) := nI_add t 20
  have e900 : ((900 : Int32) < nI (t + 20)) = (900 < t + 20) := lt_n (a := 900) (by decide) (by omega)
  by_cases q : 900 < t + 20
  · intro Q hQ
    refine Cl_of k_X10_feed.1 (Nat.le_of_ble_eq_true rfl) (show Wp m_X10_feed _ 0 _ 0 [.ref 0, .int a, .int b, .int c, .int e, .int f] [] _ from S_X10_feed_0 _ _ _ ?_)
    simp +decide (disch := omega) only [↓EQA, CEA, LIA, NIA, Nat.lt_irrefl, Option.toList_some, Option.toList_none, List.cons_append, List.nil_append, true_and, and_true, Nat.reduceAdd, Nat.reduceLeDiff, not_true_eq_false, not_false_eq_true, if_true, if_false, ite_true, ite_false, Int32.reduceLT, ite_not, eq_self, or_true, true_or, ite_self, reduceIte, B_X10_feed_0, t2, e20, e900, q]
    refine hQ (-1) w fun K hK => ?_
    refine Cl_of k_X11_feed.1 (Nat.le_of_ble_eq_true rfl) (show Wp m_X11_feed _ 0 _ 0 [.ref 59, .int a, .int b, .int c, .int e, .int f, .null, .null] [] _ from S_X11_feed_0 _ _ _ ?_)
    have z2 : (wI w 59 0 0).1 59 2 = nI t := by rw [← t3]; simp [wI]
    simp +decide (disch := omega) only [↓EQA, CEA, LIA, NIA, Nat.lt_irrefl, Option.toList_some, Option.toList_none, List.cons_append, List.nil_append, true_and, and_true, Nat.reduceAdd, Nat.reduceLeDiff, not_true_eq_false, not_false_eq_true, if_true, if_false, ite_true, ite_false, Int32.reduceLT, ite_not, eq_self, or_true, true_or, ite_self, reduceIte, B_X11_feed_0, z2, e20, e900, q]
    exact hK _ hI.thr
  · intro Q hQ
    refine Cl_of k_X10_feed.1 (Nat.le_of_ble_eq_true rfl) (show Wp m_X10_feed _ 0 _ 0 [.ref 0, .int a, .int b, .int c, .int e, .int f] [] _ from S_X10_feed_0 _ _ _ ?_)
    simp +decide (disch := omega) only [↓EQA, CEA, LIA, NIA, Nat.lt_irrefl, Option.toList_some, Option.toList_none, List.cons_append, List.nil_append, true_and, and_true, Nat.reduceAdd, Nat.reduceLeDiff, not_true_eq_false, not_false_eq_true, if_true, if_false, ite_true, ite_false, Int32.reduceLT, ite_not, eq_self, or_true, true_or, ite_self, reduceIte, B_X10_feed_0, t2, e20, e900, q]
    refine t_tapeNumber t2 (by omega) fun w1 a1 b1 d1 => ?_
    simp +decide (disch := omega) only [↓EQA, CEA, LIA, NIA, Nat.lt_irrefl, Option.toList_some, Option.toList_none, List.cons_append, List.nil_append, true_and, and_true, Nat.reduceAdd, Nat.reduceLeDiff, not_true_eq_false, not_false_eq_true, if_true, if_false, ite_true, ite_false, Int32.reduceLT, ite_not, eq_self, or_true, true_or, ite_self, reduceIte]
    refine t_tapeNumber b1 (by omega) fun w2 a2 b2 d2 => ?_
    simp +decide (disch := omega) only [↓EQA, CEA, LIA, NIA, Nat.lt_irrefl, Option.toList_some, Option.toList_none, List.cons_append, List.nil_append, true_and, and_true, Nat.reduceAdd, Nat.reduceLeDiff, not_true_eq_false, not_false_eq_true, if_true, if_false, ite_true, ite_false, Int32.reduceLT, ite_not, eq_self, or_true, true_or, ite_self, reduceIte]
    refine t_tapeNumber b2 (by omega) fun w3 a3 b3 d3 => ?_
    simp +decide (disch := omega) only [↓EQA, CEA, LIA, NIA, Nat.lt_irrefl, Option.toList_some, Option.toList_none, List.cons_append, List.nil_append, true_and, and_true, Nat.reduceAdd, Nat.reduceLeDiff, not_true_eq_false, not_false_eq_true, if_true, if_false, ite_true, ite_false, Int32.reduceLT, ite_not, eq_self, or_true, true_or, ite_self, reduceIte]
    refine t_tapeNumber b3 (by omega) fun w4 a4 b4 d4 => ?_
    simp +decide (disch := omega) only [↓EQA, CEA, LIA, NIA, Nat.lt_irrefl, Option.toList_some, Option.toList_none, List.cons_append, List.nil_append, true_and, and_true, Nat.reduceAdd, Nat.reduceLeDiff, not_true_eq_false, not_false_eq_true, if_true, if_false, ite_true, ite_false, Int32.reduceLT, ite_not, eq_self, or_true, true_or, ite_self, reduceIte]
    refine t_tapeNumber b4 (by omega) fun w5 a5 b5 d5 => ?_
    simp +decide (disch := omega) only [↓EQA, CEA, LIA, NIA, Nat.lt_irrefl, Option.toList_some, Option.toList_none, List.cons_append, List.nil_append, true_and, and_true, Nat.reduceAdd, Nat.reduceLeDiff, not_true_eq_false, not_false_eq_true, if_true, if_false, ite_true, ite_false, Int32.reduceLT, ite_not, eq_self, or_true, true_or, ite_self, reduceIte, b5]
    have hb : Ag (fun j i => (j = 0 ∧ i = 1) ∨ (j = 1 ∧ t ≤ i)) w w5 := ((((a1.wk fun j i z => by omega).tr (a2.wk fun j i z => by omega)).tr (a3.wk fun j i z => by omega)).tr (a4.wk fun j i z => by omega)).tr (a5.wk fun j i z => by omega)
    have hbytes : ∀ i, i < 20 → w5.1 1 (t + i) = sbt (fdB a b c e f i) := by
      intro i hi
      unfold fdB fdA
      rcases (by omega : i < 4 ∨ (4 ≤ i ∧ i < 8) ∨ (8 ≤ i ∧ i < 12) ∨ (12 ≤ i ∧ i < 16) ∨ (16 ≤ i ∧ i < 20)) with z | z | z | z | z
      · rw [if_pos z, show i % 4 = i by omega, (a5 1 _ (by omega)).1, (a4 1 _ (by omega)).1, (a3 1 _ (by omega)).1, (a2 1 _ (by omega)).1]; exact d1 i z
      · rw [if_neg (by omega), if_pos z.2, show i % 4 = i - 4 by omega, (a5 1 _ (by omega)).1, (a4 1 _ (by omega)).1, (a3 1 _ (by omega)).1, show t + i = t + 4 + (i - 4) by omega]; exact d2 (i - 4) (by omega)
      · rw [if_neg (by omega), if_neg (by omega), if_pos z.2, show i % 4 = i - 8 by omega, (a5 1 _ (by omega)).1, (a4 1 _ (by omega)).1, show t + i = t + 4 + 4 + (i - 8) by omega]; exact d3 (i - 8) (by omega)
      · rw [if_neg (by omega), if_neg (by omega), if_neg (by omega), if_pos z.2, show i % 4 = i - 12 by omega, (a5 1 _ (by omega)).1, show t + i = t + 4 + 4 + 4 + (i - 12) by omega]; exact d4 (i - 12) (by omega)
      · rw [if_neg (by omega), if_neg (by omega), if_neg (by omega), if_neg (by omega), show i % 4 = i - 16 by omega, show t + i = t + 4 + 4 + 4 + 4 + (i - 16) by omega]; exact d5 (i - 16) (by omega)
    have eT : t + 4 + 4 + 4 + 4 + 4 = t + 20 := by omega
    rw [eT] at b5 ⊢
    refine hQ (nI (t + 20)) w5 fun K hK => ?_
    refine Cl_of k_X11_feed.1 (Nat.le_of_ble_eq_true rfl) (show Wp m_X11_feed _ 0 _ 0 [.ref 59, .int a, .int b, .int c, .int e, .int f, .null, .null] [] _ from S_X11_feed_0 _ _ _ ?_)
    have z2 : (wI w5 59 0 0).1 59 2 = nI t := by
      have : w5.1 59 2 = nI t := by rw [(hb 59 2 (by omega)).1]; exact t3
      rw [← this]; simp [wI]
    simp +decide (disch := omega) only [↓EQA, CEA, LIA, NIA, Nat.lt_irrefl, Option.toList_some, Option.toList_none, List.cons_append, List.nil_append, true_and, and_true, Nat.reduceAdd, Nat.reduceLeDiff, not_true_eq_false, not_false_eq_true, if_true, if_false, ite_true, ite_false, Int32.reduceLT, ite_not, eq_self, or_true, true_or, ite_self, reduceIte, B_X11_feed_0, z2, e20, e900, q]
    refine u_feedL (by omega) z2 fun w6 a6 b6 d6 => ?_
    refine hK w6 ?_
    have hc : Ag (fun j i => (j = 0 ∧ i = 1) ∨ (j = 1 ∧ t ≤ i) ∨ (j = 59 ∧ (i = 0 ∨ i = 2)) ∨ (j = 60 ∧ t ≤ i)) w w6 := ((hb.wk fun j i z => by omega).wI (Or.inr (Or.inr (Or.inl ⟨rfl, Or.inl rfl⟩)))).tr (a6.wk fun j i z => by omega)
    have g : ∀ j i, ¬ ((j = 0 ∧ i = 1) ∨ (j = 1 ∧ t ≤ i) ∨ (j = 59 ∧ (i = 0 ∨ i = 2)) ∨ (j = 60 ∧ t ≤ i)) → w6.1 j i = w.1 j i := fun j i z => (hc j i z).1
    have gL : ∀ j i, ¬ ((j = 0 ∧ i = 1) ∨ (j = 1 ∧ t ≤ i) ∨ (j = 59 ∧ (i = 0 ∨ i = 2)) ∨ (j = 60 ∧ t ≤ i)) → w6.2 j i = w.2 j i := fun j i z => (hc j i z).2
    refine ⟨T, D, F, hZ, hP, ⟨c1.ag hc (fun a b p q z => by omega), c2.ag hc (fun i z => by omega) (fun i z => by omega), c3.ag hc (fun i _ z => by omega) (fun i z => by omega)⟩, ⟨m1.ag hc (fun i z => by omega), m2.ag hc (fun i z => by omega), m3.ag hc (fun i z => by omega), by rw [g 59 22 (by omega)]; exact m4, by rw [g 59 14 (by omega)]; exact m5, fun l hl => by rw [g 62 _ (by omega)]; exact m6 l hl⟩, ⟨n, m, A, B, hn, hm, by rw [g 56 3 (by omega)]; exact i3, by rw [g 56 4 (by omega)]; exact i4, by rw [g 59 20 (by omega)]; exact i20, by rw [g 59 21 (by omega)]; exact i21, fun i hi => ⟨(hA i hi).1, by rw [gL 57 i (by omega)]; exact (hA i hi).2.1, fun q hq => by rw [g 65 _ (by omega)]; exact (hA i hi).2.2 q hq⟩, fun i hi => ⟨(hB i hi).1, by rw [gL 58 i (by omega)]; exact (hB i hi).2.1, fun q hq => by rw [g 66 _ (by omega)]; exact (hB i hi).2.2 q hq⟩, hnm⟩, ⟨t + 20, by omega, ?_, b6, fun i hi => ?_⟩, by rw [g 0 11 (by omega), g 59 9 (by omega)]; exact f1, by rw [g 0 13 (by omega), g 59 11 (by omega)]; exact f2, fun z => by rw [g 0 12 (by omega), g 59 10 (by omega)]; rw [g 0 13 (by omega)] at z; exact f3 z⟩
    · rw [(a6 0 1 (by omega)).1, wI_ne (by decide)]; exact b5
    · by_cases z : i < t
      · obtain ⟨b', q1, q2, q3⟩ := t4 i z
        exact ⟨b', q1, by rw [g 60 i (by omega)]; exact q2, by rw [g 1 i (by omega)]; exact q3⟩
      · obtain ⟨k, rfl⟩ : ∃ k, i = t + k := ⟨i - t, by omega⟩
        refine ⟨fdB a b c e f k, byB_lt _ _, d6 k (by omega), ?_⟩
        rw [(a6 1 _ (by omega)).1, wI_ne (by decide)]
        exact hbytes k (by omega)
end Feed
