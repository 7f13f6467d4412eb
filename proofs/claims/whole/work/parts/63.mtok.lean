/-! ===== tokens of the reference ===== -/
def svI (B : Nat → Nat) (n k : Nat) : Int32 := if k < n then nI (B k) else -1
def mtk : Nat → Int32
  | 0 => 0
  | 1 => 2
  | 2 => 3
  | 3 => 59
  | _ => 1
/-- the number that the digits from s to e tell -/
def vlN (B : Nat → Nat) (s m : Nat) : Nat := fld (fun i a => 10 * a + (B (s + i) - 48)) m 0
theorem kd1 {b : Nat} : (kd b = 1) = (97 ≤ b ∧ b ≤ 122) := by
  apply propext
  unfold kd
  by_cases q : 97 ≤ b ∧ b ≤ 122
  · rw [if_pos q]; omega
  · rw [if_neg q]
    by_cases q2 : 48 ≤ b ∧ b ≤ 57
    · rw [if_pos q2]; omega
    · rw [if_neg q2]
      by_cases q3 : b = 59
      · rw [if_pos q3]; omega
      · rw [if_neg q3]; omega
theorem kd2 {b : Nat} : (kd b = 2) = (48 ≤ b ∧ b ≤ 57) := by
  apply propext
  unfold kd
  by_cases q : 97 ≤ b ∧ b ≤ 122
  · rw [if_pos q]; omega
  · rw [if_neg q]
    by_cases q2 : 48 ≤ b ∧ b ≤ 57
    · rw [if_pos q2]; omega
    · rw [if_neg q2]
      by_cases q3 : b = 59
      · rw [if_pos q3]; omega
      · rw [if_neg q3]; omega
theorem kd3 {b : Nat} : (kd b = 3) = (b = 59) := by
  apply propext
  unfold kd
  by_cases q : 97 ≤ b ∧ b ≤ 122
  · rw [if_pos q]; omega
  · rw [if_neg q]
    by_cases q2 : 48 ≤ b ∧ b ≤ 57
    · rw [if_pos q2]; omega
    · rw [if_neg q2]
      by_cases q3 : b = 59
      · rw [if_pos q3]; omega
      · rw [if_neg q3]; omega
section MTok
variable {d : Nat} {w : Mem} {Q : Option Value → Mem → Prop} {B : Nat → Nat} {n p b k : Nat} {x : Int32}
abbrev MX (w : Mem) (B : Nat → Nat) (n : Nat) : Prop := (∀ i, i < n → w.1 60 i = nI (B i)) ∧ w.1 59 3 = nI n ∧ n ≤ 900 ∧ ∀ i, B i < 256
theorem MX.ag {P : Nat → Nat → Prop} {w1 : Mem} (h : MX w B n) (ha : Ag P w w1) (hp : ∀ i, ¬ P 60 i) (hp2 : ¬ P 59 3) : MX w1 B n := ⟨fun i hi => by rw [(ha 60 i (hp i)).1]; exact h.1 i hi, by rw [(ha 59 3 hp2).1]; exact h.2.1, h.2.2⟩
theorem u_see (hX : MX w B n) (hk : k ≤ 901) (hQ : Q (some (.int (svI B n k))) w) : Cl (d + 1) m_X11_see [.ref 59, .int (nI k)] w Q := by
  obtain ⟨x1, x2, x3, x4⟩ := hX
  unfold svI at hQ
  refine Cl_of k_X11_see.1 (Nat.le_of_ble_eq_true rfl) (show Wp m_X11_see _ 0 _ 0 [.ref 59, .int (nI k)] [] _ from S_X11_see_0 _ _ _ ?_)
  by_cases q : k < n
  · have h9 : k < 900 := by omega
    rw [if_pos q] at hQ
    simp +decide (disch := omega) only [↓EQA, CEA, LIA, NIA, Nat.lt_irrefl, Option.toList_some, Option.toList_none, List.cons_append, List.nil_append, true_and, and_true, Nat.reduceAdd, Nat.reduceLeDiff, not_true_eq_false, not_false_eq_true, if_true, if_false, ite_true, ite_false, Int32.reduceLT, ite_not, eq_self, or_true, true_or, ite_self, reduceIte, B_X11_see_0, B_X11_see_J1, x2, q, h9, x1 k q]
    exact hQ
  · rw [if_neg q] at hQ
    simp +decide (disch := omega) only [↓EQA, CEA, LIA, NIA, Nat.lt_irrefl, Option.toList_some, Option.toList_none, List.cons_append, List.nil_append, true_and, and_true, Nat.reduceAdd, Nat.reduceLeDiff, not_true_eq_false, not_false_eq_true, if_true, if_false, ite_true, ite_false, Int32.reduceLT, ite_not, eq_self, or_true, true_or, ite_self, reduceIte, B_X11_see_0, B_X11_see_J1, x2, q]
    exact hQ
theorem u_isSmall (hQ : Q (some (.int (bI (¬ x < 97 ∧ ¬ 122 < x)))) w) : Cl (d + 1) m_X11_isSmall [.int x] w Q := by
  refine Cl_of k_X11_isSmall.1 (Nat.le_of_ble_eq_true rfl) (show Wp m_X11_isSmall _ 0 _ 0 [.int x] [] _ from S_X11_isSmall_0 _ _ _ ?_)
  simp +decide (disch := omega) only [↓EQA, CEA, LIA, NIA, Nat.lt_irrefl, Option.toList_some, Option.toList_none, List.cons_append, List.nil_append, true_and, and_true, Nat.reduceAdd, Nat.reduceLeDiff, not_true_eq_false, not_false_eq_true, if_true, if_false, ite_true, ite_false, Int32.reduceLT, ite_not, eq_self, or_true, true_or, ite_self, reduceIte, B_X11_isSmall_0, B_X11_isSmall_J1, B_X11_isSmall_J2]
  by_cases q1 : x < 97
  · rw [if_pos q1]; rw [show bI (¬ x < 97 ∧ ¬ 122 < x) = 0 from if_neg fun z => z.1 q1] at hQ; exact hQ
  · rw [if_neg q1]
    by_cases q2 : 122 < x
    · rw [if_pos q2]; rw [show bI (¬ x < 97 ∧ ¬ 122 < x) = 0 from if_neg fun z => z.2 q2] at hQ; exact hQ
    · rw [if_neg q2]; rw [show bI (¬ x < 97 ∧ ¬ 122 < x) = 1 from if_pos ⟨q1, q2⟩] at hQ; exact hQ
theorem u_isDigit (hQ : Q (some (.int (bI (¬ x < 48 ∧ ¬ 57 < x)))) w) : Cl (d + 1) m_X11_isDigit [.int x] w Q := by
  refine Cl_of k_X11_isDigit.1 (Nat.le_of_ble_eq_true rfl) (show Wp m_X11_isDigit _ 0 _ 0 [.int x] [] _ from S_X11_isDigit_0 _ _ _ ?_)
  simp +decide (disch := omega) only [↓EQA, CEA, LIA, NIA, Nat.lt_irrefl, Option.toList_some, Option.toList_none, List.cons_append, List.nil_append, true_and, and_true, Nat.reduceAdd, Nat.reduceLeDiff, not_true_eq_false, not_false_eq_true, if_true, if_false, ite_true, ite_false, Int32.reduceLT, ite_not, eq_self, or_true, true_or, ite_self, reduceIte, B_X11_isDigit_0, B_X11_isDigit_J1, B_X11_isDigit_J2]
  by_cases q1 : x < 48
  · rw [if_pos q1]; rw [show bI (¬ x < 48 ∧ ¬ 57 < x) = 0 from if_neg fun z => z.1 q1] at hQ; exact hQ
  · rw [if_neg q1]
    by_cases q2 : 57 < x
    · rw [if_pos q2]; rw [show bI (¬ x < 48 ∧ ¬ 57 < x) = 0 from if_neg fun z => z.2 q2] at hQ; exact hQ
    · rw [if_neg q2]; rw [show bI (¬ x < 48 ∧ ¬ 57 < x) = 1 from if_pos ⟨q1, q2⟩] at hQ; exact hQ
theorem sm_kd (h4 : ∀ i, B i < 256) : bI (¬ svI B n k < 97 ∧ ¬ 122 < svI B n k) = bI (k < n ∧ kd (B k) = 1) := by
  unfold svI
  have hb := h4 k
  by_cases q : k < n
  · rw [if_pos q]
    have e1 : (nI (B k) < 97) = (B k < 97) := lt_n (b := 97) (by omega) (by decide)
    have e2 : (122 < nI (B k)) = (122 < B k) := lt_n (a := 122) (by decide) (by omega)
    unfold bI
    simp only [e1, e2, kd1, q, true_and]
    by_cases z : 97 ≤ B k ∧ B k ≤ 122
    · rw [if_pos z, if_pos (by omega)]
    · rw [if_neg z, if_neg (by omega)]
  · rw [if_neg q, show bI (k < n ∧ kd (B k) = 1) = 0 from if_neg fun z => q z.1]
    decide
theorem dg_kd (h4 : ∀ i, B i < 256) : bI (¬ svI B n k < 48 ∧ ¬ 57 < svI B n k) = bI (k < n ∧ kd (B k) = 2) := by
  unfold svI
  have hb := h4 k
  by_cases q : k < n
  · rw [if_pos q]
    have e1 : (nI (B k) < 48) = (B k < 48) := lt_n (b := 48) (by omega) (by decide)
    have e2 : (57 < nI (B k)) = (57 < B k) := lt_n (a := 57) (by decide) (by omega)
    unfold bI
    simp only [e1, e2, kd2, q, true_and]
    by_cases z : 48 ≤ B k ∧ B k ≤ 57
    · rw [if_pos z, if_pos (by omega)]
    · rw [if_neg z, if_neg (by omega)]
  · rw [if_neg q, show bI (k < n ∧ kd (B k) = 2) = 0 from if_neg fun z => q z.1]
    decide
/-- the reference's token -/
abbrev MTK (w : Mem) (B : Nat → Nat) (τ : Nat × Nat × Nat) : Prop := w.1 59 4 = nI τ.1 ∧ w.1 59 6 = mtk τ.2.2 ∧ (τ.2.2 ≠ 4 → w.1 59 5 = nI τ.2.1) ∧ (τ.2.2 = 1 → w.1 59 8 = nI (τ.2.1 - τ.1) ∧ τ.2.1 - τ.1 ≤ 8 ∧ ∀ i, i < τ.2.1 - τ.1 → w.1 61 i = nI (B (τ.1 + i))) ∧ (τ.2.2 = 2 → w.1 59 7 = nI (vlN B τ.1 (τ.2.1 - τ.1)) ∧ τ.2.1 - τ.1 ≤ 3)
abbrev NxP : Nat → Nat → Prop := fun j i => (j = 59 ∧ 4 ≤ i ∧ i ≤ 8) ∨ j = 61
theorem vl_lt {s m : Nat} (h : ∀ i, i < m → 48 ≤ B (s + i) ∧ B (s + i) ≤ 57) (hm : m ≤ 3) : vlN B s m < 1000 := by
  have key : ∀ k, k ≤ m → vlN B s k < 10 ^ k := by
    intro k
    induction k with
    | zero => intro _; show 0 < 1; decide
    | succ k ih =>
      intro hk
      have i1 := ih (by omega)
      have i2 := h k (by omega)
      show 10 * vlN B s k + (B (s + k) - 48) < 10 ^ (k + 1)
      rw [Nat.pow_succ]
      omega
  have h1 := key m (Nat.le_refl _)
  have h2 : (10 : Nat) ^ m ≤ 10 ^ 3 := Nat.pow_le_pow_right (by decide) hm
  omega
theorem u_next (hX : MX w B n) (h5 : w.1 59 5 = nI p) (hp : p ≤ n) (hQ : ∀ w', Ag NxP w w' → MTK w' B (tk B n p) → Q none w') : Cl (d + 2) m_X11_next [.ref 59] w Q := by
  obtain ⟨x1, x2, x3, x4⟩ := id hX
  -- a word
  have word : ∀ s, s < n → kd (B s) = 1 → tkS B n p = s → ∀ m q, q + m = n → s ≤ q → (∀ i, s ≤ i → i < q → kd (B i) = 1) → ∀ w1 (v : Value), Ag NxP w w1 → w1.1 59 4 = nI s → w1.1 59 8 = nI (q - s) → (∀ i, i < q - s → i < 8 → w1.1 61 i = nI (B (s + i))) → Wp m_X11_next (d + 1) 0 Q 67 [.ref 59, .int (nI q), .int (nI (B s)), v] [] w1 := by
    intro s hs hk1 hts m
    -- its end at q
    have wend : ∀ q w1 (v : Value), s ≤ q → q ≤ n → tkE B n s = q → Ag NxP w w1 → w1.1 59 4 = nI s → w1.1 59 8 = nI (q - s) → (∀ i, i < q - s → i < 8 → w1.1 61 i = nI (B (s + i))) → (∀ c : Nat, MTK (wI (wI w1 59 5 (nI q)) 59 6 (if 8 < q - s then 1 else 2)) B (tk B n p) ∧ Ag NxP w (wI (wI w1 59 5 (nI q)) 59 6 (if 8 < q - s then 1 else 2))) := by
      intro q w1 v hsq hqn hte ha g4 g8 g61 _
      refine ⟨?_, (ha.wI (Or.inl ⟨rfl, by decide, by decide⟩)).wI (Or.inl ⟨rfl, by decide, by decide⟩)⟩
      have ht : tk B n p = (s, q, if 8 < q - s then 4 else 1) := by
        unfold tk
        rw [hts, if_neg (by omega), if_neg (by omega), if_neg (by omega), hte, hk1]
        rfl
      rw [ht]
      refine ⟨?_, ?_, fun _ => ?_, fun z => ?_, fun z => ?_⟩
      · rw [← g4]; simp [wI]
      · by_cases q8 : 8 < q - s
        · rw [if_pos q8]; show (wI _ 59 6 1).1 59 6 = mtk (if 8 < q - s then 4 else 1); rw [if_pos q8]; simp [wI]; rfl
        · rw [if_neg q8]; show (wI _ 59 6 2).1 59 6 = mtk (if 8 < q - s then 4 else 1); rw [if_neg q8]; simp [wI]; rfl
      · simp [wI]
      · have z9 : (if 8 < q - s then 4 else 1) = 1 := z
        have q8 : ¬ 8 < q - s := fun y => by rw [if_pos y] at z9; cases z9
        refine ⟨?_, by show q - s ≤ 8; omega, fun i hi => ?_⟩
        · show _ = nI (q - s); rw [← g8]; simp [wI]
        · have hi2 : i < q - s := hi
          rw [wI_ne (by decide), wI_ne (by decide)]; exact g61 i hi2 (by omega)
      · have z9 : (if 8 < q - s then 4 else 1) = 2 := z
        split at z9 <;> cases z9
    induction m with
    | zero =>
      intro q hq hsq hall w1 v ha g4 g8 g61
      have : q = n := by omega
      subst this
      have hte : tkE B q s = q := rn_eq hsq (Nat.le_refl _) (fun i a b => by rw [hall i a b, hk1]; rfl) (fun z => absurd z (Nat.lt_irrefl _))
      obtain ⟨r1, r2⟩ := wend q w1 v hsq (Nat.le_refl _) hte ha g4 g8 g61 0
      have hX1 := hX.ag ha (fun i z => by omega) (by omega)
      refine S_X11_next_L2 _ _ _ ?_
      simp +decide (disch := omega) only [↓EQA, CEA, LIA, NIA, Nat.lt_irrefl, Option.toList_some, Option.toList_none, List.cons_append, List.nil_append, true_and, and_true, Nat.reduceAdd, Nat.reduceLeDiff, not_true_eq_false, not_false_eq_true, if_true, if_false, ite_true, ite_false, Int32.reduceLT, ite_not, eq_self, or_true, true_or, ite_self, reduceIte, B_X11_next_L2]
      refine u_see hX1 (by omega) ?_
      simp +decide (disch := omega) only [↓EQA, CEA, LIA, NIA, Nat.lt_irrefl, Option.toList_some, Option.toList_none, List.cons_append, List.nil_append, true_and, and_true, Nat.reduceAdd, Nat.reduceLeDiff, not_true_eq_false, not_false_eq_true, if_true, if_false, ite_true, ite_false, Int32.reduceLT, ite_not, eq_self, or_true, true_or, ite_self, reduceIte]
      refine u_isSmall ?_
      rw [sm_kd x4, show bI (q < q ∧ kd (B q) = 1) = 0 from if_neg fun z => absurd z.1 (Nat.lt_irrefl _)]
      have s8 : (wI w1 59 5 (nI q)).1 59 8 = nI (q - s) := by rw [← g8]; simp [wI]
      have e8 : (8 < nI (q - s)) = (8 < q - s) := lt_n (a := 8) (by decide) (by omega)
      simp +decide (disch := omega) only [↓EQA, CEA, LIA, NIA, Nat.lt_irrefl, Option.toList_some, Option.toList_none, List.cons_append, List.nil_append, true_and, and_true, Nat.reduceAdd, Nat.reduceLeDiff, not_true_eq_false, not_false_eq_true, if_true, if_false, ite_true, ite_false, Int32.reduceLT, ite_not, eq_self, or_true, true_or, ite_self, reduceIte, s8, e8, B_X11_next_J1, B_X11_next_J2, B_X11_next_J3, B_X11_next_J4, B_X11_next_J5, B_X11_next_J6]
      by_cases q8 : 8 < q - s
      · rw [if_pos q8] at r1 r2 ⊢; exact hQ _ r2 r1
      · rw [if_neg q8] at r1 r2 ⊢; exact hQ _ r2 r1
    | succ m ih =>
      intro q hq hsq hall w1 v ha g4 g8 g61
      have hqn : q < n := by omega
      have hX1 := hX.ag ha (fun i z => by omega) (by omega)
      have e8 : (8 < nI (q - s)) = (8 < q - s) := lt_n (a := 8) (by decide) (by omega)
      have l8 : (nI (q - s) < 8) = (q - s < 8) := lt_n (b := 8) (by omega) (by decide)
      refine S_X11_next_L2 _ _ _ ?_
      simp +decide (disch := omega) only [↓EQA, CEA, LIA, NIA, Nat.lt_irrefl, Option.toList_some, Option.toList_none, List.cons_append, List.nil_append, true_and, and_true, Nat.reduceAdd, Nat.reduceLeDiff, not_true_eq_false, not_false_eq_true, if_true, if_false, ite_true, ite_false, Int32.reduceLT, ite_not, eq_self, or_true, true_or, ite_self, reduceIte, B_X11_next_L2]
      refine u_see hX1 (by omega) ?_
      simp +decide (disch := omega) only [↓EQA, CEA, LIA, NIA, Nat.lt_irrefl, Option.toList_some, Option.toList_none, List.cons_append, List.nil_append, true_and, and_true, Nat.reduceAdd, Nat.reduceLeDiff, not_true_eq_false, not_false_eq_true, if_true, if_false, ite_true, ite_false, Int32.reduceLT, ite_not, eq_self, or_true, true_or, ite_self, reduceIte]
      refine u_isSmall ?_
      rw [sm_kd x4]
      by_cases z : kd (B q) = 1
      · rw [show bI (q < n ∧ kd (B q) = 1) = 1 from if_pos ⟨hqn, z⟩]
        have hall2 : ∀ i, s ≤ i → i < q + 1 → kd (B i) = 1 := fun i a b => by
          by_cases y : i = q
          · rw [y]; exact z
          · exact hall i a (by omega)
        simp +decide (disch := omega) only [↓EQA, CEA, LIA, NIA, Nat.lt_irrefl, Option.toList_some, Option.toList_none, List.cons_append, List.nil_append, true_and, and_true, Nat.reduceAdd, Nat.reduceLeDiff, not_true_eq_false, not_false_eq_true, if_true, if_false, ite_true, ite_false, Int32.reduceLT, ite_not, eq_self, or_true, true_or, ite_self, reduceIte, g8, l8]
        by_cases q8 : q - s < 8
        · rw [if_pos q8]
          refine u_see hX1 (by omega) ?_
          have esv : svI B n q = nI (B q) := if_pos hqn
          have r8 : (wI w1 61 (q - s) (nI (B q))).1 59 8 = nI (q - s) := by rw [wI_ne (by decide)]; exact g8
          simp +decide (disch := omega) only [↓EQA, CEA, LIA, NIA, Nat.lt_irrefl, Option.toList_some, Option.toList_none, List.cons_append, List.nil_append, true_and, and_true, Nat.reduceAdd, Nat.reduceLeDiff, not_true_eq_false, not_false_eq_true, if_true, if_false, ite_true, ite_false, Int32.reduceLT, ite_not, eq_self, or_true, true_or, ite_self, reduceIte, esv, g8, q8, B_X11_next_J1, B_X11_next_J2, B_X11_next_J3, B_X11_next_J4, B_X11_next_J5, B_X11_next_J6, r8, nI_1]
          refine ih (q + 1) (by omega) (by omega) hall2 _ _ ((ha.wI (Or.inr rfl)).wI (Or.inl ⟨rfl, by decide, by decide⟩)) ?_ ?_ fun i hi hi8 => ?_
          · have : (wI w1 61 (q - s) (nI (B q))).1 59 4 = nI s := by rw [wI_ne (by decide)]; exact g4
            rw [← this]; simp [wI]
          · rw [show q + 1 - s = q - s + 1 by omega]; simp [wI]
          · rw [wI_ne (by decide), wI_get]
            by_cases y : i = q - s
            · rw [if_pos ⟨rfl, y⟩, y, show s + (q - s) = q by omega]
            · rw [if_neg (fun t => y t.2)]; exact g61 i (by omega) hi8
        · rw [if_neg q8]
          simp +decide (disch := omega) only [↓EQA, CEA, LIA, NIA, Nat.lt_irrefl, Option.toList_some, Option.toList_none, List.cons_append, List.nil_append, true_and, and_true, Nat.reduceAdd, Nat.reduceLeDiff, not_true_eq_false, not_false_eq_true, if_true, if_false, ite_true, ite_false, Int32.reduceLT, ite_not, eq_self, or_true, true_or, ite_self, reduceIte, B_X11_next_J1, B_X11_next_J2, B_X11_next_J3, B_X11_next_J4, B_X11_next_J5, B_X11_next_J6, g8, nI_1]
          refine ih (q + 1) (by omega) (by omega) hall2 _ _ (ha.wI (Or.inl ⟨rfl, by decide, by decide⟩)) ?_ ?_ fun i hi hi8 => ?_
          · rw [← g4]; simp [wI]
          · rw [show q + 1 - s = q - s + 1 by omega]; simp [wI]
          · rw [wI_ne (by decide)]; exact g61 i (by omega) hi8
      · rw [show bI (q < n ∧ kd (B q) = 1) = 0 from if_neg fun y => z y.2]
        have hte : tkE B n s = q := rn_eq hsq (by omega) (fun i a b => by rw [hall i a b, hk1]; rfl) (fun _ => by rw [hk1]; simpa using z)
        obtain ⟨r1, r2⟩ := wend q w1 v hsq (by omega) hte ha g4 g8 g61 0
        have s8 : (wI w1 59 5 (nI q)).1 59 8 = nI (q - s) := by rw [← g8]; simp [wI]
        simp +decide (disch := omega) only [↓EQA, CEA, LIA, NIA, Nat.lt_irrefl, Option.toList_some, Option.toList_none, List.cons_append, List.nil_append, true_and, and_true, Nat.reduceAdd, Nat.reduceLeDiff, not_true_eq_false, not_false_eq_true, if_true, if_false, ite_true, ite_false, Int32.reduceLT, ite_not, eq_self, or_true, true_or, ite_self, reduceIte, s8, e8, B_X11_next_J1, B_X11_next_J2, B_X11_next_J3, B_X11_next_J4, B_X11_next_J5, B_X11_next_J6]
        by_cases q8 : 8 < q - s
        · rw [if_pos q8] at r1 r2 ⊢; exact hQ _ r2 r1
        · rw [if_neg q8] at r1 r2 ⊢; exact hQ _ r2 r1
  -- a whole
  have whol : ∀ s, s < n → kd (B s) = 2 → tkS B n p = s → ∀ m q, q + m = n → s ≤ q → (∀ i, s ≤ i → i < q → kd (B i) = 2) → ∀ w1, Ag NxP w w1 → w1.1 59 4 = nI s → w1.1 59 7 = nI (vlN B s (min (q - s) 3)) → Wp m_X11_next (d + 1) 0 Q 152 [.ref 59, .int (nI q), .int (nI (B s)), .int (nI (q - s))] [] w1 := by
    intro s hs hk2 hts m
    have dgt : ∀ q, (∀ i, s ≤ i → i < q → kd (B i) = 2) → ∀ i, i < q - s → 48 ≤ B (s + i) ∧ B (s + i) ≤ 57 := fun q hall i hi => by
      have := hall (s + i) (by omega) (by omega)
      rw [kd2] at this; exact this
    have wend : ∀ q w1, s ≤ q → q ≤ n → tkE B n s = q → Ag NxP w w1 → w1.1 59 4 = nI s → w1.1 59 7 = nI (vlN B s (min (q - s) 3)) → MTK (wI (wI w1 59 5 (nI q)) 59 6 (if 3 < q - s then 1 else 3)) B (tk B n p) ∧ Ag NxP w (wI (wI w1 59 5 (nI q)) 59 6 (if 3 < q - s then 1 else 3)) := by
      intro q w1 hsq hqn hte ha g4 g7
      refine ⟨?_, (ha.wI (Or.inl ⟨rfl, by decide, by decide⟩)).wI (Or.inl ⟨rfl, by decide, by decide⟩)⟩
      have ht : tk B n p = (s, q, if 3 < q - s then 4 else 2) := by
        unfold tk
        rw [hts, if_neg (by omega), if_neg (by omega), if_neg (by omega), hte, hk2]
        rfl
      rw [ht]
      refine ⟨?_, ?_, fun _ => ?_, fun z => ?_, fun z => ?_⟩
      · rw [← g4]; simp [wI]
      · by_cases q8 : 3 < q - s
        · rw [if_pos q8]; show (wI _ 59 6 1).1 59 6 = mtk (if 3 < q - s then 4 else 2); rw [if_pos q8]; simp [wI]; rfl
        · rw [if_neg q8]; show (wI _ 59 6 3).1 59 6 = mtk (if 3 < q - s then 4 else 2); rw [if_neg q8]; simp [wI]; rfl
      · simp [wI]
      · have z9 : (if 3 < q - s then 4 else 2) = 1 := z
        split at z9 <;> cases z9
      · have z9 : (if 3 < q - s then 4 else 2) = 2 := z
        have q8 : ¬ 3 < q - s := fun y => by rw [if_pos y] at z9; cases z9
        refine ⟨?_, by show q - s ≤ 3; omega⟩
        show _ = nI (vlN B s (q - s))
        rw [show q - s = min (q - s) 3 by omega, ← g7]; simp [wI]
    induction m with
    | zero =>
      intro q hq hsq hall w1 ha g4 g7
      have : q = n := by omega
      subst this
      have hte : tkE B q s = q := rn_eq hsq (Nat.le_refl _) (fun i a b => by rw [hall i a b, hk2]; rfl) (fun z => absurd z (Nat.lt_irrefl _))
      obtain ⟨r1, r2⟩ := wend q w1 hsq (Nat.le_refl _) hte ha g4 g7
      have hX1 := hX.ag ha (fun i z => by omega) (by omega)
      have e8 : (3 < nI (q - s)) = (3 < q - s) := lt_n (a := 3) (by decide) (by omega)
      refine S_X11_next_L3 _ _ _ ?_
      simp +decide (disch := omega) only [↓EQA, CEA, LIA, NIA, Nat.lt_irrefl, Option.toList_some, Option.toList_none, List.cons_append, List.nil_append, true_and, and_true, Nat.reduceAdd, Nat.reduceLeDiff, not_true_eq_false, not_false_eq_true, if_true, if_false, ite_true, ite_false, Int32.reduceLT, ite_not, eq_self, or_true, true_or, ite_self, reduceIte, B_X11_next_L3]
      refine u_see hX1 (by omega) ?_
      simp +decide (disch := omega) only [↓EQA, CEA, LIA, NIA, Nat.lt_irrefl, Option.toList_some, Option.toList_none, List.cons_append, List.nil_append, true_and, and_true, Nat.reduceAdd, Nat.reduceLeDiff, not_true_eq_false, not_false_eq_true, if_true, if_false, ite_true, ite_false, Int32.reduceLT, ite_not, eq_self, or_true, true_or, ite_self, reduceIte]
      refine u_isDigit ?_
      rw [dg_kd x4, show bI (q < q ∧ kd (B q) = 2) = 0 from if_neg fun z => absurd z.1 (Nat.lt_irrefl _)]
      simp +decide (disch := omega) only [↓EQA, CEA, LIA, NIA, Nat.lt_irrefl, Option.toList_some, Option.toList_none, List.cons_append, List.nil_append, true_and, and_true, Nat.reduceAdd, Nat.reduceLeDiff, not_true_eq_false, not_false_eq_true, if_true, if_false, ite_true, ite_false, Int32.reduceLT, ite_not, eq_self, or_true, true_or, ite_self, reduceIte, e8, B_X11_next_J1, B_X11_next_J2, B_X11_next_J3, B_X11_next_J4, B_X11_next_J5, B_X11_next_J6]
      by_cases q8 : 3 < q - s
      · rw [if_pos q8] at r1 r2 ⊢; exact hQ _ r2 r1
      · rw [if_neg q8] at r1 r2 ⊢; exact hQ _ r2 r1
    | succ m ih =>
      intro q hq hsq hall w1 ha g4 g7
      have hqn : q < n := by omega
      have hX1 := hX.ag ha (fun i z => by omega) (by omega)
      have e8 : (3 < nI (q - s)) = (3 < q - s) := lt_n (a := 3) (by decide) (by omega)
      have l8 : (nI (q - s) < 3) = (q - s < 3) := lt_n (b := 3) (by omega) (by decide)
      refine S_X11_next_L3 _ _ _ ?_
      simp +decide (disch := omega) only [↓EQA, CEA, LIA, NIA, Nat.lt_irrefl, Option.toList_some, Option.toList_none, List.cons_append, List.nil_append, true_and, and_true, Nat.reduceAdd, Nat.reduceLeDiff, not_true_eq_false, not_false_eq_true, if_true, if_false, ite_true, ite_false, Int32.reduceLT, ite_not, eq_self, or_true, true_or, ite_self, reduceIte, B_X11_next_L3]
      refine u_see hX1 (by omega) ?_
      simp +decide (disch := omega) only [↓EQA, CEA, LIA, NIA, Nat.lt_irrefl, Option.toList_some, Option.toList_none, List.cons_append, List.nil_append, true_and, and_true, Nat.reduceAdd, Nat.reduceLeDiff, not_true_eq_false, not_false_eq_true, if_true, if_false, ite_true, ite_false, Int32.reduceLT, ite_not, eq_self, or_true, true_or, ite_self, reduceIte]
      refine u_isDigit ?_
      rw [dg_kd x4]
      by_cases z : kd (B q) = 2
      · rw [show bI (q < n ∧ kd (B q) = 2) = 1 from if_pos ⟨hqn, z⟩]
        have hall2 : ∀ i, s ≤ i → i < q + 1 → kd (B i) = 2 := fun i a b => by
          by_cases y : i = q
          · rw [y]; exact z
          · exact hall i a (by omega)
        have e1 : q + 1 - s = q - s + 1 := by omega
        simp +decide (disch := omega) only [↓EQA, CEA, LIA, NIA, Nat.lt_irrefl, Option.toList_some, Option.toList_none, List.cons_append, List.nil_append, true_and, and_true, Nat.reduceAdd, Nat.reduceLeDiff, not_true_eq_false, not_false_eq_true, if_true, if_false, ite_true, ite_false, Int32.reduceLT, ite_not, eq_self, or_true, true_or, ite_self, reduceIte, l8]
        by_cases q8 : q - s < 3
        · rw [if_pos q8]
          refine u_see hX1 (by omega) ?_
          have esv : svI B n q = nI (B q) := if_pos hqn
          have hbq := x4 q
          have hb48 : 48 ≤ B q := by rw [kd2] at z; exact z.1
          rw [show min (q - s) 3 = q - s by omega] at g7
          have hv := vl_lt (B := B) (s := s) (m := q - s) (dgt q hall) (by omega)
          have ev : nI (10 * vlN B s (q - s) + B q) - 48 = nI (vlN B s (q - s + 1)) := by
            rw [show nI (10 * vlN B s (q - s) + B q) - 48 = nI (10 * vlN B s (q - s) + B q - 48) from nI_sub (b := 48) (by omega)]
            refine congrArg nI ?_
            show _ = 10 * vlN B s (q - s) + (B (s + (q - s)) - 48)
            rw [show s + (q - s) = q by omega]
            omega
          simp +decide (disch := omega) only [↓EQA, CEA, LIA, NIA, Nat.lt_irrefl, Option.toList_some, Option.toList_none, List.cons_append, List.nil_append, true_and, and_true, Nat.reduceAdd, Nat.reduceLeDiff, not_true_eq_false, not_false_eq_true, if_true, if_false, ite_true, ite_false, Int32.reduceLT, ite_not, eq_self, or_true, true_or, ite_self, reduceIte, esv, g7, ev, B_X11_next_J1, B_X11_next_J2, B_X11_next_J3, B_X11_next_J4, B_X11_next_J5, B_X11_next_J6, nI_1]
          rw [← e1]
          refine ih (q + 1) (by omega) (by omega) hall2 _ (ha.wI (Or.inl ⟨rfl, by decide, by decide⟩)) ?_ ?_
          · rw [← g4]; simp [wI]
          · rw [show min (q + 1 - s) 3 = q + 1 - s by omega, wI_get, if_pos ⟨rfl, rfl⟩]
        · rw [if_neg q8]
          simp +decide (disch := omega) only [↓EQA, CEA, LIA, NIA, Nat.lt_irrefl, Option.toList_some, Option.toList_none, List.cons_append, List.nil_append, true_and, and_true, Nat.reduceAdd, Nat.reduceLeDiff, not_true_eq_false, not_false_eq_true, if_true, if_false, ite_true, ite_false, Int32.reduceLT, ite_not, eq_self, or_true, true_or, ite_self, reduceIte, B_X11_next_J1, B_X11_next_J2, B_X11_next_J3, B_X11_next_J4, B_X11_next_J5, B_X11_next_J6, nI_1]
          rw [← e1]
          refine ih (q + 1) (by omega) (by omega) hall2 _ ha g4 ?_
          rw [show min (q + 1 - s) 3 = min (q - s) 3 by omega]; exact g7
      · rw [show bI (q < n ∧ kd (B q) = 2) = 0 from if_neg fun y => z y.2]
        have hte : tkE B n s = q := rn_eq hsq (by omega) (fun i a b => by rw [hall i a b, hk2]; rfl) (fun _ => by rw [hk2]; simpa using z)
        obtain ⟨r1, r2⟩ := wend q w1 hsq (by omega) hte ha g4 g7
        simp +decide (disch := omega) only [↓EQA, CEA, LIA, NIA, Nat.lt_irrefl, Option.toList_some, Option.toList_none, List.cons_append, List.nil_append, true_and, and_true, Nat.reduceAdd, Nat.reduceLeDiff, not_true_eq_false, not_false_eq_true, if_true, if_false, ite_true, ite_false, Int32.reduceLT, ite_not, eq_self, or_true, true_or, ite_self, reduceIte, e8, B_X11_next_J1, B_X11_next_J2, B_X11_next_J3, B_X11_next_J4, B_X11_next_J5, B_X11_next_J6]
        by_cases q8 : 3 < q - s
        · rw [if_pos q8] at r1 r2 ⊢; exact hQ _ r2 r1
        · rw [if_neg q8] at r1 r2 ⊢; exact hQ _ r2 r1
  -- the start is found at q
  have start : ∀ q w1 (v2 v3 : Value), q ≤ n → tkS B n p = q → Ag NxP w w1 → (q < n → ¬ B q = 32) → Wp m_X11_next (d + 1) 0 Q 5 [.ref 59, .int (nI q), v2, v3] [] w1 := by
    intro q w1 v2 v3 hqn hts ha h32
    have hX1 := hX.ag ha (fun i z => by omega) (by omega)
    have hbq := x4 q
    have e32 : (svI B n q = 32) = False := eq_false fun z => by
      unfold svI at z
      by_cases y : q < n
      · rw [if_pos y] at z
        exact h32 y ((nI_eq (b := 32) (by omega) (by decide)).mp z)
      · rw [if_neg y] at z; exact absurd z (by decide)
    have ha2 := ha.wI (k := 59) (p := 4) (v := nI q) (Or.inl ⟨rfl, by decide, by decide⟩)
    have hX2 : MX (wI w1 59 4 (nI q)) B n := hX.ag ha2 (fun i z => by omega) (by omega)
    refine S_X11_next_L1 _ _ _ ?_
    simp +decide (disch := omega) only [↓EQA, CEA, LIA, NIA, Nat.lt_irrefl, Option.toList_some, Option.toList_none, List.cons_append, List.nil_append, true_and, and_true, Nat.reduceAdd, Nat.reduceLeDiff, not_true_eq_false, not_false_eq_true, if_true, if_false, ite_true, ite_false, Int32.reduceLT, ite_not, eq_self, or_true, true_or, ite_self, reduceIte, B_X11_next_L1]
    refine u_see hX1 (by omega) ?_
    simp +decide (disch := omega) only [↓EQA, CEA, LIA, NIA, Nat.lt_irrefl, Option.toList_some, Option.toList_none, List.cons_append, List.nil_append, true_and, and_true, Nat.reduceAdd, Nat.reduceLeDiff, not_true_eq_false, not_false_eq_true, if_true, if_false, ite_true, ite_false, Int32.reduceLT, ite_not, eq_self, or_true, true_or, ite_self, reduceIte, e32]
    refine u_see hX2 (by omega) ?_
    simp +decide (disch := omega) only [↓EQA, CEA, LIA, NIA, Nat.lt_irrefl, Option.toList_some, Option.toList_none, List.cons_append, List.nil_append, true_and, and_true, Nat.reduceAdd, Nat.reduceLeDiff, not_true_eq_false, not_false_eq_true, if_true, if_false, ite_true, ite_false, Int32.reduceLT, ite_not, eq_self, or_true, true_or, ite_self, reduceIte]
    have g4 : (wI (wI (wI w1 59 4 (nI q)) 59 8 0) 59 7 0).1 59 4 = nI q := by simp [wI]
    have g8 : (wI (wI (wI w1 59 4 (nI q)) 59 8 0) 59 7 0).1 59 8 = nI 0 := by simp [wI]; rfl
    have g7 : (wI (wI (wI w1 59 4 (nI q)) 59 8 0) 59 7 0).1 59 7 = nI 0 := by simp [wI]; rfl
    have ha3 : Ag NxP w (wI (wI (wI w1 59 4 (nI q)) 59 8 0) 59 7 0) := (ha2.wI (Or.inl ⟨rfl, by decide, by decide⟩)).wI (Or.inl ⟨rfl, by decide, by decide⟩)
    generalize wI (wI (wI w1 59 4 (nI q)) 59 8 0) 59 7 0 = w3 at g4 g8 g7 ha3 ⊢
    by_cases z : q < n
    · have esv : svI B n q = nI (B q) := if_pos z
      have em1 : (nI (B q) = -1) = False := ngNe (by omega) (by decide)
      rw [esv]
      simp +decide (disch := omega) only [↓EQA, CEA, LIA, NIA, Nat.lt_irrefl, Option.toList_some, Option.toList_none, List.cons_append, List.nil_append, true_and, and_true, Nat.reduceAdd, Nat.reduceLeDiff, not_true_eq_false, not_false_eq_true, if_true, if_false, ite_true, ite_false, Int32.reduceLT, ite_not, eq_self, or_true, true_or, ite_self, reduceIte, em1]
      refine u_isSmall ?_
      rw [← esv, sm_kd x4]
      by_cases k1 : kd (B q) = 1
      · rw [show bI (q < n ∧ kd (B q) = 1) = 1 from if_pos ⟨z, k1⟩, esv]
        simp +decide (disch := omega) only [↓EQA, CEA, LIA, NIA, Nat.lt_irrefl, Option.toList_some, Option.toList_none, List.cons_append, List.nil_append, true_and, and_true, Nat.reduceAdd, Nat.reduceLeDiff, not_true_eq_false, not_false_eq_true, if_true, if_false, ite_true, ite_false, Int32.reduceLT, ite_not, eq_self, or_true, true_or, ite_self, reduceIte]
        exact word q z k1 hts (n - q) q (by omega) (Nat.le_refl _) (fun i a b => absurd a (by omega)) w3 _ ha3 g4 (by rw [Nat.sub_self]; exact g8) (fun i hi => absurd hi (by omega))
      · rw [show bI (q < n ∧ kd (B q) = 1) = 0 from if_neg fun y => k1 y.2]
        simp +decide (disch := omega) only [↓EQA, CEA, LIA, NIA, Nat.lt_irrefl, Option.toList_some, Option.toList_none, List.cons_append, List.nil_append, true_and, and_true, Nat.reduceAdd, Nat.reduceLeDiff, not_true_eq_false, not_false_eq_true, if_true, if_false, ite_true, ite_false, Int32.reduceLT, ite_not, eq_self, or_true, true_or, ite_self, reduceIte]
        refine u_isDigit ?_
        rw [dg_kd x4]
        by_cases k2 : kd (B q) = 2
        · rw [show bI (q < n ∧ kd (B q) = 2) = 1 from if_pos ⟨z, k2⟩, esv]
          simp +decide (disch := omega) only [↓EQA, CEA, LIA, NIA, Nat.lt_irrefl, Option.toList_some, Option.toList_none, List.cons_append, List.nil_append, true_and, and_true, Nat.reduceAdd, Nat.reduceLeDiff, not_true_eq_false, not_false_eq_true, if_true, if_false, ite_true, ite_false, Int32.reduceLT, ite_not, eq_self, or_true, true_or, ite_self, reduceIte]
          have := whol q z k2 hts (n - q) q (by omega) (Nat.le_refl _) (fun i a b => absurd a (by omega)) w3 ha3 g4 (by rw [Nat.sub_self]; exact g7)
          rw [Nat.sub_self] at this
          exact this
        · rw [show bI (q < n ∧ kd (B q) = 2) = 0 from if_neg fun y => k2 y.2, esv]
          have hk14 := kd_14 (B q)
          have e59 : (nI (B q) = 59) = (B q = 59) := eq_n (b := 59) (by omega) (by decide)
          simp +decide (disch := omega) only [↓EQA, CEA, LIA, NIA, Nat.lt_irrefl, Option.toList_some, Option.toList_none, List.cons_append, List.nil_append, true_and, and_true, Nat.reduceAdd, Nat.reduceLeDiff, not_true_eq_false, not_false_eq_true, if_true, if_false, ite_true, ite_false, Int32.reduceLT, ite_not, eq_self, or_true, true_or, ite_self, reduceIte, nI_1, e59, B_X11_next_J1, B_X11_next_J2, B_X11_next_J3, B_X11_next_J4, B_X11_next_J5, B_X11_next_J6]
          by_cases k3 : B q = 59
          · rw [if_pos k3]
            refine hQ _ ((ha3.wI (Or.inl ⟨rfl, by decide, by decide⟩)).wI (Or.inl ⟨rfl, by decide, by decide⟩)) ?_
            have ht : tk B n p = (q, q + 1, 3) := by
              unfold tk
              rw [hts, if_neg (by omega), if_pos (by rw [kd3]; exact k3)]
            rw [ht]
            refine ⟨?_, ?_, fun _ => by simp [wI], (fun y => absurd (show (3 : Nat) = 1 from y) (by decide)), (fun y => absurd (show (3 : Nat) = 2 from y) (by decide))⟩
            · rw [← g4]; simp [wI]
            · rw [k3]; simp [wI]; rfl
          · rw [if_neg k3]
            refine hQ _ ((ha3.wI (Or.inl ⟨rfl, by decide, by decide⟩)).wI (Or.inl ⟨rfl, by decide, by decide⟩)) ?_
            have k33 : ¬ kd (B q) = 3 := by rw [kd3]; exact k3
            have ht : tk B n p = (q, q, 4) := by
              unfold tk
              rw [hts, if_neg (by omega), if_neg k33, if_pos (by omega)]
            rw [ht]
            refine ⟨?_, ?_, fun y => absurd rfl y, (fun y => absurd (show (4 : Nat) = 1 from y) (by decide)), (fun y => absurd (show (4 : Nat) = 2 from y) (by decide))⟩
            · rw [← g4]; simp [wI]
            · simp [wI]; rfl
    · have esv : svI B n q = -1 := if_neg z
      rw [esv]
      simp +decide (disch := omega) only [↓EQA, CEA, LIA, NIA, Nat.lt_irrefl, Option.toList_some, Option.toList_none, List.cons_append, List.nil_append, true_and, and_true, Nat.reduceAdd, Nat.reduceLeDiff, not_true_eq_false, not_false_eq_true, if_true, if_false, ite_true, ite_false, Int32.reduceLT, ite_not, eq_self, or_true, true_or, ite_self, reduceIte, B_X11_next_J1, B_X11_next_J2, B_X11_next_J3, B_X11_next_J4, B_X11_next_J5, B_X11_next_J6]
      refine hQ _ ((ha3.wI (Or.inl ⟨rfl, by decide, by decide⟩)).wI (Or.inl ⟨rfl, by decide, by decide⟩)) ?_
      have ht : tk B n p = (q, q, 0) := by
        unfold tk
        rw [hts, if_pos (by omega)]
      rw [ht]
      refine ⟨?_, ?_, fun _ => by simp [wI], (fun y => absurd (show (0 : Nat) = 1 from y) (by decide)), (fun y => absurd (show (0 : Nat) = 2 from y) (by decide))⟩
      · rw [← g4]; simp [wI]
      · simp [wI]; rfl
  have spaces : ∀ m q, q + m = n → p ≤ q → (∀ i, p ≤ i → i < q → B i = 32) → ∀ w1 (v2 v3 : Value), Ag NxP w w1 → Wp m_X11_next (d + 1) 0 Q 5 [.ref 59, .int (nI q), v2, v3] [] w1 := by
    intro m
    induction m with
    | zero =>
      intro q hq hpq hall w1 v2 v3 ha
      have : q = n := by omega
      subst this
      exact start q w1 v2 v3 (Nat.le_refl _) (rn_eq hpq (Nat.le_refl _) (fun i a b => by simpa using hall i a b) (fun z => absurd z (Nat.lt_irrefl _))) ha (fun z => absurd z (Nat.lt_irrefl _))
    | succ m ih =>
      intro q hq hpq hall w1 v2 v3 ha
      have hqn : q < n := by omega
      have hX1 := hX.ag ha (fun i z => by omega) (by omega)
      have hbq := x4 q
      by_cases z : B q = 32
      · have esv : svI B n q = 32 := by unfold svI; rw [if_pos hqn, z]; rfl
        refine S_X11_next_L1 _ _ _ ?_
        simp +decide (disch := omega) only [↓EQA, CEA, LIA, NIA, Nat.lt_irrefl, Option.toList_some, Option.toList_none, List.cons_append, List.nil_append, true_and, and_true, Nat.reduceAdd, Nat.reduceLeDiff, not_true_eq_false, not_false_eq_true, if_true, if_false, ite_true, ite_false, Int32.reduceLT, ite_not, eq_self, or_true, true_or, ite_self, reduceIte, B_X11_next_L1]
        refine u_see hX1 (by omega) ?_
        simp +decide (disch := omega) only [↓EQA, CEA, LIA, NIA, Nat.lt_irrefl, Option.toList_some, Option.toList_none, List.cons_append, List.nil_append, true_and, and_true, Nat.reduceAdd, Nat.reduceLeDiff, not_true_eq_false, not_false_eq_true, if_true, if_false, ite_true, ite_false, Int32.reduceLT, ite_not, eq_self, or_true, true_or, ite_self, reduceIte, esv, nI_1]
        refine ih (q + 1) (by omega) (by omega) (fun i a b => ?_) w1 _ _ ha
        by_cases y : i = q
        · rw [y]; exact z
        · exact hall i a (by omega)
      · exact start q w1 v2 v3 (by omega) (rn_eq hpq (by omega) (fun i a b => by simpa using hall i a b) (fun _ => by simpa using z)) ha (fun _ => z)
  refine Cl_of k_X11_next.1 (Nat.le_of_ble_eq_true rfl) (show Wp m_X11_next _ 0 _ 0 [.ref 59, .null, .null, .null] [] _ from S_X11_next_0 _ _ _ ?_)
  simp +decide (disch := omega) only [↓EQA, CEA, LIA, NIA, Nat.lt_irrefl, Option.toList_some, Option.toList_none, List.cons_append, List.nil_append, true_and, and_true, Nat.reduceAdd, Nat.reduceLeDiff, not_true_eq_false, not_false_eq_true, if_true, if_false, ite_true, ite_false, Int32.reduceLT, ite_not, eq_self, or_true, true_or, ite_self, reduceIte, B_X11_next_0, h5]
  exact spaces (n - p) p (by omega) (Nat.le_refl _) (fun i a b => absurd a (by omega)) w _ _ Ag.rf
end MTok
