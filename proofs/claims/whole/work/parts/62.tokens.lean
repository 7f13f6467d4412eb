/-! ===== tokens: signs, cutting a text ===== -/
theorem sbt_toInt {b : Nat} (hb : b < 256) : (sbt b).toInt = if b < 128 then (b : Int) else (b : Int) - 256 := by
  unfold sbt
  by_cases q : b < 128
  · rw [if_pos q, if_pos q, nI_toInt (by omega)]
  · rw [if_neg q, if_neg q]
    exact pk_sub_toInt (a := b) (b := 256) (by omega) (by omega)
theorem sbt_lt {b c : Nat} (hb : b < 256) (hc : c < 128) : (sbt b < nI c) = (b < c ∨ 128 ≤ b) := propext (by
  rw [Int32.lt_iff_toInt_lt, sbt_toInt hb, nI_toInt (by omega)]
  split <;> omega)
theorem sbt_gt {b c : Nat} (hb : b < 256) (hc : c < 128) : (nI c < sbt b) = (c < b ∧ b < 128) := propext (by
  rw [Int32.lt_iff_toInt_lt, sbt_toInt hb, nI_toInt (by omega)]
  split <;> omega)
theorem sbt_eq {b c : Nat} (hb : b < 256) (hc : c < 128) : (sbt b = nI c) = (b = c) := propext (by
  rw [← Int32.toInt_inj, sbt_toInt hb, nI_toInt (by omega)]
  split <;> omega)
theorem sbt_inj {b c : Nat} (hb : b < 256) (hc : c < 256) : (sbt b = sbt c) = (b = c) := propext (by
  rw [← Int32.toInt_inj, sbt_toInt hb, sbt_toInt hc]
  split <;> split <;> omega)
/-- a sign's sort: 1 a small letter, 2 a digit, 3 the parting, 4 none of them -/
def kd (b : Nat) : Nat := if 97 ≤ b ∧ b ≤ 122 then 1 else if 48 ≤ b ∧ b ≤ 57 then 2 else if b = 59 then 3 else 4
/-- where the run of P from p ends -/
def rn (P : Nat → Bool) (p n : Nat) : Nat := p + frst (fun i => !P (p + i)) (n - p)
theorem rn_eq {P : Nat → Bool} {p q n : Nat} (h1 : p ≤ q) (h2 : q ≤ n) (h3 : ∀ i, p ≤ i → i < q → P i = true) (h4 : q < n → P q = false) : rn P p n = q := by
  unfold rn
  have : frst (fun i => !P (p + i)) (n - p) = q - p := frst_eq (by omega) (fun j hj => by rw [h3 (p + j) (by omega) (by omega)]; rfl) (fun z => by
    rw [show p + (q - p) = q by omega, h4 (by omega)]; rfl)
  omega
def tkS (B : Nat → Nat) (n p : Nat) : Nat := rn (fun i => decide (B i = 32)) p n
def tkE (B : Nat → Nat) (n s : Nat) : Nat := rn (fun i => decide (kd (B i) = kd (B s))) s n
/-- the token from p on: where it starts, where it ends, its sort (0 the end) -/
def tk (B : Nat → Nat) (n p : Nat) : Nat × Nat × Nat := if n ≤ tkS B n p then (tkS B n p, tkS B n p, 0) else if kd (B (tkS B n p)) = 3 then (tkS B n p, tkS B n p + 1, 3) else if kd (B (tkS B n p)) = 4 then (tkS B n p, tkS B n p, 4) else (tkS B n p, tkE B n (tkS B n p), if (if kd (B (tkS B n p)) = 1 then 8 else 3) < tkE B n (tkS B n p) - tkS B n p then 4 else kd (B (tkS B n p)))
theorem kd_14 (b : Nat) : 1 ≤ kd b ∧ kd b ≤ 4 := by unfold kd; split; decide; split; decide; split <;> decide
section Tok
variable {d : Nat} {w : Mem} {Q : Option Value → Mem → Prop} {B : Nat → Nat} {n p b : Nat}
theorem t_sortOf (hb : b < 256) (hQ : Q (some (.int (nI (kd b)))) w) : Cl (d + 1) m_X8_sortOf [.int (sbt b)] w Q := by
  have a1 : (sbt b < 97) = (b < 97 ∨ 128 ≤ b) := sbt_lt (c := 97) hb (by decide)
  have a2 : (122 < sbt b) = (122 < b ∧ b < 128) := sbt_gt (c := 122) hb (by decide)
  have a3 : (sbt b < 48) = (b < 48 ∨ 128 ≤ b) := sbt_lt (c := 48) hb (by decide)
  have a4 : (57 < sbt b) = (57 < b ∧ b < 128) := sbt_gt (c := 57) hb (by decide)
  have a5 : (sbt b = 59) = (b = 59) := sbt_eq (c := 59) hb (by decide)
  unfold kd at hQ
  have two : ¬ (97 ≤ b ∧ b ≤ 122) → B_X8_sortOf_J1 d 0 Q [.int (sbt b)] [] w := by
    intro h1
    rw [if_neg h1] at hQ
    have three : ¬ (48 ≤ b ∧ b ≤ 57) → B_X8_sortOf_J2 d 0 Q [.int (sbt b)] [] w := by
      intro h2
      rw [if_neg h2] at hQ
      simp +decide (disch := omega) only [↓EQA, CEA, LIA, NIA, Nat.lt_irrefl, Option.toList_some, Option.toList_none, List.cons_append, List.nil_append, true_and, and_true, Nat.reduceAdd, Nat.reduceLeDiff, not_true_eq_false, not_false_eq_true, if_true, if_false, ite_true, ite_false, Int32.reduceLT, ite_not, eq_self, or_true, true_or, ite_self, reduceIte, B_X8_sortOf_J2, a5, B_X8_sortOf_J1, B_X8_sortOf_J2, B_X8_sortOf_J3]
      by_cases q : b = 59
      · rw [if_pos q] at hQ ⊢; exact hQ
      · rw [if_neg q] at hQ ⊢; exact hQ
    simp +decide (disch := omega) only [↓EQA, CEA, LIA, NIA, Nat.lt_irrefl, Option.toList_some, Option.toList_none, List.cons_append, List.nil_append, true_and, and_true, Nat.reduceAdd, Nat.reduceLeDiff, not_true_eq_false, not_false_eq_true, if_true, if_false, ite_true, ite_false, Int32.reduceLT, ite_not, eq_self, or_true, true_or, ite_self, reduceIte, B_X8_sortOf_J1, a3, a4]
    by_cases q : b < 48 ∨ 128 ≤ b
    · rw [if_pos q]; exact three (by omega)
    · rw [if_neg q]
      by_cases q2 : 57 < b ∧ b < 128
      · rw [if_pos q2]; exact three (by omega)
      · rw [if_neg q2]; rw [if_pos (by omega)] at hQ; exact hQ
  refine Cl_of k_X8_sortOf.1 (Nat.le_of_ble_eq_true rfl) (show Wp m_X8_sortOf _ 0 _ 0 [.int (sbt b)] [] _ from S_X8_sortOf_0 _ _ _ ?_)
  simp +decide (disch := omega) only [↓EQA, CEA, LIA, NIA, Nat.lt_irrefl, Option.toList_some, Option.toList_none, List.cons_append, List.nil_append, true_and, and_true, Nat.reduceAdd, Nat.reduceLeDiff, not_true_eq_false, not_false_eq_true, if_true, if_false, ite_true, ite_false, Int32.reduceLT, ite_not, eq_self, or_true, true_or, ite_self, reduceIte, B_X8_sortOf_0, a1, a2]
  by_cases q : b < 97 ∨ 128 ≤ b
  · rw [if_pos q]; exact two (by omega)
  · rw [if_neg q]
    by_cases q2 : 122 < b ∧ b < 128
    · rw [if_pos q2]; exact two (by omega)
    · rw [if_neg q2]; rw [if_pos (by omega)] at hQ; exact hQ
/-- the text of the class -/
abbrev TX (w : Mem) (B : Nat → Nat) (n : Nat) : Prop := (∀ i, i < n → w.1 1 i = sbt (B i)) ∧ n ≤ 900 ∧ ∀ i, B i < 256
abbrev StP : Nat → Nat → Prop := fun j i => j = 44 ∧ (i = 2 ∨ i = 3 ∨ i = 4)
theorem TX.ag {P : Nat → Nat → Prop} {w1 : Mem} (h : TX w B n) (ha : Ag P w w1) (hp : ∀ i, ¬ P 1 i) : TX w1 B n := ⟨fun i hi => by rw [(ha 1 i (hp i)).1]; exact h.1 i hi, h.2⟩
theorem t_step0 (h5 : ¬ w.1 44 5 = 0) (hQ : Q none w) : Cl (d + 2) m_X8_step [.ref 44] w Q := by
  have e5 : (w.1 44 5 = 0) = False := eq_false h5
  refine Cl_of k_X8_step.1 (Nat.le_of_ble_eq_true rfl) (show Wp m_X8_step _ 0 _ 0 [.ref 44] [] _ from S_X8_step_0 _ _ _ ?_)
  simp +decide (disch := omega) only [↓EQA, CEA, LIA, NIA, Nat.lt_irrefl, Option.toList_some, Option.toList_none, List.cons_append, List.nil_append, true_and, and_true, Nat.reduceAdd, Nat.reduceLeDiff, not_true_eq_false, not_false_eq_true, if_true, if_false, ite_true, ite_false, Int32.reduceLT, ite_not, eq_self, or_true, true_or, ite_self, reduceIte, B_X8_step_0, e5]
  exact hQ
theorem t_step (hX : TX w B n) (h1 : w.1 44 1 = nI n) (h3 : w.1 44 3 = nI p) (hp : p ≤ n) (h5 : w.1 44 5 = 0) (hQ : ∀ w', Ag StP w w' → w'.1 44 2 = nI (tk B n p).1 → w'.1 44 3 = nI (tk B n p).2.1 → w'.1 44 4 = nI (tk B n p).2.2 → Q none w') : Cl (d + 2) m_X8_step [.ref 44] w Q := by
  obtain ⟨x1, x2, x3⟩ := id hX
  -- the end: is it too long?
  have fin : ∀ (s e k : Nat) (w1 : Mem), Ag StP w w1 → w1.1 44 2 = nI s → w1.1 44 3 = nI e → w1.1 44 4 = nI k → s ≤ e → e ≤ n + 1 → k ≤ 4 → tk B n p = (s, e, if (if k = 1 then 8 else 3) < e - s then 4 else k) → B_X8_step_J4 (d + 1) 0 Q [.ref 44] [] w1 := by
    intro s e k w1 ha g2 g3 g4 hse hen hk4 ht
    rw [ht] at hQ
    have es : nI e - nI s = nI (e - s) := nI_sub hse
    have go : ∀ (c : Nat), c = (if k = 1 then 8 else 3) → B_X8_step_J5 (d + 1) 0 Q [.ref 44] [.int (nI c), .int (nI (e - s))] w1 := by
      intro c hc
      have hc8 : c ≤ 8 := by rw [hc]; split <;> decide
      have hlt : (nI c < nI (e - s)) = (c < e - s) := lt_n (by omega) (by omega)
      simp +decide (disch := omega) only [↓EQA, CEA, LIA, NIA, Nat.lt_irrefl, Option.toList_some, Option.toList_none, List.cons_append, List.nil_append, true_and, and_true, Nat.reduceAdd, Nat.reduceLeDiff, not_true_eq_false, not_false_eq_true, if_true, if_false, ite_true, ite_false, Int32.reduceLT, ite_not, eq_self, or_true, true_or, ite_self, reduceIte, B_X8_step_J5, hlt, B_X8_step_J1, B_X8_step_J2, B_X8_step_J3, B_X8_step_J4, B_X8_step_J5, B_X8_step_J6]
      rw [← hc] at hQ
      by_cases q : c < e - s
      · rw [if_pos q] at hQ ⊢
        refine hQ _ (ha.wI ⟨rfl, Or.inr (Or.inr rfl)⟩) ?_ ?_ (by simp [wI]; rfl)
        · rw [← g2]; simp [wI]
        · rw [← g3]; simp [wI]
      · rw [if_neg q] at hQ ⊢
        exact hQ w1 ha g2 g3 g4
    have e1 : (nI k = 1) = (k = 1) := eq_n (b := 1) (by omega) (by decide)
    simp +decide (disch := omega) only [↓EQA, CEA, LIA, NIA, Nat.lt_irrefl, Option.toList_some, Option.toList_none, List.cons_append, List.nil_append, true_and, and_true, Nat.reduceAdd, Nat.reduceLeDiff, not_true_eq_false, not_false_eq_true, if_true, if_false, ite_true, ite_false, Int32.reduceLT, ite_not, eq_self, or_true, true_or, ite_self, reduceIte, B_X8_step_J4, g2, g3, g4, es, e1]
    by_cases q : k = 1
    · rw [if_pos q] at go ⊢; exact go 8 rfl
    · rw [if_neg q] at go ⊢; exact go 3 rfl
  -- signs of the same sort are taken
  have same : ∀ (s k : Nat), s < n → k = kd (B s) → (k = 1 ∨ k = 2) → tkS B n p = s → ∀ m q, q + m = n → s ≤ q → (∀ i, s ≤ i → i < q → kd (B i) = k) → ∀ w1, Ag StP w w1 → w1.1 44 2 = nI s → w1.1 44 3 = nI q → w1.1 44 4 = nI k → Wp m_X8_step (d + 1) 0 Q 103 [.ref 44] [] w1 := by
    intro s k hs hk hk12 hts m
    have htk : ∀ e, tkE B n s = e → tk B n p = (s, e, if (if k = 1 then 8 else 3) < e - s then 4 else k) := by
      intro e he
      unfold tk
      rw [hts, if_neg (by omega), if_neg (by omega), if_neg (by omega), he, ← hk]
    induction m with
    | zero =>
      intro q hq hsq hall w1 ha g2 g3 g4
      have : q = n := by omega
      subst this
      have k1 : w1.1 44 1 = nI q := by rw [(ha 44 1 (by omega)).1]; exact h1
      refine S_X8_step_L2 _ _ _ ?_
      simp +decide (disch := omega) only [↓EQA, CEA, LIA, NIA, Nat.lt_irrefl, Option.toList_some, Option.toList_none, List.cons_append, List.nil_append, true_and, and_true, Nat.reduceAdd, Nat.reduceLeDiff, not_true_eq_false, not_false_eq_true, if_true, if_false, ite_true, ite_false, Int32.reduceLT, ite_not, eq_self, or_true, true_or, ite_self, reduceIte, B_X8_step_L2, g3, k1]
      exact fin s q k w1 ha g2 g3 g4 hsq (by omega) (by omega) (htk q (rn_eq hsq (Nat.le_refl _) (fun i a b => by rw [hall i a b, hk]; simp) (fun z => absurd z (Nat.lt_irrefl _))))
    | succ m ih =>
      intro q hq hsq hall w1 ha g2 g3 g4
      have hqn : q < n := by omega
      have hq900 : q < 900 := by omega
      have k1 : w1.1 44 1 = nI n := by rw [(ha 44 1 (by omega)).1]; exact h1
      have kx : w1.1 1 q = sbt (B q) := by rw [(ha 1 q (by omega)).1]; exact x1 q hqn
      have e1 : (nI k = 1) = (k = 1) := eq_n (b := 1) (by omega) (by decide)
      have e2 : (nI k = 2) = (k = 2) := eq_n (b := 2) (by omega) (by decide)
      have hkq := kd_14 (B q)
      have three : B_X8_step_J3 (d + 1) 0 Q [.ref 44] [] w1 := by
        simp +decide (disch := omega) only [↓EQA, CEA, LIA, NIA, Nat.lt_irrefl, Option.toList_some, Option.toList_none, List.cons_append, List.nil_append, true_and, and_true, Nat.reduceAdd, Nat.reduceLeDiff, not_true_eq_false, not_false_eq_true, if_true, if_false, ite_true, ite_false, Int32.reduceLT, ite_not, eq_self, or_true, true_or, ite_self, reduceIte, B_X8_step_J3, g3, hq900, kx]
        refine t_sortOf (x3 q) ?_
        have eq9 : (nI (kd (B q)) = nI k) = (kd (B q) = k) := eq_n (by omega) (by omega)
        simp +decide (disch := omega) only [↓EQA, CEA, LIA, NIA, Nat.lt_irrefl, Option.toList_some, Option.toList_none, List.cons_append, List.nil_append, true_and, and_true, Nat.reduceAdd, Nat.reduceLeDiff, not_true_eq_false, not_false_eq_true, if_true, if_false, ite_true, ite_false, Int32.reduceLT, ite_not, eq_self, or_true, true_or, ite_self, reduceIte, g4, eq9]
        by_cases z : kd (B q) = k
        · rw [if_pos z]
          simp +decide (disch := omega) only [↓EQA, CEA, LIA, NIA, Nat.lt_irrefl, Option.toList_some, Option.toList_none, List.cons_append, List.nil_append, true_and, and_true, Nat.reduceAdd, Nat.reduceLeDiff, not_true_eq_false, not_false_eq_true, if_true, if_false, ite_true, ite_false, Int32.reduceLT, ite_not, eq_self, or_true, true_or, ite_self, reduceIte, g3, nI_1]
          refine ih (q + 1) (by omega) (by omega) (fun i a b => ?_) _ (ha.wI ⟨rfl, Or.inr (Or.inl rfl)⟩) ?_ (by simp [wI]) ?_
          · by_cases y : i = q
            · rw [y]; exact z
            · exact hall i a (by omega)
          · rw [← g2]; simp [wI]
          · rw [← g4]; simp [wI]
        · rw [if_neg z]
          exact fin s q k w1 ha g2 g3 g4 hsq (by omega) (by omega) (htk q (rn_eq hsq (by omega) (fun i a b => by rw [hall i a b, hk]; simp) (fun _ => by rw [← hk]; simpa using z)))
      refine S_X8_step_L2 _ _ _ ?_
      simp +decide (disch := omega) only [↓EQA, CEA, LIA, NIA, Nat.lt_irrefl, Option.toList_some, Option.toList_none, List.cons_append, List.nil_append, true_and, and_true, Nat.reduceAdd, Nat.reduceLeDiff, not_true_eq_false, not_false_eq_true, if_true, if_false, ite_true, ite_false, Int32.reduceLT, ite_not, eq_self, or_true, true_or, ite_self, reduceIte, B_X8_step_L2, g3, k1, hqn, g4, e1, e2]
      rcases hk12 with z | z
      · rw [if_pos z]; exact three
      · rw [if_neg (by omega), if_pos z]; exact three
  -- the start is found at q
  have start : ∀ q w1, q ≤ n → tkS B n p = q → Ag StP w w1 → w1.1 44 3 = nI q → B_X8_step_J1 (d + 1) 0 Q [.ref 44] [] w1 := by
    intro q w1 hqn hts ha g3
    have k1 : w1.1 44 1 = nI n := by rw [(ha 44 1 (by omega)).1]; exact h1
    have r2 : (wI w1 44 2 (nI q)).1 44 2 = nI q := by simp [wI]
    have r1 : (wI w1 44 2 (nI q)).1 44 1 = nI n := by rw [← k1]; simp [wI]
    have ha2 := ha.wI (k := 44) (p := 2) (v := nI q) ⟨rfl, Or.inl rfl⟩
    simp +decide (disch := omega) only [↓EQA, CEA, LIA, NIA, Nat.lt_irrefl, Option.toList_some, Option.toList_none, List.cons_append, List.nil_append, true_and, and_true, Nat.reduceAdd, Nat.reduceLeDiff, not_true_eq_false, not_false_eq_true, if_true, if_false, ite_true, ite_false, Int32.reduceLT, ite_not, eq_self, or_true, true_or, ite_self, reduceIte, B_X8_step_J1, g3, r2, r1]
    by_cases z : q < n
    · have hq900 : q < 900 := by omega
      have kx : (wI w1 44 2 (nI q)).1 1 q = sbt (B q) := by rw [wI_ne (by decide), (ha 1 q (by omega)).1]; exact x1 q z
      rw [if_pos z]
      simp +decide (disch := omega) only [↓EQA, CEA, LIA, NIA, Nat.lt_irrefl, Option.toList_some, Option.toList_none, List.cons_append, List.nil_append, true_and, and_true, Nat.reduceAdd, Nat.reduceLeDiff, not_true_eq_false, not_false_eq_true, if_true, if_false, ite_true, ite_false, Int32.reduceLT, ite_not, eq_self, or_true, true_or, ite_self, reduceIte, hq900, kx]
      refine t_sortOf (x3 q) ?_
      have hkq := kd_14 (B q)
      have s4 : (wI (wI w1 44 2 (nI q)) 44 4 (nI (kd (B q)))).1 44 4 = nI (kd (B q)) := by simp [wI]
      have s3 : (wI (wI w1 44 2 (nI q)) 44 4 (nI (kd (B q)))).1 44 3 = nI q := by rw [← g3]; simp [wI]
      have s2 : (wI (wI w1 44 2 (nI q)) 44 4 (nI (kd (B q)))).1 44 2 = nI q := by simp [wI]
      have s1 : (wI (wI w1 44 2 (nI q)) 44 4 (nI (kd (B q)))).1 44 1 = nI n := by rw [← k1]; simp [wI]
      have ha3 := ha2.wI (k := 44) (p := 4) (v := nI (kd (B q))) ⟨rfl, Or.inr (Or.inr rfl)⟩
      have e3 : (nI (kd (B q)) = 3) = (kd (B q) = 3) := eq_n (b := 3) (by omega) (by decide)
      simp +decide (disch := omega) only [↓EQA, CEA, LIA, NIA, Nat.lt_irrefl, Option.toList_some, Option.toList_none, List.cons_append, List.nil_append, true_and, and_true, Nat.reduceAdd, Nat.reduceLeDiff, not_true_eq_false, not_false_eq_true, if_true, if_false, ite_true, ite_false, Int32.reduceLT, ite_not, eq_self, or_true, true_or, ite_self, reduceIte, B_X8_step_J2, s4, e3, s3, nI_1]
      generalize wI (wI w1 44 2 (nI q)) 44 4 (nI (kd (B q))) = w3 at s4 s3 s2 s1 ha3 ⊢
      by_cases k3 : kd (B q) = 3
      · rw [if_pos k3]
        have t3 : (wI w3 44 3 (nI (q + 1))).1 44 3 = nI (q + 1) := by simp [wI]
        have t4 : (wI w3 44 3 (nI (q + 1))).1 44 4 = nI 3 := by simp [wI]; rw [s4, k3]
        have t2 : (wI w3 44 3 (nI (q + 1))).1 44 2 = nI q := by rw [← s2]; simp [wI]
        have t1 : (wI w3 44 3 (nI (q + 1))).1 44 1 = nI n := by rw [← s1]; simp [wI]
        have ha4 := ha3.wI (k := 44) (p := 3) (v := nI (q + 1)) ⟨rfl, Or.inr (Or.inl rfl)⟩
        have hf := fin q (q + 1) 3 _ ha4 t2 t3 t4 (by omega) (by omega) (by decide) (by unfold tk; rw [hts, if_neg (by omega), if_pos k3, if_neg (by simp)])
        refine S_X8_step_L2 _ _ _ ?_
        simp +decide (disch := omega) only [↓EQA, CEA, LIA, NIA, Nat.lt_irrefl, Option.toList_some, Option.toList_none, List.cons_append, List.nil_append, true_and, and_true, Nat.reduceAdd, Nat.reduceLeDiff, not_true_eq_false, not_false_eq_true, if_true, if_false, ite_true, ite_false, Int32.reduceLT, ite_not, eq_self, or_true, true_or, ite_self, reduceIte, B_X8_step_L2, t3, t1, t4, ite_self]
        exact hf
      · rw [if_neg k3]
        by_cases k4 : kd (B q) = 4
        · rw [k4] at s4
          have hf := fin q q 4 _ ha3 s2 s3 s4 (Nat.le_refl _) (by omega) (by decide) (by unfold tk; rw [hts, if_neg (by omega), if_neg k3, if_pos k4, if_neg (by simp)])
          refine S_X8_step_L2 _ _ _ ?_
          simp +decide (disch := omega) only [↓EQA, CEA, LIA, NIA, Nat.lt_irrefl, Option.toList_some, Option.toList_none, List.cons_append, List.nil_append, true_and, and_true, Nat.reduceAdd, Nat.reduceLeDiff, not_true_eq_false, not_false_eq_true, if_true, if_false, ite_true, ite_false, Int32.reduceLT, ite_not, eq_self, or_true, true_or, ite_self, reduceIte, B_X8_step_L2, s3, s1, s4, ite_self]
          exact hf
        · exact same q (kd (B q)) z rfl (by omega) hts (n - q) q (by omega) (Nat.le_refl _) (fun i a b => absurd a (by omega)) w3 ha3 s2 s3 s4
    · rw [if_neg z]
      have hqe : q = n := by omega
      have s4 : (wI (wI w1 44 2 (nI q)) 44 4 0).1 44 4 = nI 0 := by simp [wI]; rfl
      have s4' : (wI (wI w1 44 2 (nI q)) 44 4 0).1 44 4 = 0 := by simp [wI]
      have s3 : (wI (wI w1 44 2 (nI q)) 44 4 0).1 44 3 = nI q := by rw [← g3]; simp [wI]
      have s2 : (wI (wI w1 44 2 (nI q)) 44 4 0).1 44 2 = nI q := by simp [wI]
      have s1 : (wI (wI w1 44 2 (nI q)) 44 4 0).1 44 1 = nI n := by rw [← k1]; simp [wI]
      have ha3 := ha2.wI (k := 44) (p := 4) (v := 0) ⟨rfl, Or.inr (Or.inr rfl)⟩
      have hf := fin q q 0 _ ha3 s2 s3 s4 (Nat.le_refl _) (by omega) (by decide) (by unfold tk; rw [hts, if_pos (by omega), if_neg (by simp)])
      simp +decide (disch := omega) only [↓EQA, CEA, LIA, NIA, Nat.lt_irrefl, Option.toList_some, Option.toList_none, List.cons_append, List.nil_append, true_and, and_true, Nat.reduceAdd, Nat.reduceLeDiff, not_true_eq_false, not_false_eq_true, if_true, if_false, ite_true, ite_false, Int32.reduceLT, ite_not, eq_self, or_true, true_or, ite_self, reduceIte, B_X8_step_J2, s4']
      refine S_X8_step_L2 _ _ _ ?_
      simp +decide (disch := omega) only [↓EQA, CEA, LIA, NIA, Nat.lt_irrefl, Option.toList_some, Option.toList_none, List.cons_append, List.nil_append, true_and, and_true, Nat.reduceAdd, Nat.reduceLeDiff, not_true_eq_false, not_false_eq_true, if_true, if_false, ite_true, ite_false, Int32.reduceLT, ite_not, eq_self, or_true, true_or, ite_self, reduceIte, B_X8_step_L2, s3, s1, z]
      exact hf
  -- spaces are passed
  have spaces : ∀ m q, q + m = n → p ≤ q → (∀ i, p ≤ i → i < q → B i = 32) → ∀ w1, Ag StP w w1 → w1.1 44 3 = nI q → Wp m_X8_step (d + 1) 0 Q 8 [.ref 44] [] w1 := by
    intro m
    induction m with
    | zero =>
      intro q hq hpq hall w1 ha g3
      have : q = n := by omega
      subst this
      have k1 : w1.1 44 1 = nI q := by rw [(ha 44 1 (by omega)).1]; exact h1
      refine S_X8_step_L1 _ _ _ ?_
      simp +decide (disch := omega) only [↓EQA, CEA, LIA, NIA, Nat.lt_irrefl, Option.toList_some, Option.toList_none, List.cons_append, List.nil_append, true_and, and_true, Nat.reduceAdd, Nat.reduceLeDiff, not_true_eq_false, not_false_eq_true, if_true, if_false, ite_true, ite_false, Int32.reduceLT, ite_not, eq_self, or_true, true_or, ite_self, reduceIte, B_X8_step_L1, g3, k1]
      exact start q w1 (Nat.le_refl _) (rn_eq hpq (Nat.le_refl _) (fun i a b => by simpa using hall i a b) (fun z => absurd z (Nat.lt_irrefl _))) ha g3
    | succ m ih =>
      intro q hq hpq hall w1 ha g3
      have hqn : q < n := by omega
      have hq900 : q < 900 := by omega
      have k1 : w1.1 44 1 = nI n := by rw [(ha 44 1 (by omega)).1]; exact h1
      have kx : w1.1 1 q = sbt (B q) := by rw [(ha 1 q (by omega)).1]; exact x1 q hqn
      have e32 : (sbt (B q) = 32) = (B q = 32) := sbt_eq (c := 32) (x3 q) (by decide)
      refine S_X8_step_L1 _ _ _ ?_
      simp +decide (disch := omega) only [↓EQA, CEA, LIA, NIA, Nat.lt_irrefl, Option.toList_some, Option.toList_none, List.cons_append, List.nil_append, true_and, and_true, Nat.reduceAdd, Nat.reduceLeDiff, not_true_eq_false, not_false_eq_true, if_true, if_false, ite_true, ite_false, Int32.reduceLT, ite_not, eq_self, or_true, true_or, ite_self, reduceIte, B_X8_step_L1, g3, k1, hqn, hq900, kx, e32, nI_1]
      by_cases z : B q = 32
      · rw [if_pos z]
        refine ih (q + 1) (by omega) (by omega) (fun i a b => ?_) _ (ha.wI ⟨rfl, Or.inr (Or.inl rfl)⟩) (by simp [wI])
        by_cases y : i = q
        · rw [y]; exact z
        · exact hall i a (by omega)
      · rw [if_neg z]
        exact start q w1 (by omega) (rn_eq hpq (by omega) (fun i a b => by simpa using hall i a b) (fun _ => by simpa using z)) ha g3
  refine Cl_of k_X8_step.1 (Nat.le_of_ble_eq_true rfl) (show Wp m_X8_step _ 0 _ 0 [.ref 44] [] _ from S_X8_step_0 _ _ _ ?_)
  simp +decide (disch := omega) only [↓EQA, CEA, LIA, NIA, Nat.lt_irrefl, Option.toList_some, Option.toList_none, List.cons_append, List.nil_append, true_and, and_true, Nat.reduceAdd, Nat.reduceLeDiff, not_true_eq_false, not_false_eq_true, if_true, if_false, ite_true, ite_false, Int32.reduceLT, ite_not, eq_self, or_true, true_or, ite_self, reduceIte, B_X8_step_0, h5]
  exact spaces (n - p) p (by omega) (Nat.le_refl _) (fun i a b => absurd a (by omega)) w Ag.rf h3
end Tok
