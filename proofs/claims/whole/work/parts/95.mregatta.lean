/-! ===== the reference reads the whole text ===== -/
section MReadAll
variable {d : Nat} {w : Mem} {Q : Option Value → Mem → Prop} {B : Nat → Nat} {n c p : Nat} {τ t : Tk3} {s : Cs} {N : Nat → Nm4} {T : Tv} {D F : Nat → Nat} {S : St5}
theorem lane_or : ∀ x : Fin 16, ∀ h : Fin 4, nI (x.val % 2 ^ h.val) ||| (nI (x.val / 2 ^ h.val % 2) <<< (nI h.val &&& 31)) = nI (x.val % 2 ^ (h.val + 1)) := by decide +kernel
theorem mtk3 {k : Nat} (h : k ≤ 4) : (mtk k = 59) = (k = 3) := by
  rcases (by omega : k = 0 ∨ k = 1 ∨ k = 2 ∨ k = 3 ∨ k = 4) with z | z | z | z | z <;> rw [z] <;> decide
theorem mtk0 {k : Nat} (h : k ≤ 4) : (mtk k = 0) = (k = 0) := by
  rcases (by omega : k = 0 ∨ k = 1 ∨ k = 2 ∨ k = 3 ∨ k = 4) with z | z | z | z | z <;> rw [z] <;> decide
/-- all that reading may change -/
abbrev MgP : Nat → Nat → Prop := fun j i => (j = 59 ∧ (i ≤ 11 ∨ i = 13 ∨ i = 14 ∨ i = 20 ∨ i = 21)) ∨ (61 ≤ j ∧ j ≤ 64)
abbrev MfP : Nat → Nat → Prop := fun j i => (j = 59 ∧ (i ≤ 11 ∨ i = 13)) ∨ j = 61 ∨ j = 63
abbrev MgQ (w w' : Mem) (S : St5) : Prop := Ag MgP w w' ∧ w'.1 59 2 = 0 ∧ w'.1 59 9 = 0 ∧ w'.1 59 11 = 0 ∧ w'.1 59 14 = 1 ∧ w'.1 59 20 = 0 ∧ w'.1 59 21 = 0 ∧ (∃ G, (∀ i, i < 74 → w'.1 62 i = G i) ∧ GRl S.1 S.2.1 S.2.2.1 G) ∧ MR w' 64 S.2.1
/-- the told is taken over -/
theorem u_takeOver {x : Int32} {w0 : Mem} (ha : Ag MfP w0 w) (h2 : w.1 59 2 = 0) (h9 : w.1 59 9 = 0) (h11 : w.1 59 11 = 0) (h13 : w.1 59 13 = 0) (hR : MRs w B S) (hV : RDVs B n S) (hQ : ∀ w', MgQ w0 w' S → Q (some (.int (nI (nH S.1)))) w') : B_X11_regatta_J4 (d + 10) 0 Q [.ref 59, .int x, .int (nI 191)] [] w := by
  obtain ⟨T, D, F, N, c⟩ := S
  dsimp only at hR hV hQ
  obtain ⟨⟨G, hG, hg⟩, hN⟩ := hR
  obtain ⟨g1, g2, g3, g4, g5, g6, g7⟩ := id hg
  obtain ⟨hZ, hW, hK, hD, hP, hF⟩ := id hV
  dsimp only at hZ hW hK hD hP hF
  obtain ⟨⟨z5, z6, z7, z8, z9, z10⟩, b1, b2, b3, b4, b5, b6⟩ := id hZ
  have L5 : ∀ m j, j + m = nH T → ∀ w1, Ag MgP w0 w1 → w1.1 59 2 = 0 → w1.1 59 9 = 0 → w1.1 59 11 = 0 → (∀ i, i < 74 → w1.1 62 i = G i) → (∀ i, i < 8 → i ≠ 5 → i ≠ 7 → w1.1 64 i = nI (D i)) → w1.1 64 5 = nI (D 5 % 2 ^ j) → Wp m_X11_regatta (d + 10) 0 Q 253 [.ref 59, .int x, .int (nI j)] [] w1 := by
    intro m
    induction m with
    | zero =>
      intro j hj w1 a1 a2 a9 a11 a62 a64 a5
      have ej : j = nH T := by omega
      subst ej
      have e5 : D 5 % 2 ^ nH T = D 5 := Nat.mod_eq_of_lt hD.2.2.2.2
      rw [e5] at a5
      have r6 : w1.1 62 6 = nI (nH T) := by rw [a62 6 (by decide), g1 6 (by decide)]; exact z6
      have r0 : w1.1 62 0 = nI (D 7) := by rw [a62 0 (by decide), g1 0 (by decide)]; exact hW.1
      refine S_X11_regatta_L5 _ _ _ ?_
      simp +decide (disch := omega) only [↓EQA, CEA, LIA, NIA, Nat.lt_irrefl, Option.toList_some, Option.toList_none, List.cons_append, List.nil_append, true_and, and_true, Nat.reduceAdd, Nat.reduceLeDiff, not_true_eq_false, not_false_eq_true, if_true, if_false, ite_true, ite_false, Int32.reduceLT, ite_not, eq_self, or_true, true_or, ite_self, reduceIte, B_X11_regatta_L5, r6, r0]
      have hx : Ag (fun j i => (j = 64 ∧ i = 7) ∨ (j = 59 ∧ (i = 14 ∨ i = 20 ∨ i = 21))) w1 (wI (wI (wI (wI w1 64 7 (nI (D 7))) 59 14 1) 59 20 0) 59 21 0) := (((Ag.rf.wI (Or.inl ⟨rfl, rfl⟩)).wI (Or.inr ⟨rfl, Or.inl rfl⟩)).wI (Or.inr ⟨rfl, Or.inr (Or.inl rfl)⟩)).wI (Or.inr ⟨rfl, Or.inr (Or.inr rfl)⟩)
      have k14 : (wI (wI (wI (wI w1 64 7 (nI (D 7))) 59 14 1) 59 20 0) 59 21 0).1 59 14 = 1 := by simp [wI]
      have k20 : (wI (wI (wI (wI w1 64 7 (nI (D 7))) 59 14 1) 59 20 0) 59 21 0).1 59 20 = 0 := by simp [wI]
      have k21 : (wI (wI (wI (wI w1 64 7 (nI (D 7))) 59 14 1) 59 20 0) 59 21 0).1 59 21 = 0 := by simp [wI]
      have k7 : (wI (wI (wI (wI w1 64 7 (nI (D 7))) 59 14 1) 59 20 0) 59 21 0).1 64 7 = nI (D 7) := by simp [wI]
      have k6 : (wI (wI (wI (wI w1 64 7 (nI (D 7))) 59 14 1) 59 20 0) 59 21 0).1 62 6 = nI (nH T) := by rw [(hx 62 6 (by omega)).1]; exact r6
      generalize wI (wI (wI (wI w1 64 7 (nI (D 7))) 59 14 1) 59 20 0) 59 21 0 = w2 at hx k14 k20 k21 k7 k6 ⊢
      rw [k6]
      refine hQ w2 ⟨a1.tr (hx.wk fun j i z => by omega), by rw [(hx 59 2 (by omega)).1]; exact a2, by rw [(hx 59 9 (by omega)).1]; exact a9, by rw [(hx 59 11 (by omega)).1]; exact a11, k14, k20, k21, ⟨G, fun i hi => by rw [(hx 62 i (by omega)).1]; exact a62 i hi, hg⟩, fun i hi => ?_⟩
      by_cases q : i = 7
      · rw [q]; exact k7
      · rw [(hx 64 i (by omega)).1]
        by_cases q5 : i = 5
        · rw [q5]; exact a5
        · exact a64 i hi q5 q
    | succ m ih =>
      intro j hj w1 a1 a2 a9 a11 a62 a64 a5
      have hj2 : j < nH T := by omega
      have r6 : w1.1 62 6 = nI (nH T) := by rw [a62 6 (by decide), g1 6 (by decide)]; exact z6
      have ei : 19 + 4 * nI j = nI (19 + 4 * j) := by rw [show (19 : Int32) = nI 19 from rfl, show (4 : Int32) = nI 4 from rfl, nI_mul, nI_add]
      have hx : 19 + 4 * j + 1 < 191 := by omega
      have rl : w1.1 62 (19 + 4 * j + 1) = nI (D 5 / 2 ^ j % 2) := by rw [a62 _ (by omega)]; exact (g3 j hj2).2.1
      have lo := lane_or ⟨D 5, hD.1.2.1⟩ ⟨j, by omega⟩
      dsimp only at lo
      refine S_X11_regatta_L5 _ _ _ ?_
      simp +decide (disch := omega) only [↓EQA, CEA, LIA, NIA, Nat.lt_irrefl, Option.toList_some, Option.toList_none, List.cons_append, List.nil_append, true_and, and_true, Nat.reduceAdd, Nat.reduceLeDiff, not_true_eq_false, not_false_eq_true, if_true, if_false, ite_true, ite_false, Int32.reduceLT, ite_not, eq_self, or_true, true_or, ite_self, reduceIte, B_X11_regatta_L5, r6, hj2, ei, hx, rl, a5, lo]
      have hx2 : Ag (fun j i => j = 64 ∧ i = 5) w1 (wI w1 64 5 (nI (D 5 % 2 ^ (j + 1)))) := Ag.rf.wI ⟨rfl, rfl⟩
      have k5 : (wI w1 64 5 (nI (D 5 % 2 ^ (j + 1)))).1 64 5 = nI (D 5 % 2 ^ (j + 1)) := by simp [wI]
      generalize wI w1 64 5 (nI (D 5 % 2 ^ (j + 1))) = w2 at hx2 k5 ⊢
      exact ih (j + 1) (by omega) w2 (a1.tr (hx2.wk fun j i z => by omega)) (by rw [(hx2 59 2 (by omega)).1]; exact a2) (by rw [(hx2 59 9 (by omega)).1]; exact a9) (by rw [(hx2 59 11 (by omega)).1]; exact a11) (fun i hi => by rw [(hx2 62 i (by omega)).1]; exact a62 i hi) (fun i hi h1 h2 => by rw [(hx2 64 i (by omega)).1]; exact a64 i hi h1 h2) k5
  have L4 : ∀ m j, j + m = nL T → ∀ w1, Ag MgP w0 w1 → w1.1 59 2 = 0 → w1.1 59 9 = 0 → w1.1 59 11 = 0 → (∀ i, i < 74 → w1.1 62 i = G i) → (∀ i, i < 8 → j ≤ i → w1.1 64 i = 0) → (∀ i, i < j → w1.1 64 i = nI (D i)) → Wp m_X11_regatta (d + 10) 0 Q 215 [.ref 59, .int x, .int (nI j)] [] w1 := by
    intro m
    induction m with
    | zero =>
      intro j hj w1 a1 a2 a9 a11 a62 a64 a5
      have ej : j = nL T := by omega
      subst ej
      have r7 : w1.1 62 7 = nI (nL T) := by rw [a62 7 (by decide), g1 7 (by decide)]; exact z7
      refine S_X11_regatta_L4 _ _ _ ?_
      simp +decide (disch := omega) only [↓EQA, CEA, LIA, NIA, Nat.lt_irrefl, Option.toList_some, Option.toList_none, List.cons_append, List.nil_append, true_and, and_true, Nat.reduceAdd, Nat.reduceLeDiff, not_true_eq_false, not_false_eq_true, if_true, if_false, ite_true, ite_false, Int32.reduceLT, ite_not, eq_self, or_true, true_or, ite_self, reduceIte, B_X11_regatta_L4, r7]
      refine L5 (nH T) 0 (by omega) w1 a1 a2 a9 a11 a62 (fun i hi h1 h2 => ?_) (by rw [a64 5 (by decide) (by omega), Nat.pow_zero, Nat.mod_one]; rfl)
      rcases Nat.lt_or_ge i (nL T) with q | q
      · exact a5 i q
      · rw [a64 i hi q]
        rcases (by omega : i < 5 ∨ i = 6) with z | z
        · rw [hD.2.2.1 i q z]; rfl
        · rw [z, hD.2.2.2.1]; rfl
    | succ m ih =>
      intro j hj w1 a1 a2 a9 a11 a62 a64 a5
      have hj2 : j < nL T := by omega
      have hj8 : j < 8 := by omega
      have r7 : w1.1 62 7 = nI (nL T) := by rw [a62 7 (by decide), g1 7 (by decide)]; exact z7
      have ei : 35 + 4 * nI j = nI (35 + 4 * j) := by rw [show (35 : Int32) = nI 35 from rfl, show (4 : Int32) = nI 4 from rfl, nI_mul, nI_add]
      have hx : 35 + 4 * j + 2 < 191 := by omega
      have rl : w1.1 62 (35 + 4 * j + 2) = nI (D j) := by rw [a62 _ (by omega)]; exact (g5 j (by omega)).1
      refine S_X11_regatta_L4 _ _ _ ?_
      simp +decide (disch := omega) only [↓EQA, CEA, LIA, NIA, Nat.lt_irrefl, Option.toList_some, Option.toList_none, List.cons_append, List.nil_append, true_and, and_true, Nat.reduceAdd, Nat.reduceLeDiff, not_true_eq_false, not_false_eq_true, if_true, if_false, ite_true, ite_false, Int32.reduceLT, ite_not, eq_self, or_true, true_or, ite_self, reduceIte, B_X11_regatta_L4, r7, hj2, hj8, ei, hx, rl]
      have hx2 : Ag (fun a i => a = 64 ∧ i = j) w1 (wI w1 64 j (nI (D j))) := Ag.rf.wI ⟨rfl, rfl⟩
      have k5 : (wI w1 64 j (nI (D j))).1 64 j = nI (D j) := by simp [wI]
      generalize wI w1 64 j (nI (D j)) = w2 at hx2 k5 ⊢
      refine ih (j + 1) (by omega) w2 (a1.tr (hx2.wk fun j i z => by omega)) (by rw [(hx2 59 2 (by omega)).1]; exact a2) (by rw [(hx2 59 9 (by omega)).1]; exact a9) (by rw [(hx2 59 11 (by omega)).1]; exact a11) (fun i hi => by rw [(hx2 62 i (by omega)).1]; exact a62 i hi) (fun i hi h1 => by rw [(hx2 64 i (by omega)).1]; exact a64 i hi (by omega)) (fun i hi => ?_)
      by_cases q : i = j
      · rw [q]; exact k5
      · rw [(hx2 64 i (by omega)).1]; exact a5 i (by omega)
  have L3 : ∀ m j, j + m = 8 → ∀ w1, Ag MgP w0 w1 → w1.1 59 2 = 0 → w1.1 59 9 = 0 → w1.1 59 11 = 0 → (∀ i, i < 74 → w1.1 62 i = G i) → (∀ i, i < j → w1.1 64 i = 0) → Wp m_X11_regatta (d + 10) 0 Q 194 [.ref 59, .int x, .int (nI j)] [] w1 := by
    intro m
    induction m with
    | zero =>
      intro j hj w1 a1 a2 a9 a11 a62 a64
      have ej : j = 8 := by omega
      subst ej
      refine S_X11_regatta_L3 _ _ _ ?_
      simp +decide (disch := omega) only [↓EQA, CEA, LIA, NIA, Nat.lt_irrefl, Option.toList_some, Option.toList_none, List.cons_append, List.nil_append, true_and, and_true, Nat.reduceAdd, Nat.reduceLeDiff, not_true_eq_false, not_false_eq_true, if_true, if_false, ite_true, ite_false, Int32.reduceLT, ite_not, eq_self, or_true, true_or, ite_self, reduceIte, B_X11_regatta_L3]
      exact L4 (nL T) 0 (by omega) w1 a1 a2 a9 a11 a62 (fun i hi _ => a64 i hi) (fun i hi => absurd hi (Nat.not_lt_zero _))
    | succ m ih =>
      intro j hj w1 a1 a2 a9 a11 a62 a64
      have hj2 : j < 8 := by omega
      refine S_X11_regatta_L3 _ _ _ ?_
      simp +decide (disch := omega) only [↓EQA, CEA, LIA, NIA, Nat.lt_irrefl, Option.toList_some, Option.toList_none, List.cons_append, List.nil_append, true_and, and_true, Nat.reduceAdd, Nat.reduceLeDiff, not_true_eq_false, not_false_eq_true, if_true, if_false, ite_true, ite_false, Int32.reduceLT, ite_not, eq_self, or_true, true_or, ite_self, reduceIte, B_X11_regatta_L3, hj2]
      have hx2 : Ag (fun a i => a = 64 ∧ i = j) w1 (wI w1 64 j 0) := Ag.rf.wI ⟨rfl, rfl⟩
      have k5 : (wI w1 64 j 0).1 64 j = 0 := by simp [wI]
      generalize wI w1 64 j 0 = w2 at hx2 k5 ⊢
      refine ih (j + 1) (by omega) w2 (a1.tr (hx2.wk fun j i z => by omega)) (by rw [(hx2 59 2 (by omega)).1]; exact a2) (by rw [(hx2 59 9 (by omega)).1]; exact a9) (by rw [(hx2 59 11 (by omega)).1]; exact a11) (fun i hi => by rw [(hx2 62 i (by omega)).1]; exact a62 i hi) (fun i hi => ?_)
      by_cases q : i = j
      · rw [q]; exact k5
      · rw [(hx2 64 i (by omega)).1]; exact a64 i (by omega)
  simp +decide (disch := omega) only [↓EQA, CEA, LIA, NIA, Nat.lt_irrefl, Option.toList_some, Option.toList_none, List.cons_append, List.nil_append, true_and, and_true, Nat.reduceAdd, Nat.reduceLeDiff, not_true_eq_false, not_false_eq_true, if_true, if_false, ite_true, ite_false, Int32.reduceLT, ite_not, eq_self, or_true, true_or, ite_self, reduceIte, B_X11_regatta_J4, h13]
  refine u_copy (a := 63) (b := 62) (p := 0) (q := 0) (n := 191) (na := 191) (nb := 191) (by decide) (by decide) (by decide) (by decide) (by decide) (by decide) (by decide) fun w1 ha1 h1 => ?_
  simp +decide (disch := omega) only [↓EQA, CEA, LIA, NIA, Nat.lt_irrefl, Option.toList_some, Option.toList_none, List.cons_append, List.nil_append, true_and, and_true, Nat.reduceAdd, Nat.reduceLeDiff, not_true_eq_false, not_false_eq_true, if_true, if_false, ite_true, ite_false, Int32.reduceLT, ite_not, eq_self, or_true, true_or, ite_self, reduceIte]
  refine L3 8 0 rfl w1 ((ha.wk fun j i z => by omega).tr (ha1.wk fun j i z => by omega)) (by rw [(ha1 59 2 (by omega)).1]; exact h2) (by rw [(ha1 59 9 (by omega)).1]; exact h9) (by rw [(ha1 59 11 (by omega)).1]; exact h11) (fun i hi => ?_) (fun i hi => absurd hi (Nat.not_lt_zero _))
  have := h1 i (by omega)
  rw [Nat.zero_add] at this
  rw [this]
  exact hG i hi
theorem u_regattaN {tp : Nat} {T0 : Tv} (hX : ∀ i, i < n → w.1 60 i = nI (B i)) (hB : ∀ i, B i < 256) (h2 : w.1 59 2 = nI tp) (hn : n ≤ tp) (htp : tp ≤ 900) (h0 : ∀ i, i ≤ 10 → T0 0 i = 0) (hQ1 : ∀ e, (enF (rdA B n T0)).2 = some e → ∀ w', Ag MfP w w' → w'.1 59 2 = 0 → w'.1 59 9 = nI e.1 → w'.1 59 10 = nI e.2 → w'.1 59 11 = 4 → Q (some (.int (-1))) w') (hQ0 : (enF (rdA B n T0)).2 = none → ∀ w', MgQ w w' (rdA B n T0).2 → Q (some (.int (nI (nH (rdA B n T0).2.1)))) w') : Cl (d + 11) m_X11_regatta [.ref 59, .int (nI n)] w Q := by
  -- behind the last line
  have j4 : ∀ w1 s, Ag MfP w w1 → w1.1 59 2 = 0 → w1.1 59 11 = 0 → MSf w1 B n s → s.2 = (enF (rdA B n T0)).2 → ((enF (rdA B n T0)).2 = none → MRs w1 B (rdA B n T0).2 ∧ RDVs B n (rdA B n T0).2) → B_X11_regatta_J4 (d + 10) 0 Q [.ref 59, .int (nI n), .int (nI 191)] [] w1 := by
    intro w1 s ha1 k2 k11 hS1 hs hR1
    cases hb : (enF (rdA B n T0)).2 with
    | some e =>
      rw [hb] at hs
      have m := hS1.2
      rw [hs] at m
      obtain ⟨m1, m2, m3⟩ := m
      simp +decide (disch := omega) only [↓EQA, CEA, LIA, NIA, Nat.lt_irrefl, Option.toList_some, Option.toList_none, List.cons_append, List.nil_append, true_and, and_true, Nat.reduceAdd, Nat.reduceLeDiff, not_true_eq_false, not_false_eq_true, if_true, if_false, ite_true, ite_false, Int32.reduceLT, ite_not, eq_self, or_true, true_or, ite_self, reduceIte, B_X11_regatta_J4, m1]
      refine u_no ?_
      simp +decide (disch := omega) only [↓EQA, CEA, LIA, NIA, Nat.lt_irrefl, Option.toList_some, Option.toList_none, List.cons_append, List.nil_append, true_and, and_true, Nat.reduceAdd, Nat.reduceLeDiff, not_true_eq_false, not_false_eq_true, if_true, if_false, ite_true, ite_false, Int32.reduceLT, ite_not, eq_self, or_true, true_or, ite_self, reduceIte]
      have hx : Ag (fun j i => j = 59 ∧ i = 11) w1 (wI w1 59 11 4) := Ag.rf.wI ⟨rfl, rfl⟩
      exact hQ1 e hb _ (ha1.tr (hx.wk fun j i z => by omega)) (by rw [(hx 59 2 (by omega)).1]; exact k2) (by rw [(hx 59 9 (by omega)).1]; exact m2) (by rw [(hx 59 10 (by omega)).1]; exact m3) (by simp [wI])
    | none =>
      rw [hb] at hs
      have m := hS1.2
      rw [hs] at m
      obtain ⟨m1, m2, m3, m4⟩ := m
      exact u_takeOver ha1 k2 m4 k11 m1 (hR1 hb).1 (hR1 hb).2 (hQ0 hb)
  have j1 : ∀ w1, Ag MfP w w1 → w1.1 59 2 = 0 → w1.1 59 11 = 0 → MSf w1 B n (rdA B n T0).1 → ((rdA B n T0).1.2 = none → MRs w1 B (rdA B n T0).2 ∧ RDVs B n (rdA B n T0).2) → B_X11_regatta_J1 (d + 10) 0 Q [.ref 59, .int (nI n), .int (nI 191)] [] w1 := by
    intro w1 ha1 k2 k11 hS1 hR1
    generalize rdA B n T0 = X at hS1 hR1 j4
    cases hb : X.1.2 with
    | some e =>
      have hf1 := hS1.f1 hb
      simp +decide (disch := omega) only [↓EQA, CEA, LIA, NIA, Nat.lt_irrefl, Option.toList_some, Option.toList_none, List.cons_append, List.nil_append, true_and, and_true, Nat.reduceAdd, Nat.reduceLeDiff, not_true_eq_false, not_false_eq_true, if_true, if_false, ite_true, ite_false, Int32.reduceLT, ite_not, eq_self, or_true, true_or, ite_self, reduceIte, B_X11_regatta_J1, hf1, B_X11_regatta_J2]
      have eE := enF_some hb
      exact j4 w1 X.1 ha1 k2 k11 hS1 (by rw [eE]) (fun z => by rw [eE, hb] at z; cases z)
    | none =>
      have hf1 := hS1.f0 hb
      have h4 : w1.1 59 4 = nI X.1.1.1 := hS1.a4 hb
      have m := hS1.2
      rw [hb] at m
      obtain ⟨m1, m2, m3, m4⟩ := m
      have hk4 : X.1.1.2.2 ≤ 4 := m3.1.2.2
      have h6 : w1.1 59 6 = mtk X.1.1.2.2 := m2.2.1
      have e6 := mtk0 hk4
      simp +decide (disch := omega) only [↓EQA, CEA, LIA, NIA, Nat.lt_irrefl, Option.toList_some, Option.toList_none, List.cons_append, List.nil_append, true_and, and_true, Nat.reduceAdd, Nat.reduceLeDiff, not_true_eq_false, not_false_eq_true, if_true, if_false, ite_true, ite_false, Int32.reduceLT, ite_not, eq_self, or_true, true_or, ite_self, reduceIte, B_X11_regatta_J1, hf1, h6, e6]
      by_cases q : X.1.1.2.2 = 0
      · rw [if_pos q]
        obtain ⟨⟨⟨G, hG, hg⟩, hN⟩, rv⟩ := hR1 hb
        obtain ⟨hZ, hW, -⟩ := id rv
        have r0 : w1.1 63 0 = nI (X.2.2.1 7) := by rw [hG 0 (by decide), hg.1 0 (by decide)]; exact hW.1
        have r6 : w1.1 63 6 = nI (nH X.2.1) := by rw [hG 6 (by decide), hg.1 6 (by decide)]; exact hZ.1.2.1
        have b7 : X.2.2.1 7 ≤ 20 := rv.2.2.2.1.1.2.2.2
        have b6 : nH X.2.1 ≤ 4 := hZ.2.2.1
        have f0 : (nI (X.2.2.1 7) = 0) = (X.2.2.1 7 = 0) := eq_n (b := 0) (by omega) (by decide)
        have f6 : (nI (nH X.2.1) = 0) = (nH X.2.1 = 0) := eq_n (b := 0) (by omega) (by decide)
        have im : X.2.2.1 7 = 0 → nH X.2.1 = 0 := fun z => by
          have := hW.2.1 z 6 (by decide)
          unfold nH
          rw [this]; rfl
        have bad : nH X.2.1 = 0 → B_X11_regatta_J3 (d + 10) 0 Q [.ref 59, .int (nI n), .int (nI 191)] [] w1 := by
          intro z
          have eE := enF_6 hb q z
          simp +decide (disch := omega) only [↓EQA, CEA, LIA, NIA, Nat.lt_irrefl, Option.toList_some, Option.toList_none, List.cons_append, List.nil_append, true_and, and_true, Nat.reduceAdd, Nat.reduceLeDiff, not_true_eq_false, not_false_eq_true, if_true, if_false, ite_true, ite_false, Int32.reduceLT, ite_not, eq_self, or_true, true_or, ite_self, reduceIte, B_X11_regatta_J3, h4]
          refine u_wrong (f := 6) (p := X.1.1.1) hf1 ?_
          obtain ⟨c1, c2⟩ := MSf.bad (τ := X.1.1) (f := 6) hS1.1
          simp +decide (disch := omega) only [↓EQA, CEA, LIA, NIA, Nat.lt_irrefl, Option.toList_some, Option.toList_none, List.cons_append, List.nil_append, true_and, and_true, Nat.reduceAdd, Nat.reduceLeDiff, not_true_eq_false, not_false_eq_true, if_true, if_false, ite_true, ite_false, Int32.reduceLT, ite_not, eq_self, or_true, true_or, ite_self, reduceIte]
          exact j4 _ (X.1.1, some (6, X.1.1.1)) (ha1.tr (c2.wk fun j i z => by omega)) (by rw [(c2 59 2 (by omega)).1]; exact k2) (by rw [(c2 59 11 (by omega)).1]; exact k11) c1 (by rw [eE]) (fun z => by rw [eE] at z; cases z)
        simp +decide (disch := omega) only [↓EQA, CEA, LIA, NIA, Nat.lt_irrefl, Option.toList_some, Option.toList_none, List.cons_append, List.nil_append, true_and, and_true, Nat.reduceAdd, Nat.reduceLeDiff, not_true_eq_false, not_false_eq_true, if_true, if_false, ite_true, ite_false, Int32.reduceLT, ite_not, eq_self, or_true, true_or, ite_self, reduceIte, B_X11_regatta_J2, hf1, r0, f0, r6, f6]
        by_cases q0 : X.2.2.1 7 = 0
        · rw [if_pos q0]; exact bad (im q0)
        · rw [if_neg q0]
          by_cases q6 : nH X.2.1 = 0
          · rw [if_pos q6]; exact bad q6
          · rw [if_neg q6]
            have eE := enF_0 hb q q6
            exact j4 w1 X.1 ha1 k2 k11 hS1 (by rw [eE]; exact hb) (fun _ => hR1 hb)
      · rw [if_neg q]
        have eE := enF_1 hb q
        simp +decide (disch := omega) only [↓EQA, CEA, LIA, NIA, Nat.lt_irrefl, Option.toList_some, Option.toList_none, List.cons_append, List.nil_append, true_and, and_true, Nat.reduceAdd, Nat.reduceLeDiff, not_true_eq_false, not_false_eq_true, if_true, if_false, ite_true, ite_false, Int32.reduceLT, ite_not, eq_self, or_true, true_or, ite_self, reduceIte, h4]
        refine u_wrong (f := 1) (p := X.1.1.1) hf1 ?_
        obtain ⟨c1, c2⟩ := MSf.bad (τ := X.1.1) (f := 1) hS1.1
        have hf2 := c1.2.1
        simp +decide (disch := omega) only [↓EQA, CEA, LIA, NIA, Nat.lt_irrefl, Option.toList_some, Option.toList_none, List.cons_append, List.nil_append, true_and, and_true, Nat.reduceAdd, Nat.reduceLeDiff, not_true_eq_false, not_false_eq_true, if_true, if_false, ite_true, ite_false, Int32.reduceLT, ite_not, eq_self, or_true, true_or, ite_self, reduceIte, B_X11_regatta_J2, hf2]
        exact j4 _ (X.1.1, some (1, X.1.1.1)) (ha1.tr (c2.wk fun j i z => by omega)) (by rw [(c2 59 2 (by omega)).1]; exact k2) (by rw [(c2 59 11 (by omega)).1]; exact k11) c1 (by rw [eE]) (fun z => by rw [eE] at z; cases z)
  -- the lines
  have L2 : ∀ m X, (X.1.2 = none ∧ X.1.1.2.2 = 3 → n + 1 ≤ m + X.1.1.2.1) → ∀ w1, Ag MfP w w1 → w1.1 59 2 = 0 → w1.1 59 11 = 0 → MSf w1 B n X.1 → (X.1.2 = none → MRs w1 B X.2 ∧ RDVs B n X.2) → rdF B n m X = rdA B n T0 → Wp m_X11_regatta (d + 10) 0 Q 77 [.ref 59, .int (nI n), .int (nI 191)] [] w1 := by
    intro m
    induction m with
    | zero =>
      intro X hm w1 ha1 k2 k11 hS1 hR1 hX
      have hX' : X = rdA B n T0 := hX
      have no : ¬ (X.1.2 = none ∧ X.1.1.2.2 = 3) := fun z => by
        have h1 := hm z
        have m := hS1.2
        rw [z.1] at m
        have : X.1.1.2.1 ≤ n := m.2.2.1.1.2.1
        omega
      have fin := j1 w1 ha1 k2 k11 (by rw [← hX']; exact hS1) (by rw [← hX']; exact hR1)
      refine S_X11_regatta_L2 _ _ _ ?_
      cases hb : X.1.2 with
      | some e =>
        have hf1 := hS1.f1 hb
        simp +decide (disch := omega) only [↓EQA, CEA, LIA, NIA, Nat.lt_irrefl, Option.toList_some, Option.toList_none, List.cons_append, List.nil_append, true_and, and_true, Nat.reduceAdd, Nat.reduceLeDiff, not_true_eq_false, not_false_eq_true, if_true, if_false, ite_true, ite_false, Int32.reduceLT, ite_not, eq_self, or_true, true_or, ite_self, reduceIte, B_X11_regatta_L2, hf1]
        exact fin
      | none =>
        have hf1 := hS1.f0 hb
        have m := hS1.2
        rw [hb] at m
        obtain ⟨m1, m2, m3, m4⟩ := m
        have h6 : w1.1 59 6 = mtk X.1.1.2.2 := m2.2.1
        have e6 := mtk3 (k := X.1.1.2.2) m3.1.2.2
        have q : ¬ X.1.1.2.2 = 3 := fun z => no ⟨hb, z⟩
        simp +decide (disch := omega) only [↓EQA, CEA, LIA, NIA, Nat.lt_irrefl, Option.toList_some, Option.toList_none, List.cons_append, List.nil_append, true_and, and_true, Nat.reduceAdd, Nat.reduceLeDiff, not_true_eq_false, not_false_eq_true, if_true, if_false, ite_true, ite_false, Int32.reduceLT, ite_not, eq_self, or_true, true_or, ite_self, reduceIte, B_X11_regatta_L2, hf1, h6, e6, q]
        exact fin
    | succ m ih =>
      intro X hm w1 ha1 k2 k11 hS1 hR1 hX
      refine S_X11_regatta_L2 _ _ _ ?_
      cases hb : X.1.2 with
      | some e =>
        have hf1 := hS1.f1 hb
        rw [rdF_no (fun z => by rw [hb] at z; cases z.1)] at hX
        simp +decide (disch := omega) only [↓EQA, CEA, LIA, NIA, Nat.lt_irrefl, Option.toList_some, Option.toList_none, List.cons_append, List.nil_append, true_and, and_true, Nat.reduceAdd, Nat.reduceLeDiff, not_true_eq_false, not_false_eq_true, if_true, if_false, ite_true, ite_false, Int32.reduceLT, ite_not, eq_self, or_true, true_or, ite_self, reduceIte, B_X11_regatta_L2, hf1]
        exact j1 w1 ha1 k2 k11 (by rw [← hX]; exact hS1) (by rw [← hX]; exact hR1)
      | none =>
        have hf1 := hS1.f0 hb
        have m := hS1.2
        rw [hb] at m
        obtain ⟨m1, m2, m3, m4⟩ := m
        have h6 : w1.1 59 6 = mtk X.1.1.2.2 := m2.2.1
        have e6 := mtk3 (k := X.1.1.2.2) m3.1.2.2
        simp +decide (disch := omega) only [↓EQA, CEA, LIA, NIA, Nat.lt_irrefl, Option.toList_some, Option.toList_none, List.cons_append, List.nil_append, true_and, and_true, Nat.reduceAdd, Nat.reduceLeDiff, not_true_eq_false, not_false_eq_true, if_true, if_false, ite_true, ite_false, Int32.reduceLT, ite_not, eq_self, or_true, true_or, ite_self, reduceIte, B_X11_regatta_L2, hf1, h6, e6]
        by_cases q : X.1.1.2.2 = 3
        · rw [if_pos q]
          have eX : X.1 = (X.1.1, none) := Prod.ext rfl hb
          rw [eX] at hS1
          refine u_nextS hS1 (by rw [q]; decide) fun w2 ha2 hS2 => ?_
          have hR2 : MRs w2 B X.2 := by
            obtain ⟨⟨G, hG, hg⟩, hN⟩ := (hR1 hb).1
            exact ⟨⟨G, hG.ag ha2 (fun i hi z => by omega), hg⟩, hN.ag ha2 (fun i hi z => by omega)⟩
          simp +decide (disch := omega) only [↓EQA, CEA, LIA, NIA, Nat.lt_irrefl, Option.toList_some, Option.toList_none, List.cons_append, List.nil_append, true_and, and_true, Nat.reduceAdd, Nat.reduceLeDiff, not_true_eq_false, not_false_eq_true, if_true, if_false, ite_true, ite_false, Int32.reduceLT, ite_not, eq_self, or_true, true_or, ite_self, reduceIte]
          refine u_readLine hS2 hR2 (hR1 hb).2 fun w3 ha3 hS3 hR3 => ?_
          simp +decide (disch := omega) only [↓EQA, CEA, LIA, NIA, Nat.lt_irrefl, Option.toList_some, Option.toList_none, List.cons_append, List.nil_append, true_and, and_true, Nat.reduceAdd, Nat.reduceLeDiff, not_true_eq_false, not_false_eq_true, if_true, if_false, ite_true, ite_false, Int32.reduceLT, ite_not, eq_self, or_true, true_or, ite_self, reduceIte]
          have hT2 : TKp B n (nxT B n X.1.1) := hS2.2.2.2.1
          refine ih (lnF B n X.2 (nxT B n X.1.1)) (fun z => ?_) w3 ((ha1.tr (ha2.wk fun j i z => by omega)).tr (ha3.wk fun j i z => by omega)) (by rw [(ha3 59 2 (by omega)).1, (ha2 59 2 (by omega)).1]; exact k2) (by rw [(ha3 59 11 (by omega)).1, (ha2 59 11 (by omega)).1]; exact k11) hS3 (fun z => ⟨hR3 z, rv_step (hR1 hb).2 hT2 z⟩) (by rw [← hX, rdF_yes ⟨hb, q⟩])
          have g1 := ln_pg hT2 z.1
          have g2 : PG n X.1.1.2.1 (nxT B n X.1.1) := tk_pg m3.1.2.1
          have g3 := hm ⟨hb, q⟩
          have g4 := g1.2.2.2 z.2
          have g5 := g1.1
          have g6 := g2.1
          have g7 := g2.2.1
          omega
        · rw [if_neg q]
          rw [rdF_no (fun z => q z.2)] at hX
          exact j1 w1 ha1 k2 k11 (by rw [← hX]; exact hS1) (by rw [← hX]; exact hR1)
  -- the row is laid blank
  have L1 : ∀ m j, j + m = 191 → ∀ w1, Ag MfP w w1 → w1.1 59 2 = 0 → w1.1 59 9 = 0 → w1.1 59 11 = 0 → w1.1 59 13 = 0 → (∀ i, i < j → w1.1 63 i = 0) → Wp m_X11_regatta (d + 10) 0 Q 39 [.ref 59, .int (nI n), .int (nI j)] [] w1 := by
    intro m
    induction m with
    | zero =>
      intro j hj w1 a1 a2 a9 a11 a13 a63
      have ej : j = 191 := by omega
      subst ej
      refine S_X11_regatta_L1 _ _ _ ?_
      simp +decide (disch := omega) only [↓EQA, CEA, LIA, NIA, Nat.lt_irrefl, Option.toList_some, Option.toList_none, List.cons_append, List.nil_append, true_and, and_true, Nat.reduceAdd, Nat.reduceLeDiff, not_true_eq_false, not_false_eq_true, if_true, if_false, ite_true, ite_false, Int32.reduceLT, ite_not, eq_self, or_true, true_or, ite_self, reduceIte, B_X11_regatta_L1]
      have hx : Ag (fun j i => j = 59 ∧ (i = 3 ∨ i = 5)) w1 (wI (wI w1 59 3 (nI n)) 59 5 0) := (Ag.rf.wI ⟨rfl, Or.inl rfl⟩).wI ⟨rfl, Or.inr rfl⟩
      have k3 : (wI (wI w1 59 3 (nI n)) 59 5 0).1 59 3 = nI n := by simp [wI]
      have k5 : (wI (wI w1 59 3 (nI n)) 59 5 0).1 59 5 = nI 0 := by simp [wI, nI_0]
      generalize wI (wI w1 59 3 (nI n)) 59 5 0 = w2 at hx k3 k5 ⊢
      have ha2 : Ag MfP w w2 := a1.tr (hx.wk fun j i z => by omega)
      have hX2 : MX w2 B n := ⟨fun i hi => by rw [(ha2 60 i (by omega)).1]; exact hX i hi, k3, by omega, hB⟩
      refine u_next (p := 0) hX2 k5 (Nat.zero_le _) fun w3 ha3 hM3 => ?_
      have hX3 : MX w3 B n := hX2.ag ha3 (fun i z => by omega) (by omega)
      have hS3 : MSf w3 B n (tk B n 0, none) := ⟨hX3, by rw [(ha3 59 13 (by omega)).1, (hx 59 13 (by omega)).1]; exact a13, hM3, tk_ok (Nat.zero_le _), by rw [(ha3 59 9 (by omega)).1, (hx 59 9 (by omega)).1]; exact a9⟩
      have g63 : ∀ i, i < 191 → w3.1 63 i = 0 := fun i hi => by rw [(ha3 63 i (by omega)).1, (hx 63 i (by omega)).1]; exact a63 i hi
      have hR3 : MRs w3 B (st0 T0) := by
        refine ⟨⟨fun _ => 0, fun i hi => g63 i (by omega), ?_⟩, fun s hs => Or.inr ⟨fun i hi => absurd hi (Nat.not_lt_zero _), g63 _ (by omega)⟩⟩
        have e5 : nB T0 = 0 := by unfold nB; rw [h0 5 (by decide)]; rfl
        have e6 : nH T0 = 0 := by unfold nH; rw [h0 6 (by decide)]; rfl
        have e7 : nL T0 = 0 := by unfold nL; rw [h0 7 (by decide)]; rfl
        have e9 : nP T0 = 0 := by unfold nP; rw [h0 9 (by decide)]; rfl
        have e10 : nS T0 = 0 := by unfold nS; rw [h0 10 (by decide)]; rfl
        show GRl T0 (fun _ => 0) (fun _ => 0) (fun _ => 0)
        exact ⟨fun i hi => (h0 i hi).symm, fun k hk => by omega, fun k hk => by omega, fun k hk => by omega, fun k hk => ⟨rfl, rfl⟩, fun k hk => by omega, fun k hk => by omega⟩
      have hV0 : RDVs B n (st0 T0) := st0_ok h0
      simp +decide (disch := omega) only [↓EQA, CEA, LIA, NIA, Nat.lt_irrefl, Option.toList_some, Option.toList_none, List.cons_append, List.nil_append, true_and, and_true, Nat.reduceAdd, Nat.reduceLeDiff, not_true_eq_false, not_false_eq_true, if_true, if_false, ite_true, ite_false, Int32.reduceLT, ite_not, eq_self, or_true, true_or, ite_self, reduceIte]
      refine u_readLine hS3 hR3 hV0 fun w4 ha4 hS4 hR4 => ?_
      simp +decide (disch := omega) only [↓EQA, CEA, LIA, NIA, Nat.lt_irrefl, Option.toList_some, Option.toList_none, List.cons_append, List.nil_append, true_and, and_true, Nat.reduceAdd, Nat.reduceLeDiff, not_true_eq_false, not_false_eq_true, if_true, if_false, ite_true, ite_false, Int32.reduceLT, ite_not, eq_self, or_true, true_or, ite_self, reduceIte]
      have hT0 : TKp B n (tk B n 0) := tk_ok (Nat.zero_le _)
      refine L2 n (lnF B n (st0 T0) (tk B n 0)) (fun z => ?_) w4 ((ha2.tr (ha3.wk fun j i z => by omega)).tr (ha4.wk fun j i z => by omega)) (by rw [(ha4 59 2 (by omega)).1, (ha3 59 2 (by omega)).1, (hx 59 2 (by omega)).1]; exact a2) (by rw [(ha4 59 11 (by omega)).1, (ha3 59 11 (by omega)).1, (hx 59 11 (by omega)).1]; exact a11) hS4 (fun z => ⟨hR4 z, rv_step hV0 hT0 z⟩) rfl
      have g4 := (ln_pg hT0 z.1).2.2.2 z.2
      omega
    | succ m ih =>
      intro j hj w1 a1 a2 a9 a11 a13 a63
      have hj2 : j < 191 := by omega
      have hl2 : (nI j < 191) = True := eq_true (nI_lt (b := 191) hj2 (by decide))
      refine S_X11_regatta_L1 _ _ _ ?_
      simp +decide (disch := omega) only [↓EQA, CEA, LIA, NIA, Nat.lt_irrefl, Option.toList_some, Option.toList_none, List.cons_append, List.nil_append, true_and, and_true, Nat.reduceAdd, Nat.reduceLeDiff, not_true_eq_false, not_false_eq_true, if_true, if_false, ite_true, ite_false, Int32.reduceLT, ite_not, eq_self, or_true, true_or, ite_self, reduceIte, B_X11_regatta_L1, hj2, hl2]
      have hx2 : Ag (fun a i => a = 63 ∧ i = j) w1 (wI w1 63 j 0) := Ag.rf.wI ⟨rfl, rfl⟩
      have k5 : (wI w1 63 j 0).1 63 j = 0 := by simp [wI]
      generalize wI w1 63 j 0 = w2 at hx2 k5 ⊢
      refine ih (j + 1) (by omega) w2 (a1.tr (hx2.wk fun j i z => by omega)) (by rw [(hx2 59 2 (by omega)).1]; exact a2) (by rw [(hx2 59 9 (by omega)).1]; exact a9) (by rw [(hx2 59 11 (by omega)).1]; exact a11) (by rw [(hx2 59 13 (by omega)).1]; exact a13) (fun i hi => ?_)
      by_cases q : i = j
      · rw [q]; exact k5
      · rw [(hx2 63 i (by omega)).1]; exact a63 i (by omega)
  refine Cl_of k_X11_regatta.1 (Nat.le_of_ble_eq_true rfl) (show Wp m_X11_regatta _ 0 _ 0 [.ref 59, .int (nI n), .null] [] _ from S_X11_regatta_0 _ _ _ ?_)
  simp +decide (disch := omega) only [↓EQA, CEA, LIA, NIA, Nat.lt_irrefl, Option.toList_some, Option.toList_none, List.cons_append, List.nil_append, true_and, and_true, Nat.reduceAdd, Nat.reduceLeDiff, not_true_eq_false, not_false_eq_true, if_true, if_false, ite_true, ite_false, Int32.reduceLT, ite_not, eq_self, or_true, true_or, ite_self, reduceIte, B_X11_regatta_0]
  refine u_good ?_
  have g2 : (wI (wI w 59 0 0) 59 11 0).1 59 2 = nI tp := by rw [← h2]; simp [wI]
  simp +decide (disch := omega) only [↓EQA, CEA, LIA, NIA, Nat.lt_irrefl, Option.toList_some, Option.toList_none, List.cons_append, List.nil_append, true_and, and_true, Nat.reduceAdd, Nat.reduceLeDiff, not_true_eq_false, not_false_eq_true, if_true, if_false, ite_true, ite_false, Int32.reduceLT, ite_not, eq_self, or_true, true_or, ite_self, reduceIte, g2]
  refine u_in ?_
  rw [show bI (¬ nI n < 0 ∧ ¬ nI tp < nI n) = 1 from if_pos ⟨nI_pos (by omega), nI_nlt hn (by omega)⟩]
  simp +decide (disch := omega) only [↓EQA, CEA, LIA, NIA, Nat.lt_irrefl, Option.toList_some, Option.toList_none, List.cons_append, List.nil_append, true_and, and_true, Nat.reduceAdd, Nat.reduceLeDiff, not_true_eq_false, not_false_eq_true, if_true, if_false, ite_true, ite_false, Int32.reduceLT, ite_not, eq_self, or_true, true_or, ite_self, reduceIte]
  have hx : Ag (fun j i => j = 59 ∧ (i = 0 ∨ i = 11 ∨ i = 2 ∨ i = 9 ∨ i = 13)) w (wI (wI (wI (wI (wI w 59 0 0) 59 11 0) 59 2 0) 59 9 0) 59 13 0) := ((((Ag.rf.wI ⟨rfl, Or.inl rfl⟩).wI ⟨rfl, Or.inr (Or.inl rfl)⟩).wI ⟨rfl, Or.inr (Or.inr (Or.inl rfl))⟩).wI ⟨rfl, Or.inr (Or.inr (Or.inr (Or.inl rfl)))⟩).wI ⟨rfl, Or.inr (Or.inr (Or.inr (Or.inr rfl)))⟩
  exact L1 191 0 rfl _ (hx.wk fun j i z => by omega) (by simp [wI]) (by simp [wI]) (by simp [wI]) (by simp [wI]) (fun i hi => absurd hi (Nat.not_lt_zero _))
end MReadAll
