/-! ===== the reference: a line of a house, of the regatta ===== -/
section MLines2
variable {d : Nat} {w : Mem} {Q : Option Value → Mem → Prop} {B : Nat → Nat} {n b h l c k : Nat} {τ : Tk3} {s : Cs} {N : Nat → Nm4} {G : Nat → Int32}
theorem u_wrongF {f p : Int32} (hf : w.1 59 13 = 1) (hQ : Q none w) : Cl (d + 1) m_X11_wrong [.ref 59, .int f, .int p] w Q := by
  refine Cl_of k_X11_wrong.1 (Nat.le_of_ble_eq_true rfl) (show Wp m_X11_wrong _ 0 _ 0 [.ref 59, .int f, .int p] [] _ from S_X11_wrong_0 _ _ _ ?_)
  simp +decide (disch := omega) only [↓EQA, CEA, LIA, NIA, Nat.lt_irrefl, Option.toList_some, Option.toList_none, List.cons_append, List.nil_append, true_and, and_true, Nat.reduceAdd, Nat.reduceLeDiff, not_true_eq_false, not_false_eq_true, if_true, if_false, ite_true, ite_false, Int32.reduceLT, ite_not, eq_self, or_true, true_or, ite_self, reduceIte, B_X11_wrong_0, hf]
  exact hQ
theorem cst_some {f : Tk3 → Ans} {e : Nat × Nat} (h : s.2 = some e) : cst f s = s := by
  obtain ⟨t, bl⟩ := s
  have h' : bl = some e := h
  subst h'
  unfold cst
  cases f t <;> rfl
theorem isWb_get {i : Nat} (h : isWb B τ i = true) : ∀ j, j < wln i → B (τ.1 + j) = wd i j := by
  intro j hj
  unfold isWb at h
  simp only [Bool.and_eq_true, decide_eq_true_eq] at h
  have := (frst_spec (fun j => !decide (B (τ.1 + j) = wd i j)) (wln i)).2.1 j (by rw [h.2.2]; exact hj)
  simpa using this
theorem isWb_ne {i j : Nat} (h : isWb B τ i = true) (hne : wln i ≠ wln j ∨ (0 < wln i ∧ 0 < wln j ∧ wd i 0 ≠ wd j 0)) : isWb B τ j = false := by
  cases q : isWb B τ j with
  | false => rfl
  | true =>
    rcases hne with z | ⟨z1, z2, z⟩
    · exact absurd ((isWb_len h).2.symm.trans (isWb_len q).2) z
    · exact absurd ((isWb_get h 0 z1).symm.trans (isWb_get q 0 z2)) z
theorem u_houseLine (hS : MSf w B n (τ, none)) (hN : MNM w B c N) (hP : NMP B n b k l c N) (hb : b ≤ 4) (hk4 : k < 4) (hl : l ≤ 5) (hG : R63 w G) (hk : G 6 = nI k) (hQ : ∀ w', Ag MlP w w' → MSf w' B n (hs7 B n N c τ) → ((hs7 B n N c τ).2 = none → MNM w' B (c + 1) (adN N c (τ.1, τ.2.1, 6, k)) ∧ R63 w' (updG (updG (updG (updG (updG G (19 + 4 * k) (nI (kiV B (bd1 B n N c τ).1))) (19 + 4 * k + 1) (nI (sdV B (hs2 B n N c τ).1))) (19 + 4 * k + 2) (nI (valT B (hs4 B n N c τ).1))) (19 + 4 * k + 3) (nI (valT B (hs6 B n N c τ).1))) 6 (nI (k + 1)))) → Q none w') : Cl (d + 9) m_X11_houseLine [.ref 59] w Q := by
  have hf : w.1 59 13 = 0 := hS.2.1
  have k6 : w.1 63 6 = nI k := by rw [hG 6 (by decide)]; exact hk
  have ei : 19 + 4 * nI k = nI (19 + 4 * k) := by rw [show (19 : Int32) = nI 19 from rfl, show (4 : Int32) = nI 4 from rfl, nI_mul, nI_add]
  refine Cl_of k_X11_houseLine.1 (Nat.le_of_ble_eq_true rfl) (show Wp m_X11_houseLine _ 0 _ 0 [.ref 59, .null, .null] [] _ from S_X11_houseLine_0 _ _ _ ?_)
  simp +decide (disch := omega) only [↓EQA, CEA, LIA, NIA, Nat.lt_irrefl, Option.toList_some, Option.toList_none, List.cons_append, List.nil_append, true_and, and_true, Nat.reduceAdd, Nat.reduceLeDiff, not_true_eq_false, not_false_eq_true, if_true, if_false, ite_true, ite_false, Int32.reduceLT, ite_not, eq_self, or_true, true_or, ite_self, reduceIte, B_X11_houseLine_0, hf, k6, ei]
  refine u_newName (so := 6) (nu := k) hS hN hP hb (by omega) hl (k := k) (by omega) (by unfold slN; simp) (fun i hi e => ?_) fun w1 ha1 hS1 hN1 => ?_
  · have := (hP.2.1 i hi).2
    unfold slN at e
    rcases this with ⟨e1, q⟩ | ⟨e1, q⟩ | ⟨e1, q⟩ <;> rw [e1] at e <;> simp at e <;> omega
  have hG1 : R63 w1 G := hG.ag ha1 (fun i hi z => by omega)
  have hS1' : MSf w1 B n (bd1 B n N c τ) := hS1
  cases hbl : (bd1 B n N c τ).2 with
  | some e =>
    have h7 : hs7 B n N c τ = bd1 B n N c τ := by
      have h2 : hs2 B n N c τ = bd1 B n N c τ := cst_some hbl
      have h3 : hs3 B n N c τ = bd1 B n N c τ := by unfold hs3; rw [h2]; exact cst_some hbl
      have h4 : hs4 B n N c τ = bd1 B n N c τ := by unfold hs4; rw [h3]; exact cst_some hbl
      have h5 : hs5 B n N c τ = bd1 B n N c τ := by unfold hs5; rw [h4]; exact cst_some hbl
      have h6 : hs6 B n N c τ = bd1 B n N c τ := by unfold hs6; rw [h5]; exact cst_some hbl
      unfold hs7; rw [h6]; exact cst_some hbl
    have hf1 : w1.1 59 13 = 1 := by have := hS1'.2; rw [hbl] at this; exact this.1
    simp +decide (disch := omega) only [↓EQA, CEA, LIA, NIA, Nat.lt_irrefl, Option.toList_some, Option.toList_none, List.cons_append, List.nil_append, true_and, and_true, Nat.reduceAdd, Nat.reduceLeDiff, not_true_eq_false, not_false_eq_true, if_true, if_false, ite_true, ite_false, Int32.reduceLT, ite_not, eq_self, or_true, true_or, ite_self, reduceIte]
    refine u_isWordF (i := 19) hf1 ?_
    simp +decide (disch := omega) only [↓EQA, CEA, LIA, NIA, Nat.lt_irrefl, Option.toList_some, Option.toList_none, List.cons_append, List.nil_append, true_and, and_true, Nat.reduceAdd, Nat.reduceLeDiff, not_true_eq_false, not_false_eq_true, if_true, if_false, ite_true, ite_false, Int32.reduceLT, ite_not, eq_self, or_true, true_or, ite_self, reduceIte]
    refine u_isWordF (i := 16) hf1 ?_
    simp +decide (disch := omega) only [↓EQA, CEA, LIA, NIA, Nat.lt_irrefl, Option.toList_some, Option.toList_none, List.cons_append, List.nil_append, true_and, and_true, Nat.reduceAdd, Nat.reduceLeDiff, not_true_eq_false, not_false_eq_true, if_true, if_false, ite_true, ite_false, Int32.reduceLT, ite_not, eq_self, or_true, true_or, ite_self, reduceIte]
    refine u_isWordF (i := 17) hf1 ?_
    simp +decide (disch := omega) only [↓EQA, CEA, LIA, NIA, Nat.lt_irrefl, Option.toList_some, Option.toList_none, List.cons_append, List.nil_append, true_and, and_true, Nat.reduceAdd, Nat.reduceLeDiff, not_true_eq_false, not_false_eq_true, if_true, if_false, ite_true, ite_false, Int32.reduceLT, ite_not, eq_self, or_true, true_or, ite_self, reduceIte]
    refine u_isWordF (i := 18) hf1 ?_
    simp +decide (disch := omega) only [↓EQA, CEA, LIA, NIA, Nat.lt_irrefl, Option.toList_some, Option.toList_none, List.cons_append, List.nil_append, true_and, and_true, Nat.reduceAdd, Nat.reduceLeDiff, not_true_eq_false, not_false_eq_true, if_true, if_false, ite_true, ite_false, Int32.reduceLT, ite_not, eq_self, or_true, true_or, ite_self, reduceIte, B_X11_houseLine_J1]
    refine u_wrongF hf1 ?_
    simp +decide (disch := omega) only [↓EQA, CEA, LIA, NIA, Nat.lt_irrefl, Option.toList_some, Option.toList_none, List.cons_append, List.nil_append, true_and, and_true, Nat.reduceAdd, Nat.reduceLeDiff, not_true_eq_false, not_false_eq_true, if_true, if_false, ite_true, ite_false, Int32.reduceLT, ite_not, eq_self, or_true, true_or, ite_self, reduceIte, B_X11_houseLine_J2, hf1]
    exact hQ w1 (ha1.wk fun j i z => by omega) (by rw [h7]; exact hS1') (fun z => by rw [h7, hbl] at z; cases z)
  | none =>
    obtain ⟨t1, ht1⟩ : ∃ t1, bd1 B n N c τ = (t1, none) := ⟨_, Prod.ext rfl hbl⟩
    rw [ht1] at hS1'
    have hN1' : MNM w1 B (c + 1) (adN N c (τ.1, τ.2.1, 6, k)) := hN1 hbl
    obtain ⟨hX1, hf1, hM1, hT1, h991⟩ := id hS1'
    have hk4' : t1.2.2 ≤ 4 := hT1.1.2.2
    have bad : (isWb B t1 16 || isWb B t1 17 || isWb B t1 18 || isWb B t1 19) = false → B_X11_houseLine_J1 (d + 8) 0 Q [.ref 59, .int (nI (19 + 4 * k)), .null] [.int (-1)] w1 := by
      intro q
      have h4 : w1.1 59 4 = nI t1.1 := hM1.1
      have h2 : hs2 B n N c τ = (t1, some (1, t1.1)) := by
        unfold hs2
        rw [ht1]
        unfold cst eKind
        dsimp only
        rw [q]
        rfl
      have h7 : hs7 B n N c τ = (t1, some (1, t1.1)) := by
        have h3 : hs3 B n N c τ = (t1, some (1, t1.1)) := by unfold hs3; rw [h2]; exact cst_some rfl
        have h4 : hs4 B n N c τ = (t1, some (1, t1.1)) := by unfold hs4; rw [h3]; exact cst_some rfl
        have h5 : hs5 B n N c τ = (t1, some (1, t1.1)) := by unfold hs5; rw [h4]; exact cst_some rfl
        have h6 : hs6 B n N c τ = (t1, some (1, t1.1)) := by unfold hs6; rw [h5]; exact cst_some rfl
        unfold hs7; rw [h6]; exact cst_some rfl
      simp +decide (disch := omega) only [↓EQA, CEA, LIA, NIA, Nat.lt_irrefl, Option.toList_some, Option.toList_none, List.cons_append, List.nil_append, true_and, and_true, Nat.reduceAdd, Nat.reduceLeDiff, not_true_eq_false, not_false_eq_true, if_true, if_false, ite_true, ite_false, Int32.reduceLT, ite_not, eq_self, or_true, true_or, ite_self, reduceIte, B_X11_houseLine_J1, h4]
      refine u_wrong (f := 1) (p := t1.1) hf1 ?_
      obtain ⟨b1, b2⟩ := MSf.bad (τ := t1) (f := 1) hX1
      have hf2 := b1.2.1
      simp +decide (disch := omega) only [↓EQA, CEA, LIA, NIA, Nat.lt_irrefl, Option.toList_some, Option.toList_none, List.cons_append, List.nil_append, true_and, and_true, Nat.reduceAdd, Nat.reduceLeDiff, not_true_eq_false, not_false_eq_true, if_true, if_false, ite_true, ite_false, Int32.reduceLT, ite_not, eq_self, or_true, true_or, ite_self, reduceIte, B_X11_houseLine_J2, hf2]
      have ha2 : Ag MlP w w1 := ha1.wk fun j i z => by omega
      exact hQ _ (ha2.tr (b2.wk fun j i z => by omega)) (by rw [h7]; exact b1) (fun z => by rw [h7] at z; cases z)
    have good : ∀ v : Int32, ¬ v < 0 → v = nI (kiV B t1) → (isWb B t1 16 || isWb B t1 17 || isWb B t1 18 || isWb B t1 19) = true → B_X11_houseLine_J1 (d + 8) 0 Q [.ref 59, .int (nI (19 + 4 * k)), .null] [.int v] w1 := by
      intro v hv0 hv q
      have h2 : hs2 B n N c τ = (nxT B n t1, none) := by
        unfold hs2
        rw [ht1]
        unfold cst eKind
        dsimp only
        rw [q]
        rfl
      have h1 : t1.2.2 = 1 := by
        simp only [Bool.or_eq_true] at q
        rcases q with ((q | q) | q) | q <;> exact (isWb_len q).1
      simp +decide (disch := omega) only [↓EQA, CEA, LIA, NIA, Nat.lt_irrefl, Option.toList_some, Option.toList_none, List.cons_append, List.nil_append, true_and, and_true, Nat.reduceAdd, Nat.reduceLeDiff, not_true_eq_false, not_false_eq_true, if_true, if_false, ite_true, ite_false, Int32.reduceLT, ite_not, eq_self, or_true, true_or, ite_self, reduceIte, B_X11_houseLine_J1, hv0, B_X11_houseLine_J2, hf1]
      refine u_nextS hS1' (by rw [h1]; decide) fun w2 ha2 hS2 => ?_
      have hx : 19 + 4 * k < 191 := by omega
      simp +decide (disch := omega) only [↓EQA, CEA, LIA, NIA, Nat.lt_irrefl, Option.toList_some, Option.toList_none, List.cons_append, List.nil_append, true_and, and_true, Nat.reduceAdd, Nat.reduceLeDiff, not_true_eq_false, not_false_eq_true, if_true, if_false, ite_true, ite_false, Int32.reduceLT, ite_not, eq_self, or_true, true_or, ite_self, reduceIte, hx]
      have ha3 : Ag MlP w (wI w2 63 (19 + 4 * k) v) := ((ha1.wk fun j i z => by omega).tr (ha2.wk fun j i z => by omega)).wI (Or.inr rfl)
      have hG3 : R63 (wI w2 63 (19 + 4 * k) v) (updG G (19 + 4 * k) v) := R63.wI (hG1.ag ha2 (fun i hi z => by omega))
      have hS3 : MSf (wI w2 63 (19 + 4 * k) v) B n (hs2 B n N c τ) := by rw [h2]; exact hS2.w63
      have hN3 : MNM (wI w2 63 (19 + 4 * k) v) B (c + 1) (adN N c (τ.1, τ.2.1, 6, k)) := (hN1'.ag ha2 (fun i hi y => by omega)).w63 (by omega)
      generalize wI w2 63 (19 + 4 * k) v = w3 at ha3 hG3 hS3 hN3 ⊢
      refine u_side hS3 fun w4 v4 ha4 hS4 hv4 => ?_
      have hS4' : MSf w4 B n (hs3 B n N c τ) := hS4
      have hx1 : 19 + 4 * k + 1 < 191 := by omega
      simp +decide (disch := omega) only [↓EQA, CEA, LIA, NIA, Nat.lt_irrefl, Option.toList_some, Option.toList_none, List.cons_append, List.nil_append, true_and, and_true, Nat.reduceAdd, Nat.reduceLeDiff, not_true_eq_false, not_false_eq_true, if_true, if_false, ite_true, ite_false, Int32.reduceLT, ite_not, eq_self, or_true, true_or, ite_self, reduceIte, hx1]
      have ha5 : Ag MlP w (wI w4 63 (19 + 4 * k + 1) v4) := (ha3.tr (ha4.wk fun j i z => by omega)).wI (Or.inr rfl)
      have hG5 : R63 (wI w4 63 (19 + 4 * k + 1) v4) (updG (updG G (19 + 4 * k) v) (19 + 4 * k + 1) v4) := R63.wI (hG3.ag ha4 (fun i hi z => by omega))
      have hS5 : MSf (wI w4 63 (19 + 4 * k + 1) v4) B n (hs3 B n N c τ) := hS4'.w63
      have hN5 : MNM (wI w4 63 (19 + 4 * k + 1) v4) B (c + 1) (adN N c (τ.1, τ.2.1, 6, k)) := (hN3.ag ha4 (fun i hi y => by omega)).w63 (by omega)
      generalize wI w4 63 (19 + 4 * k + 1) v4 = w5 at ha5 hG5 hS5 hN5 ⊢
      refine u_after (i := 20) (lo := 0) (hi := 50) (by decide) (by decide) (by decide) hS5 fun w6 v6 ha6 hS6 hv6 => ?_
      have hS6' : MSf w6 B n (hs5 B n N c τ) := hS6
      have hx2 : 19 + 4 * k + 2 < 191 := by omega
      simp +decide (disch := omega) only [↓EQA, CEA, LIA, NIA, Nat.lt_irrefl, Option.toList_some, Option.toList_none, List.cons_append, List.nil_append, true_and, and_true, Nat.reduceAdd, Nat.reduceLeDiff, not_true_eq_false, not_false_eq_true, if_true, if_false, ite_true, ite_false, Int32.reduceLT, ite_not, eq_self, or_true, true_or, ite_self, reduceIte, hx2]
      have ha7 : Ag MlP w (wI w6 63 (19 + 4 * k + 2) v6) := (ha5.tr (ha6.wk fun j i z => by omega)).wI (Or.inr rfl)
      have hG7 : R63 (wI w6 63 (19 + 4 * k + 2) v6) (updG (updG (updG G (19 + 4 * k) v) (19 + 4 * k + 1) v4) (19 + 4 * k + 2) v6) := R63.wI (hG5.ag ha6 (fun i hi z => by omega))
      have hS7 : MSf (wI w6 63 (19 + 4 * k + 2) v6) B n (hs5 B n N c τ) := hS6'.w63
      have hN7 : MNM (wI w6 63 (19 + 4 * k + 2) v6) B (c + 1) (adN N c (τ.1, τ.2.1, 6, k)) := (hN5.ag ha6 (fun i hi y => by omega)).w63 (by omega)
      generalize wI w6 63 (19 + 4 * k + 2) v6 = w7 at ha7 hG7 hS7 hN7 ⊢
      refine u_after (i := 21) (lo := 1) (hi := 6) (by decide) (by decide) (by decide) hS7 fun w8 v8 ha8 hS8 hv8 => ?_
      have hS8' : MSf w8 B n (hs7 B n N c τ) := hS8
      have hx3 : 19 + 4 * k + 3 < 191 := by omega
      simp +decide (disch := omega) only [↓EQA, CEA, LIA, NIA, Nat.lt_irrefl, Option.toList_some, Option.toList_none, List.cons_append, List.nil_append, true_and, and_true, Nat.reduceAdd, Nat.reduceLeDiff, not_true_eq_false, not_false_eq_true, if_true, if_false, ite_true, ite_false, Int32.reduceLT, ite_not, eq_self, or_true, true_or, ite_self, reduceIte, hx3]
      have ha9 : Ag MlP w (wI w8 63 (19 + 4 * k + 3) v8) := (ha7.tr (ha8.wk fun j i z => by omega)).wI (Or.inr rfl)
      have hG9 : R63 (wI w8 63 (19 + 4 * k + 3) v8) (updG (updG (updG (updG G (19 + 4 * k) v) (19 + 4 * k + 1) v4) (19 + 4 * k + 2) v6) (19 + 4 * k + 3) v8) := R63.wI (hG7.ag ha8 (fun i hi z => by omega))
      have hS9 : MSf (wI w8 63 (19 + 4 * k + 3) v8) B n (hs7 B n N c τ) := hS8'.w63
      have hN9 : MNM (wI w8 63 (19 + 4 * k + 3) v8) B (c + 1) (adN N c (τ.1, τ.2.1, 6, k)) := (hN7.ag ha8 (fun i hi y => by omega)).w63 (by omega)
      generalize wI w8 63 (19 + 4 * k + 3) v8 = w9 at ha9 hG9 hS9 hN9 ⊢
      cases hbl7 : (hs7 B n N c τ).2 with
      | some e =>
        have hf9 : w9.1 59 13 = 1 := by have := hS9.2; rw [hbl7] at this; exact this.1
        simp +decide (disch := omega) only [↓EQA, CEA, LIA, NIA, Nat.lt_irrefl, Option.toList_some, Option.toList_none, List.cons_append, List.nil_append, true_and, and_true, Nat.reduceAdd, Nat.reduceLeDiff, not_true_eq_false, not_false_eq_true, if_true, if_false, ite_true, ite_false, Int32.reduceLT, ite_not, eq_self, or_true, true_or, ite_self, reduceIte, hf9, B_X11_houseLine_J3]
        exact hQ w9 ha9 hS9 (fun z => by rw [hbl7] at z; cases z)
      | none =>
        have hf9 : w9.1 59 13 = 0 := by have := hS9.2; rw [hbl7] at this; exact this.1
        have n6 := (cst_none (f := eWhole B n 1 6) (s := hs6 B n N c τ) hbl7).1
        have n5 := (cst_none (f := eWord B n 21) (s := hs5 B n N c τ) n6).1
        have n4 := (cst_none (f := eWhole B n 0 50) (s := hs4 B n N c τ) n5).1
        have n3 := (cst_none (f := eWord B n 20) (s := hs3 B n N c τ) n4).1
        have k69 : w9.1 63 6 = nI k := by
          rw [hG9 6 (by decide)]
          unfold updG
          rw [if_neg (by omega), if_neg (by omega), if_neg (by omega), if_neg (by omega)]; exact hk
        simp +decide (disch := omega) only [↓EQA, CEA, LIA, NIA, Nat.lt_irrefl, Option.toList_some, Option.toList_none, List.cons_append, List.nil_append, true_and, and_true, Nat.reduceAdd, Nat.reduceLeDiff, not_true_eq_false, not_false_eq_true, if_true, if_false, ite_true, ite_false, Int32.reduceLT, ite_not, eq_self, or_true, true_or, ite_self, reduceIte, hf9, k69, nI_1, B_X11_houseLine_J3]
        refine hQ _ (ha9.wI (Or.inr rfl)) hS9.w63 (fun _ => ⟨hN9.w63 (by decide), ?_⟩)
        have e4 : v4 = nI (sdV B (hs2 B n N c τ).1) := hv4 n3
        have e6 : v6 = nI (valT B (hs4 B n N c τ).1) := hv6 n5
        have e8 : v8 = nI (valT B (hs6 B n N c τ).1) := hv8 hbl7
        rw [ht1, ← hv, ← e4, ← e6, ← e8]
        exact R63.wI hG9
    simp +decide (disch := omega) only [↓EQA, CEA, LIA, NIA, Nat.lt_irrefl, Option.toList_some, Option.toList_none, List.cons_append, List.nil_append, true_and, and_true, Nat.reduceAdd, Nat.reduceLeDiff, not_true_eq_false, not_false_eq_true, if_true, if_false, ite_true, ite_false, Int32.reduceLT, ite_not, eq_self, or_true, true_or, ite_self, reduceIte]
    refine u_isWord (i := 19) hf1 hM1 hX1.2.2.2 hk4' (by decide) ?_
    cases q19 : isWb B t1 19
    rotate_left
    · simp +decide (disch := omega) only [↓EQA, CEA, LIA, NIA, Nat.lt_irrefl, Option.toList_some, Option.toList_none, List.cons_append, List.nil_append, true_and, and_true, Nat.reduceAdd, Nat.reduceLeDiff, not_true_eq_false, not_false_eq_true, if_true, if_false, ite_true, ite_false, Int32.reduceLT, ite_not, eq_self, or_true, true_or, ite_self, reduceIte]
      refine good 0 (by decide) ?_ (by simp [q19])
      unfold kiV
      rw [isWb_ne q19 (j := 16) (Or.inr (by decide)), isWb_ne q19 (j := 17) (Or.inl (by decide)), isWb_ne q19 (j := 18) (Or.inl (by decide))]
      rfl
    simp +decide (disch := omega) only [↓EQA, CEA, LIA, NIA, Nat.lt_irrefl, Option.toList_some, Option.toList_none, List.cons_append, List.nil_append, true_and, and_true, Nat.reduceAdd, Nat.reduceLeDiff, not_true_eq_false, not_false_eq_true, if_true, if_false, ite_true, ite_false, Int32.reduceLT, ite_not, eq_self, or_true, true_or, ite_self, reduceIte]
    refine u_isWord (i := 16) hf1 hM1 hX1.2.2.2 hk4' (by decide) ?_
    cases q16 : isWb B t1 16
    rotate_left
    · simp +decide (disch := omega) only [↓EQA, CEA, LIA, NIA, Nat.lt_irrefl, Option.toList_some, Option.toList_none, List.cons_append, List.nil_append, true_and, and_true, Nat.reduceAdd, Nat.reduceLeDiff, not_true_eq_false, not_false_eq_true, if_true, if_false, ite_true, ite_false, Int32.reduceLT, ite_not, eq_self, or_true, true_or, ite_self, reduceIte]
      refine good 1 (by decide) ?_ (by simp [q16])
      unfold kiV
      rw [q16]
      rfl
    simp +decide (disch := omega) only [↓EQA, CEA, LIA, NIA, Nat.lt_irrefl, Option.toList_some, Option.toList_none, List.cons_append, List.nil_append, true_and, and_true, Nat.reduceAdd, Nat.reduceLeDiff, not_true_eq_false, not_false_eq_true, if_true, if_false, ite_true, ite_false, Int32.reduceLT, ite_not, eq_self, or_true, true_or, ite_self, reduceIte]
    refine u_isWord (i := 17) hf1 hM1 hX1.2.2.2 hk4' (by decide) ?_
    cases q17 : isWb B t1 17
    rotate_left
    · simp +decide (disch := omega) only [↓EQA, CEA, LIA, NIA, Nat.lt_irrefl, Option.toList_some, Option.toList_none, List.cons_append, List.nil_append, true_and, and_true, Nat.reduceAdd, Nat.reduceLeDiff, not_true_eq_false, not_false_eq_true, if_true, if_false, ite_true, ite_false, Int32.reduceLT, ite_not, eq_self, or_true, true_or, ite_self, reduceIte]
      refine good 2 (by decide) ?_ (by simp [q17])
      unfold kiV
      rw [q16, q17]
      rfl
    simp +decide (disch := omega) only [↓EQA, CEA, LIA, NIA, Nat.lt_irrefl, Option.toList_some, Option.toList_none, List.cons_append, List.nil_append, true_and, and_true, Nat.reduceAdd, Nat.reduceLeDiff, not_true_eq_false, not_false_eq_true, if_true, if_false, ite_true, ite_false, Int32.reduceLT, ite_not, eq_self, or_true, true_or, ite_self, reduceIte]
    refine u_isWord (i := 18) hf1 hM1 hX1.2.2.2 hk4' (by decide) ?_
    cases q18 : isWb B t1 18
    rotate_left
    · simp +decide (disch := omega) only [↓EQA, CEA, LIA, NIA, Nat.lt_irrefl, Option.toList_some, Option.toList_none, List.cons_append, List.nil_append, true_and, and_true, Nat.reduceAdd, Nat.reduceLeDiff, not_true_eq_false, not_false_eq_true, if_true, if_false, ite_true, ite_false, Int32.reduceLT, ite_not, eq_self, or_true, true_or, ite_self, reduceIte]
      refine good 3 (by decide) ?_ (by simp [q18])
      unfold kiV
      rw [q16, q17, q18]
      rfl
    simp +decide (disch := omega) only [↓EQA, CEA, LIA, NIA, Nat.lt_irrefl, Option.toList_some, Option.toList_none, List.cons_append, List.nil_append, true_and, and_true, Nat.reduceAdd, Nat.reduceLeDiff, not_true_eq_false, not_false_eq_true, if_true, if_false, ite_true, ite_false, Int32.reduceLT, ite_not, eq_self, or_true, true_or, ite_self, reduceIte]
    exact bad (by simp [q16, q17, q18, q19])
theorem u_regattaLine {q : Nat} (hS : MSf w B n (τ, none)) (h1 : τ.2.2 = 1) (hG : R63 w G) (hq : G 0 = nI q) (hq20 : q ≤ 20) (hQ1 : q ≠ 0 → ∀ w', Ag MlP w w' → MSf w' B n (τ, some (3, τ.1)) → Q none w') (hQ0 : q = 0 → ∀ w', Ag MlP w w' → MSf w' B n (rg10 B n (nxT B n τ)) → (∀ i, 74 ≤ i → w'.1 63 i = w.1 63 i) → ((rg10 B n (nxT B n τ)).2 = none → R63 w' (updG (updG (updG (updG (updG G 1 (nI (valT B (rg3 B n (nxT B n τ)).1))) 2 (nI (valT B (rg5 B n (nxT B n τ)).1))) 3 (nI (valT B (rg7 B n (nxT B n τ)).1))) 4 (nI (valT B (rg9 B n (nxT B n τ)).1))) 0 (nI (valT B (rg1 B n (nxT B n τ)).1)))) → Q none w') : Cl (d + 9) m_X11_regattaLine [.ref 59] w Q := by
  have hf : w.1 59 13 = 0 := hS.2.1
  have h4 : w.1 59 4 = nI τ.1 := hS.2.2.1.1
  have k0 : w.1 63 0 = nI q := by rw [hG 0 (by decide)]; exact hq
  have e0 : (0 < nI q) = (0 < q) := lt_n (a := 0) (by decide) (by omega)
  refine Cl_of k_X11_regattaLine.1 (Nat.le_of_ble_eq_true rfl) (show Wp m_X11_regattaLine _ 0 _ 0 [.ref 59, .null] [] _ from S_X11_regattaLine_0 _ _ _ ?_)
  simp +decide (disch := omega) only [↓EQA, CEA, LIA, NIA, Nat.lt_irrefl, Option.toList_some, Option.toList_none, List.cons_append, List.nil_append, true_and, and_true, Nat.reduceAdd, Nat.reduceLeDiff, not_true_eq_false, not_false_eq_true, if_true, if_false, ite_true, ite_false, Int32.reduceLT, ite_not, eq_self, or_true, true_or, ite_self, reduceIte, B_X11_regattaLine_0, k0, e0]
  by_cases z0 : 0 < q
  · rw [if_pos z0]
    simp +decide (disch := omega) only [↓EQA, CEA, LIA, NIA, Nat.lt_irrefl, Option.toList_some, Option.toList_none, List.cons_append, List.nil_append, true_and, and_true, Nat.reduceAdd, Nat.reduceLeDiff, not_true_eq_false, not_false_eq_true, if_true, if_false, ite_true, ite_false, Int32.reduceLT, ite_not, eq_self, or_true, true_or, ite_self, reduceIte, h4]
    refine u_wrong (f := 3) (p := τ.1) hf ?_
    obtain ⟨b1, b2⟩ := MSf.bad (τ := τ) (f := 3) hS.1
    have hf2 := b1.2.1
    simp +decide (disch := omega) only [↓EQA, CEA, LIA, NIA, Nat.lt_irrefl, Option.toList_some, Option.toList_none, List.cons_append, List.nil_append, true_and, and_true, Nat.reduceAdd, Nat.reduceLeDiff, not_true_eq_false, not_false_eq_true, if_true, if_false, ite_true, ite_false, Int32.reduceLT, ite_not, eq_self, or_true, true_or, ite_self, reduceIte, B_X11_regattaLine_J1, hf2]
    exact hQ1 (by omega) _ (b2.wk fun j i z => by omega) b1
  · rw [if_neg z0]
    have hQ := hQ0 (by omega)
    simp +decide (disch := omega) only [↓EQA, CEA, LIA, NIA, Nat.lt_irrefl, Option.toList_some, Option.toList_none, List.cons_append, List.nil_append, true_and, and_true, Nat.reduceAdd, Nat.reduceLeDiff, not_true_eq_false, not_false_eq_true, if_true, if_false, ite_true, ite_false, Int32.reduceLT, ite_not, eq_self, or_true, true_or, ite_self, reduceIte, B_X11_regattaLine_J1, hf]
    refine u_nextS hS (by rw [h1]; decide) fun w1 ha1 hS1 => ?_
    generalize nxT B n τ = t at hQ hS1
    simp +decide (disch := omega) only [↓EQA, CEA, LIA, NIA, Nat.lt_irrefl, Option.toList_some, Option.toList_none, List.cons_append, List.nil_append, true_and, and_true, Nat.reduceAdd, Nat.reduceLeDiff, not_true_eq_false, not_false_eq_true, if_true, if_false, ite_true, ite_false, Int32.reduceLT, ite_not, eq_self, or_true, true_or, ite_self, reduceIte]
    refine u_after (i := 8) (lo := 1) (hi := 20) (by decide) (by decide) (by decide) hS1 fun w2 v2 ha2 hS2 hv2 => ?_
    have hS2' : MSf w2 B n (rg2 B n t) := hS2
    simp +decide (disch := omega) only [↓EQA, CEA, LIA, NIA, Nat.lt_irrefl, Option.toList_some, Option.toList_none, List.cons_append, List.nil_append, true_and, and_true, Nat.reduceAdd, Nat.reduceLeDiff, not_true_eq_false, not_false_eq_true, if_true, if_false, ite_true, ite_false, Int32.reduceLT, ite_not, eq_self, or_true, true_or, ite_self, reduceIte]
    refine u_after (i := 9) (lo := 1) (hi := 6) (by decide) (by decide) (by decide) hS2' fun w3 v3 ha3 hS3 hv3 => ?_
    have hS3' : MSf w3 B n (rg4 B n t) := hS3
    simp +decide (disch := omega) only [↓EQA, CEA, LIA, NIA, Nat.lt_irrefl, Option.toList_some, Option.toList_none, List.cons_append, List.nil_append, true_and, and_true, Nat.reduceAdd, Nat.reduceLeDiff, not_true_eq_false, not_false_eq_true, if_true, if_false, ite_true, ite_false, Int32.reduceLT, ite_not, eq_self, or_true, true_or, ite_self, reduceIte]
    have hb3 : Ag MrP w w3 := (ha1.tr ha2).tr ha3
    have ha4 : Ag (fun j i => MrP j i ∨ (j = 63 ∧ i < 74)) w (wI w3 63 1 v3) := (hb3.wk fun j i z => Or.inl z).wI (Or.inr ⟨rfl, by decide⟩)
    have hG4 : R63 (wI w3 63 1 v3) (updG G 1 v3) := R63.wI (hG.ag hb3 (fun i hi z => by omega))
    have hS4 : MSf (wI w3 63 1 v3) B n (rg4 B n t) := hS3'.w63
    generalize wI w3 63 1 v3 = w4 at ha4 hG4 hS4 ⊢
    refine u_after (i := 10) (lo := 0) (hi := 30) (by decide) (by decide) (by decide) hS4 fun w5 v5 ha5 hS5 hv5 => ?_
    have hS5' : MSf w5 B n (rg6 B n t) := hS5
    simp +decide (disch := omega) only [↓EQA, CEA, LIA, NIA, Nat.lt_irrefl, Option.toList_some, Option.toList_none, List.cons_append, List.nil_append, true_and, and_true, Nat.reduceAdd, Nat.reduceLeDiff, not_true_eq_false, not_false_eq_true, if_true, if_false, ite_true, ite_false, Int32.reduceLT, ite_not, eq_self, or_true, true_or, ite_self, reduceIte]
    have ha6 : Ag (fun j i => MrP j i ∨ (j = 63 ∧ i < 74)) w (wI w5 63 2 v5) := (ha4.tr (ha5.wk fun j i z => Or.inl z)).wI (Or.inr ⟨rfl, by decide⟩)
    have hG6 : R63 (wI w5 63 2 v5) (updG (updG G 1 v3) 2 v5) := R63.wI (hG4.ag ha5 (fun i hi z => by omega))
    have hS6 : MSf (wI w5 63 2 v5) B n (rg6 B n t) := hS5'.w63
    generalize wI w5 63 2 v5 = w6 at ha6 hG6 hS6 ⊢
    refine u_after (i := 11) (lo := 0) (hi := 100) (by decide) (by decide) (by decide) hS6 fun w7 v7 ha7 hS7 hv7 => ?_
    have hS7' : MSf w7 B n (rg8 B n t) := hS7
    simp +decide (disch := omega) only [↓EQA, CEA, LIA, NIA, Nat.lt_irrefl, Option.toList_some, Option.toList_none, List.cons_append, List.nil_append, true_and, and_true, Nat.reduceAdd, Nat.reduceLeDiff, not_true_eq_false, not_false_eq_true, if_true, if_false, ite_true, ite_false, Int32.reduceLT, ite_not, eq_self, or_true, true_or, ite_self, reduceIte]
    have ha8 : Ag (fun j i => MrP j i ∨ (j = 63 ∧ i < 74)) w (wI w7 63 3 v7) := (ha6.tr (ha7.wk fun j i z => Or.inl z)).wI (Or.inr ⟨rfl, by decide⟩)
    have hG8 : R63 (wI w7 63 3 v7) (updG (updG (updG G 1 v3) 2 v5) 3 v7) := R63.wI (hG6.ag ha7 (fun i hi z => by omega))
    have hS8 : MSf (wI w7 63 3 v7) B n (rg8 B n t) := hS7'.w63
    generalize wI w7 63 3 v7 = w8 at ha8 hG8 hS8 ⊢
    refine u_after (i := 12) (lo := 0) (hi := 9) (by decide) (by decide) (by decide) hS8 fun w9 v9 ha9 hS9 hv9 => ?_
    have hS9' : MSf w9 B n (rg10 B n t) := hS9
    simp +decide (disch := omega) only [↓EQA, CEA, LIA, NIA, Nat.lt_irrefl, Option.toList_some, Option.toList_none, List.cons_append, List.nil_append, true_and, and_true, Nat.reduceAdd, Nat.reduceLeDiff, not_true_eq_false, not_false_eq_true, if_true, if_false, ite_true, ite_false, Int32.reduceLT, ite_not, eq_self, or_true, true_or, ite_self, reduceIte]
    have ha10 : Ag (fun j i => MrP j i ∨ (j = 63 ∧ i < 74)) w (wI w9 63 4 v9) := (ha8.tr (ha9.wk fun j i z => Or.inl z)).wI (Or.inr ⟨rfl, by decide⟩)
    have hG10 : R63 (wI w9 63 4 v9) (updG (updG (updG (updG G 1 v3) 2 v5) 3 v7) 4 v9) := R63.wI (hG8.ag ha9 (fun i hi z => by omega))
    have hS10 : MSf (wI w9 63 4 v9) B n (rg10 B n t) := hS9'.w63
    generalize wI w9 63 4 v9 = wx at ha10 hG10 hS10 ⊢
    cases hbl : (rg10 B n t).2 with
    | some e =>
      have hfx : wx.1 59 13 = 1 := by have := hS10.2; rw [hbl] at this; exact this.1
      simp +decide (disch := omega) only [↓EQA, CEA, LIA, NIA, Nat.lt_irrefl, Option.toList_some, Option.toList_none, List.cons_append, List.nil_append, true_and, and_true, Nat.reduceAdd, Nat.reduceLeDiff, not_true_eq_false, not_false_eq_true, if_true, if_false, ite_true, ite_false, Int32.reduceLT, ite_not, eq_self, or_true, true_or, ite_self, reduceIte, hfx, B_X11_regattaLine_J2]
      exact hQ wx (ha10.wk fun j i z => by omega) hS10 (fun i hi => (ha10 63 i (by omega)).1) (fun z => by rw [hbl] at z; cases z)
    | none =>
      have hfx : wx.1 59 13 = 0 := by have := hS10.2; rw [hbl] at this; exact this.1
      have n9 := (cst_none (f := eWhole B n 0 9) (s := rg9 B n t) hbl).1
      have n8 := (cst_none (f := eWord B n 12) (s := rg8 B n t) n9).1
      have n7 := (cst_none (f := eWhole B n 0 100) (s := rg7 B n t) n8).1
      have n6 := (cst_none (f := eWord B n 11) (s := rg6 B n t) n7).1
      have n5 := (cst_none (f := eWhole B n 0 30) (s := rg5 B n t) n6).1
      have n4 := (cst_none (f := eWord B n 10) (s := rg4 B n t) n5).1
      have n3 := (cst_none (f := eWhole B n 1 6) (s := rg3 B n t) n4).1
      have n2 := (cst_none (f := eWord B n 9) (s := rg2 B n t) n3).1
      simp +decide (disch := omega) only [↓EQA, CEA, LIA, NIA, Nat.lt_irrefl, Option.toList_some, Option.toList_none, List.cons_append, List.nil_append, true_and, and_true, Nat.reduceAdd, Nat.reduceLeDiff, not_true_eq_false, not_false_eq_true, if_true, if_false, ite_true, ite_false, Int32.reduceLT, ite_not, eq_self, or_true, true_or, ite_self, reduceIte, hfx, B_X11_regattaLine_J2]
      have ha11 : Ag (fun j i => MrP j i ∨ (j = 63 ∧ i < 74)) w (wI wx 63 0 v2) := ha10.wI (Or.inr ⟨rfl, by decide⟩)
      refine hQ _ (ha11.wk fun j i z => by omega) hS10.w63 (fun i hi => (ha11 63 i (by omega)).1) (fun _ => ?_)
      have e2 : v2 = nI (valT B (rg1 B n t).1) := hv2 n2
      have e3 : v3 = nI (valT B (rg3 B n t).1) := hv3 n4
      have e5 : v5 = nI (valT B (rg5 B n t).1) := hv5 n6
      have e7 : v7 = nI (valT B (rg7 B n t).1) := hv7 n8
      have e9 : v9 = nI (valT B (rg9 B n t).1) := hv9 hbl
      rw [← e2, ← e3, ← e5, ← e7, ← e9]
      exact R63.wI hG10
end MLines2
