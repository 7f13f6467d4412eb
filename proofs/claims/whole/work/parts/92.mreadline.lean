/-! ===== the reference reads a line ===== -/
section MReadLine
variable {d : Nat} {w : Mem} {Q : Option Value → Mem → Prop} {B : Nat → Nat} {n c k : Nat} {τ : Tk3} {N : Nat → Nm4} {T : Tv} {D F : Nat → Nat} {G : Nat → Int32}
theorem u_bendLineF (hf : w.1 59 13 = 1) (hQ : Q none w) : Cl (d + 9) m_X11_bendLine [.ref 59] w Q := by
  refine Cl_of k_X11_bendLine.1 (Nat.le_of_ble_eq_true rfl) (show Wp m_X11_bendLine _ 0 _ 0 [.ref 59, .null] [] _ from S_X11_bendLine_0 _ _ _ ?_)
  simp +decide (disch := omega) only [↓EQA, CEA, LIA, NIA, Nat.lt_irrefl, Option.toList_some, Option.toList_none, List.cons_append, List.nil_append, true_and, and_true, Nat.reduceAdd, Nat.reduceLeDiff, not_true_eq_false, not_false_eq_true, if_true, if_false, ite_true, ite_false, Int32.reduceLT, ite_not, eq_self, or_true, true_or, ite_self, reduceIte, B_X11_bendLine_0, hf]
  exact hQ
theorem u_houseLineF (hf : w.1 59 13 = 1) (hQ : Q none w) : Cl (d + 9) m_X11_houseLine [.ref 59] w Q := by
  refine Cl_of k_X11_houseLine.1 (Nat.le_of_ble_eq_true rfl) (show Wp m_X11_houseLine _ 0 _ 0 [.ref 59, .null, .null] [] _ from S_X11_houseLine_0 _ _ _ ?_)
  simp +decide (disch := omega) only [↓EQA, CEA, LIA, NIA, Nat.lt_irrefl, Option.toList_some, Option.toList_none, List.cons_append, List.nil_append, true_and, and_true, Nat.reduceAdd, Nat.reduceLeDiff, not_true_eq_false, not_false_eq_true, if_true, if_false, ite_true, ite_false, Int32.reduceLT, ite_not, eq_self, or_true, true_or, ite_self, reduceIte, B_X11_houseLine_0, hf]
  exact hQ
theorem u_lodgerLineF (hf : w.1 59 13 = 1) (hQ : Q none w) : Cl (d + 9) m_X11_lodgerLine [.ref 59] w Q := by
  refine Cl_of k_X11_lodgerLine.1 (Nat.le_of_ble_eq_true rfl) (show Wp m_X11_lodgerLine _ 0 _ 0 [.ref 59, .null] [] _ from S_X11_lodgerLine_0 _ _ _ ?_)
  simp +decide (disch := omega) only [↓EQA, CEA, LIA, NIA, Nat.lt_irrefl, Option.toList_some, Option.toList_none, List.cons_append, List.nil_append, true_and, and_true, Nat.reduceAdd, Nat.reduceLeDiff, not_true_eq_false, not_false_eq_true, if_true, if_false, ite_true, ite_false, Int32.reduceLT, ite_not, eq_self, or_true, true_or, ite_self, reduceIte, B_X11_lodgerLine_0, hf]
  exact hQ
/-- a line's first word, room and the regatta's line -/
def bgS (B : Nat → Nat) (n : Nat) (D : Nat → Nat) (τ : Tk3) (r : Bool) : Cs := if D 7 = 0 then (τ, some (6, τ.1)) else if r = true then (nxT B n τ, none) else (τ, some (5, τ.1))
theorem u_begins {i : Nat} {r : Bool} (hS : MSf w B n (τ, none)) (hi : i < 24) (h0 : w.1 63 0 = nI (D 7)) (hD : D 7 ≤ 20) (hr : D 7 = 0 → r = true) (hQ0 : isWb B τ i = false → Q (some (.int 0)) w) (hQ1 : isWb B τ i = true → ∀ w', Ag MrP w w' → MSf w' B n (bgS B n D τ r) → Q (some (.int 1)) w') : Cl (d + 6) m_X11_begins [.ref 59, .ref (1000 + i), .int (bI (r = true))] w Q := by
  obtain ⟨hX, hf, hM, hT, h99⟩ := id hS
  have h4 : w.1 59 4 = nI τ.1 := hM.1
  have e0 : (nI (D 7) = 0) = (D 7 = 0) := eq_n (b := 0) (by omega) (by decide)
  refine Cl_of k_X11_begins.1 (Nat.le_of_ble_eq_true rfl) (show Wp m_X11_begins _ 0 _ 0 [.ref 59, .ref (1000 + i), .int (bI (r = true))] [] _ from S_X11_begins_0 _ _ _ ?_)
  simp +decide (disch := omega) only [↓EQA, CEA, LIA, NIA, Nat.lt_irrefl, Option.toList_some, Option.toList_none, List.cons_append, List.nil_append, true_and, and_true, Nat.reduceAdd, Nat.reduceLeDiff, not_true_eq_false, not_false_eq_true, if_true, if_false, ite_true, ite_false, Int32.reduceLT, ite_not, eq_self, or_true, true_or, ite_self, reduceIte, B_X11_begins_0]
  refine u_isWord hf hM hX.2.2.2 hT.1.2.2 hi ?_
  cases q : isWb B τ i
  · simp +decide (disch := omega) only [↓EQA, CEA, LIA, NIA, Nat.lt_irrefl, Option.toList_some, Option.toList_none, List.cons_append, List.nil_append, true_and, and_true, Nat.reduceAdd, Nat.reduceLeDiff, not_true_eq_false, not_false_eq_true, if_true, if_false, ite_true, ite_false, Int32.reduceLT, ite_not, eq_self, or_true, true_or, ite_self, reduceIte]
    exact hQ0 q
  · have h1 := (isWb_len q).1
    cases r with
    | false =>
      have d7 : ¬ D 7 = 0 := fun z => by have := hr z; cases this
      simp +decide (disch := omega) only [↓EQA, CEA, LIA, NIA, Nat.lt_irrefl, Option.toList_some, Option.toList_none, List.cons_append, List.nil_append, true_and, and_true, Nat.reduceAdd, Nat.reduceLeDiff, not_true_eq_false, not_false_eq_true, if_true, if_false, ite_true, ite_false, Int32.reduceLT, ite_not, eq_self, or_true, true_or, ite_self, reduceIte, h4]
      refine u_wrong (f := 5) (p := τ.1) hf ?_
      obtain ⟨b1, b2⟩ := MSf.bad (τ := τ) (f := 5) hX
      have hf2 := b1.2.1
      have h02 : (wI (wI (wI w 59 13 1) 59 9 (nI 5)) 59 10 (nI τ.1)).1 63 0 = nI (D 7) := by rw [(b2 63 0 (by omega)).1]; exact h0
      have e : bgS B n D τ false = (τ, some (5, τ.1)) := by unfold bgS; rw [if_neg d7, if_neg (by decide)]
      simp +decide (disch := omega) only [↓EQA, CEA, LIA, NIA, Nat.lt_irrefl, Option.toList_some, Option.toList_none, List.cons_append, List.nil_append, true_and, and_true, Nat.reduceAdd, Nat.reduceLeDiff, not_true_eq_false, not_false_eq_true, if_true, if_false, ite_true, ite_false, Int32.reduceLT, ite_not, eq_self, or_true, true_or, ite_self, reduceIte, B_X11_begins_J1, h02, e0, d7, B_X11_begins_J2, hf2, B_X11_begins_J3]
      exact hQ1 q _ b2 (by rw [e]; exact b1)
    | true =>
      simp +decide (disch := omega) only [↓EQA, CEA, LIA, NIA, Nat.lt_irrefl, Option.toList_some, Option.toList_none, List.cons_append, List.nil_append, true_and, and_true, Nat.reduceAdd, Nat.reduceLeDiff, not_true_eq_false, not_false_eq_true, if_true, if_false, ite_true, ite_false, Int32.reduceLT, ite_not, eq_self, or_true, true_or, ite_self, reduceIte, B_X11_begins_J1, h0, e0]
      by_cases d7 : D 7 = 0
      · rw [if_pos d7]
        simp +decide (disch := omega) only [↓EQA, CEA, LIA, NIA, Nat.lt_irrefl, Option.toList_some, Option.toList_none, List.cons_append, List.nil_append, true_and, and_true, Nat.reduceAdd, Nat.reduceLeDiff, not_true_eq_false, not_false_eq_true, if_true, if_false, ite_true, ite_false, Int32.reduceLT, ite_not, eq_self, or_true, true_or, ite_self, reduceIte, h4]
        refine u_wrong (f := 6) (p := τ.1) hf ?_
        obtain ⟨b1, b2⟩ := MSf.bad (τ := τ) (f := 6) hX
        have hf2 := b1.2.1
        have e : bgS B n D τ true = (τ, some (6, τ.1)) := by unfold bgS; rw [if_pos d7]
        simp +decide (disch := omega) only [↓EQA, CEA, LIA, NIA, Nat.lt_irrefl, Option.toList_some, Option.toList_none, List.cons_append, List.nil_append, true_and, and_true, Nat.reduceAdd, Nat.reduceLeDiff, not_true_eq_false, not_false_eq_true, if_true, if_false, ite_true, ite_false, Int32.reduceLT, ite_not, eq_self, or_true, true_or, ite_self, reduceIte, B_X11_begins_J2, hf2, B_X11_begins_J3]
        exact hQ1 q _ b2 (by rw [e]; exact b1)
      · rw [if_neg d7]
        have e : bgS B n D τ true = (nxT B n τ, none) := by unfold bgS; rw [if_neg d7, if_pos rfl]
        simp +decide (disch := omega) only [↓EQA, CEA, LIA, NIA, Nat.lt_irrefl, Option.toList_some, Option.toList_none, List.cons_append, List.nil_append, true_and, and_true, Nat.reduceAdd, Nat.reduceLeDiff, not_true_eq_false, not_false_eq_true, if_true, if_false, ite_true, ite_false, Int32.reduceLT, ite_not, eq_self, or_true, true_or, ite_self, reduceIte, B_X11_begins_J2, hf]
        refine u_nextS hS (by rw [h1]; decide) fun w1 ha1 hS1 => ?_
        simp +decide (disch := omega) only [↓EQA, CEA, LIA, NIA, Nat.lt_irrefl, Option.toList_some, Option.toList_none, List.cons_append, List.nil_append, true_and, and_true, Nat.reduceAdd, Nat.reduceLeDiff, not_true_eq_false, not_false_eq_true, if_true, if_false, ite_true, ite_false, Int32.reduceLT, ite_not, eq_self, or_true, true_or, ite_self, reduceIte, B_X11_begins_J3]
        exact hQ1 q w1 ha1 (by rw [e]; exact hS1)
theorem bgS_gte {S : St5} {X : Cs × St5} {r : Bool} (h : (bgS B n S.2.1 τ r).2 ≠ none) : gte S τ r X = (bgS B n S.2.1 τ r, S) := by
  unfold gte
  unfold bgS at h ⊢
  by_cases q : S.2.1 7 = 0
  · rw [if_pos q, if_pos q]
  · rw [if_neg q] at h ⊢
    rw [if_neg q]
    by_cases q2 : r = true
    · rw [if_pos q2] at h; exact absurd rfl h
    · rw [if_neg q2, if_neg q2]
theorem bgS_none {S : St5} {X : Cs × St5} {r : Bool} (h : (bgS B n S.2.1 τ r).2 = none) : S.2.1 7 ≠ 0 ∧ r = true ∧ bgS B n S.2.1 τ r = (nxT B n τ, none) ∧ gte S τ r X = X := by
  unfold gte
  unfold bgS at h ⊢
  by_cases q : S.2.1 7 = 0
  · rw [if_pos q] at h; cases h
  · rw [if_neg q] at h ⊢
    by_cases q2 : r = true
    · rw [if_pos q2]; exact ⟨q, q2, rfl, by rw [if_neg q, if_pos q2]⟩
    · rw [if_neg q2] at h; cases h
theorem u_readLine {S : St5} (hS : MSf w B n (τ, none)) (hR : MRl w B S.1 S.2.1 S.2.2.1 S.2.2.2.1 S.2.2.2.2) (hV : RDVs B n S) (hQ : ∀ w', Ag MlP w w' → MSf w' B n (lnF B n S τ).1 → ((lnF B n S τ).1.2 = none → MRl w' B (lnF B n S τ).2.1 (lnF B n S τ).2.2.1 (lnF B n S τ).2.2.2.1 (lnF B n S τ).2.2.2.2.1 (lnF B n S τ).2.2.2.2.2) → Q none w') : Cl (d + 10) m_X11_readLine [.ref 59] w Q := by
  obtain ⟨T, D, F, N, c⟩ := S
  dsimp only at hR
  obtain ⟨hZ, hW, hK, hD, hP, hF⟩ := id hV
  dsimp only at hZ hW hK hD hP hF
  obtain ⟨⟨z5, z6, z7, z8, z9, z10⟩, b1, b2, b3, b4, b5, b6⟩ := id hZ
  obtain ⟨⟨G, hG, hg⟩, hN⟩ := hR
  obtain ⟨g1, g2, g3, g4, g5, g6, g7⟩ := id hg
  have hD7 : D 7 ≤ 20 := hD.1.2.2.2
  obtain ⟨hX, hf, hM, hT, h99⟩ := id hS
  have h4 : w.1 59 4 = nI τ.1 := hM.1
  have hk4 : τ.2.2 ≤ 4 := hT.1.2.2
  have r0 : w.1 63 0 = nI (D 7) := by rw [hG 0 (by decide), g1 0 (by decide)]; exact hW.1
  have k5 : w.1 63 5 = nI (nB T) := by rw [hG 5 (by decide), g1 5 (by decide)]; exact z5
  have k6 : w.1 63 6 = nI (nH T) := by rw [hG 6 (by decide), g1 6 (by decide)]; exact z6
  have k7 : w.1 63 7 = nI (nL T) := by rw [hG 7 (by decide), g1 7 (by decide)]; exact z7
  have k8 : w.1 63 8 = nI (nF T) := by rw [hG 8 (by decide), g1 8 (by decide)]; exact z8
  have k9 : w.1 63 9 = nI (nP T) := by rw [hG 9 (by decide), g1 9 (by decide)]; exact z9
  have k10 : w.1 63 10 = nI (nS T) := by rw [hG 10 (by decide), g1 10 (by decide)]; exact z10
  have zr : ∀ i, 5 ≤ i → i ≤ 10 → D 7 = 0 → (T 0 i).toNatClampNeg = 0 := fun i a b z => by rw [hW.2.1 z i b]; rfl
  have l5 : (nI (nB T) < 4) = (nB T < 4) := lt_n (b := 4) (by omega) (by decide)
  have l6 : (nI (nH T) < 4) = (nH T < 4) := lt_n (b := 4) (by omega) (by decide)
  have l7 : (nI (nL T) < 5) = (nL T < 5) := lt_n (b := 5) (by omega) (by decide)
  have l8 : (nI (nF T) < 6) = (nF T < 6) := lt_n (b := 6) (by omega) (by decide)
  have l9 : (nI (nP T) < 4) = (nP T < 4) := lt_n (b := 4) (by omega) (by decide)
  have l10 : (nI (nS T) < 5) = (nS T < 5) := lt_n (b := 5) (by omega) (by decide)
  have GG : ∀ w1, Ag MrP w w1 → R63 w1 G := fun w1 ha => hG.ag ha (fun i hi z => by omega)
  have NN : ∀ w1, Ag MrP w w1 → MNM w1 B c N := fun w1 ha => hN.ag ha (fun i hi z => by omega)
  have N2 : ∀ w1 w2 : Mem, Ag MrP w w1 → (∀ i, 74 ≤ i → w2.1 63 i = w1.1 63 i) → MNM w2 B c N := by
    intro w1 w2 ha he
    intro s hs
    rcases NN w1 ha s hs with ⟨i, hi, e1, e2, e3⟩ | ⟨e1, e2⟩
    · exact Or.inl ⟨i, hi, e1, by rw [he _ (by omega)]; exact e2, fun j hj => by rw [he _ (by omega)]; exact e3 j hj⟩
    · exact Or.inr ⟨e1, by rw [he _ (by omega)]; exact e2⟩
  refine Cl_of k_X11_readLine.1 (Nat.le_of_ble_eq_true rfl) (show Wp m_X11_readLine _ 0 _ 0 [.ref 59] [] _ from S_X11_readLine_0 _ _ _ ?_)
  simp +decide (disch := omega) only [↓EQA, CEA, LIA, NIA, Nat.lt_irrefl, Option.toList_some, Option.toList_none, List.cons_append, List.nil_append, true_and, and_true, Nat.reduceAdd, Nat.reduceLeDiff, not_true_eq_false, not_false_eq_true, if_true, if_false, ite_true, ite_false, Int32.reduceLT, ite_not, eq_self, or_true, true_or, ite_self, reduceIte, B_X11_readLine_0]
  refine u_isWord (i := 0) hf hM hX.2.2.2 hk4 (by decide) ?_
  cases q0 : isWb B τ 0 with
  | true =>
    have eF := lnF_0 (n := n) (S := (T, D, F, N, c)) q0
    simp +decide (disch := omega) only [↓EQA, CEA, LIA, NIA, Nat.lt_irrefl, Option.toList_some, Option.toList_none, List.cons_append, List.nil_append, true_and, and_true, Nat.reduceAdd, Nat.reduceLeDiff, not_true_eq_false, not_false_eq_true, if_true, if_false, ite_true, ite_false, Int32.reduceLT, ite_not, eq_self, or_true, true_or, ite_self, reduceIte]
    refine u_regattaLine (q := D 7) hS (isWb_len q0).1 hG (by rw [g1 0 (by decide)]; exact hW.1) hD7 (fun h7 w1 ha1 hS1 => ?_) (fun h7 w1 ha1 hS1 hn h1 => ?_)
    · simp +decide (disch := omega) only [↓EQA, CEA, LIA, NIA, Nat.lt_irrefl, Option.toList_some, Option.toList_none, List.cons_append, List.nil_append, true_and, and_true, Nat.reduceAdd, Nat.reduceLeDiff, not_true_eq_false, not_false_eq_true, if_true, if_false, ite_true, ite_false, Int32.reduceLT, ite_not, eq_self, or_true, true_or, ite_self, reduceIte, B_X11_readLine_J7]
      have e : lnF B n (T, D, F, N, c) τ = ((τ, some (3, τ.1)), (T, D, F, N, c)) := by rw [eF]; exact if_neg h7
      rw [e] at hQ
      exact hQ w1 ha1 hS1 (fun z => by cases z)
    · simp +decide (disch := omega) only [↓EQA, CEA, LIA, NIA, Nat.lt_irrefl, Option.toList_some, Option.toList_none, List.cons_append, List.nil_append, true_and, and_true, Nat.reduceAdd, Nat.reduceLeDiff, not_true_eq_false, not_false_eq_true, if_true, if_false, ite_true, ite_false, Int32.reduceLT, ite_not, eq_self, or_true, true_or, ite_self, reduceIte, B_X11_readLine_J7]
      have e : lnF B n (T, D, F, N, c) τ = lRg B n (T, D, F, N, c) (nxT B n τ) := by rw [eF]; exact if_pos h7
      rw [e] at hQ
      exact hQ w1 ha1 hS1 (fun z => ⟨⟨_, h1 z, (rv_rg hV h7 z).2 hg⟩, N2 w w1 Ag.rf hn⟩)
  | false =>
    simp +decide (disch := omega) only [↓EQA, CEA, LIA, NIA, Nat.lt_irrefl, Option.toList_some, Option.toList_none, List.cons_append, List.nil_append, true_and, and_true, Nat.reduceAdd, Nat.reduceLeDiff, not_true_eq_false, not_false_eq_true, if_true, if_false, ite_true, ite_false, Int32.reduceLT, ite_not, eq_self, or_true, true_or, ite_self, reduceIte, k5, l5]
    suffices key : B_X11_readLine_J1 (d + 9) 0 Q [.ref 59] [.int (bI (decide (nB T < 4) = true)), .ref 1002, .ref 59] w by
      by_cases hr : nB T < 4
      · rw [if_pos hr]
        rw [show bI (decide (nB T < 4) = true) = 1 from if_pos (by simpa using hr)] at key
        exact key
      · rw [if_neg hr]
        rw [show bI (decide (nB T < 4) = true) = 0 from if_neg (by simpa using hr)] at key
        exact key
    simp +decide (disch := omega) only [↓EQA, CEA, LIA, NIA, Nat.lt_irrefl, Option.toList_some, Option.toList_none, List.cons_append, List.nil_append, true_and, and_true, Nat.reduceAdd, Nat.reduceLeDiff, not_true_eq_false, not_false_eq_true, if_true, if_false, ite_true, ite_false, Int32.reduceLT, ite_not, eq_self, or_true, true_or, ite_self, reduceIte, B_X11_readLine_J1]
    refine u_begins (i := 2) (r := decide (nB T < 4)) (D := D) hS (by decide) r0 hD7 (fun z => by have := zr 5 (by decide) (by decide) z; simpa using (show nB T < 4 by show (T 0 5).toNatClampNeg < 4; rw [this]; decide)) (fun q2 => ?_) (fun q w1 ha1 hS1 => ?_)
    rotate_left
    · have eF := lnF_2 (n := n) (S := (T, D, F, N, c)) q
      simp +decide (disch := omega) only [↓EQA, CEA, LIA, NIA, Nat.lt_irrefl, Option.toList_some, Option.toList_none, List.cons_append, List.nil_append, true_and, and_true, Nat.reduceAdd, Nat.reduceLeDiff, not_true_eq_false, not_false_eq_true, if_true, if_false, ite_true, ite_false, Int32.reduceLT, ite_not, eq_self, or_true, true_or, ite_self, reduceIte]
      cases hb : (bgS B n D τ (decide (nB T < 4))).2 with
      | some e =>
        have hf1 := hS1.f1 hb
        have eg := bgS_gte (B := B) (n := n) (S := (T, D, F, N, c)) (X := lBd B n (T, D, F, N, c) (nxT B n τ)) (τ := τ) (r := decide (nB T < 4)) (by show (bgS B n D τ (decide (nB T < 4))).2 ≠ none; rw [hb]; intro z; cases z)
        refine u_bendLineF hf1 ?_
        simp +decide (disch := omega) only [↓EQA, CEA, LIA, NIA, Nat.lt_irrefl, Option.toList_some, Option.toList_none, List.cons_append, List.nil_append, true_and, and_true, Nat.reduceAdd, Nat.reduceLeDiff, not_true_eq_false, not_false_eq_true, if_true, if_false, ite_true, ite_false, Int32.reduceLT, ite_not, eq_self, or_true, true_or, ite_self, reduceIte, B_X11_readLine_J7]
        rw [eF] at hQ
        rw [eg] at hQ
        exact hQ w1 (ha1.wk fun j i z => Or.inl z) hS1 (fun z => by have z2 : (bgS B n D τ (decide (nB T < 4))).2 = none := z; rw [hb] at z2; cases z2)
      | none =>
        obtain ⟨d7, hr, ee, eg⟩ := bgS_none (B := B) (n := n) (S := (T, D, F, N, c)) (X := lBd B n (T, D, F, N, c) (nxT B n τ)) (τ := τ) (r := decide (nB T < 4)) hb
        have ee2 : bgS B n D τ (decide (nB T < 4)) = (nxT B n τ, none) := ee
        rw [ee2] at hS1
        rw [eF] at hQ
        rw [eg] at hQ
        have hT1 : TKp B n (nxT B n τ) := nxT_ok hT
        clear eF eg ee ee2 hb
        generalize nxT B n τ = t at hQ hS1 hT1
        have hr2 : nB T < 4 := by simpa using hr
        refine u_bendLine (k := nB T) hS1 (NN w1 ha1) hP hr2 b2 b3 (GG w1 ha1) (by rw [g1 5 (by decide)]; exact z5) fun w2 ha2 hS2 h2 => ?_
        simp +decide (disch := omega) only [↓EQA, CEA, LIA, NIA, Nat.lt_irrefl, Option.toList_some, Option.toList_none, List.cons_append, List.nil_append, true_and, and_true, Nat.reduceAdd, Nat.reduceLeDiff, not_true_eq_false, not_false_eq_true, if_true, if_false, ite_true, ite_false, Int32.reduceLT, ite_not, eq_self, or_true, true_or, ite_self, reduceIte, B_X11_readLine_J7]
        exact hQ w2 ((ha1.wk fun j i z => Or.inl z).tr ha2) hS2 (fun z => ⟨⟨_, (h2 z).2, (rv_bd hV hT1 d7 hr2 z).2 hg⟩, (h2 z).1⟩)
    simp +decide (disch := omega) only [↓EQA, CEA, LIA, NIA, Nat.lt_irrefl, Option.toList_some, Option.toList_none, List.cons_append, List.nil_append, true_and, and_true, Nat.reduceAdd, Nat.reduceLeDiff, not_true_eq_false, not_false_eq_true, if_true, if_false, ite_true, ite_false, Int32.reduceLT, ite_not, eq_self, or_true, true_or, ite_self, reduceIte, k6, l6]
    suffices key : B_X11_readLine_J2 (d + 9) 0 Q [.ref 59] [.int (bI (decide (nH T < 4) = true)), .ref 1003, .ref 59] w by
      by_cases hr : nH T < 4
      · rw [if_pos hr]
        rw [show bI (decide (nH T < 4) = true) = 1 from if_pos (by simpa using hr)] at key
        exact key
      · rw [if_neg hr]
        rw [show bI (decide (nH T < 4) = true) = 0 from if_neg (by simpa using hr)] at key
        exact key
    simp +decide (disch := omega) only [↓EQA, CEA, LIA, NIA, Nat.lt_irrefl, Option.toList_some, Option.toList_none, List.cons_append, List.nil_append, true_and, and_true, Nat.reduceAdd, Nat.reduceLeDiff, not_true_eq_false, not_false_eq_true, if_true, if_false, ite_true, ite_false, Int32.reduceLT, ite_not, eq_self, or_true, true_or, ite_self, reduceIte, B_X11_readLine_J2]
    refine u_begins (i := 3) (r := decide (nH T < 4)) (D := D) hS (by decide) r0 hD7 (fun z => by have := zr 6 (by decide) (by decide) z; simpa using (show nH T < 4 by show (T 0 6).toNatClampNeg < 4; rw [this]; decide)) (fun q3 => ?_) (fun q w1 ha1 hS1 => ?_)
    rotate_left
    · have eF := lnF_3 (n := n) (S := (T, D, F, N, c)) q
      simp +decide (disch := omega) only [↓EQA, CEA, LIA, NIA, Nat.lt_irrefl, Option.toList_some, Option.toList_none, List.cons_append, List.nil_append, true_and, and_true, Nat.reduceAdd, Nat.reduceLeDiff, not_true_eq_false, not_false_eq_true, if_true, if_false, ite_true, ite_false, Int32.reduceLT, ite_not, eq_self, or_true, true_or, ite_self, reduceIte]
      cases hb : (bgS B n D τ (decide (nH T < 4))).2 with
      | some e =>
        have hf1 := hS1.f1 hb
        have eg := bgS_gte (B := B) (n := n) (S := (T, D, F, N, c)) (X := lHs B n (T, D, F, N, c) (nxT B n τ)) (τ := τ) (r := decide (nH T < 4)) (by show (bgS B n D τ (decide (nH T < 4))).2 ≠ none; rw [hb]; intro z; cases z)
        refine u_houseLineF hf1 ?_
        simp +decide (disch := omega) only [↓EQA, CEA, LIA, NIA, Nat.lt_irrefl, Option.toList_some, Option.toList_none, List.cons_append, List.nil_append, true_and, and_true, Nat.reduceAdd, Nat.reduceLeDiff, not_true_eq_false, not_false_eq_true, if_true, if_false, ite_true, ite_false, Int32.reduceLT, ite_not, eq_self, or_true, true_or, ite_self, reduceIte, B_X11_readLine_J7]
        rw [eF] at hQ
        rw [eg] at hQ
        exact hQ w1 (ha1.wk fun j i z => Or.inl z) hS1 (fun z => by have z2 : (bgS B n D τ (decide (nH T < 4))).2 = none := z; rw [hb] at z2; cases z2)
      | none =>
        obtain ⟨d7, hr, ee, eg⟩ := bgS_none (B := B) (n := n) (S := (T, D, F, N, c)) (X := lHs B n (T, D, F, N, c) (nxT B n τ)) (τ := τ) (r := decide (nH T < 4)) hb
        have ee2 : bgS B n D τ (decide (nH T < 4)) = (nxT B n τ, none) := ee
        rw [ee2] at hS1
        rw [eF] at hQ
        rw [eg] at hQ
        have hT1 : TKp B n (nxT B n τ) := nxT_ok hT
        clear eF eg ee ee2 hb
        generalize nxT B n τ = t at hQ hS1 hT1
        have hr2 : nH T < 4 := by simpa using hr
        refine u_houseLine (k := nH T) hS1 (NN w1 ha1) hP b1 hr2 b3 (GG w1 ha1) (by rw [g1 6 (by decide)]; exact z6) fun w2 ha2 hS2 h2 => ?_
        simp +decide (disch := omega) only [↓EQA, CEA, LIA, NIA, Nat.lt_irrefl, Option.toList_some, Option.toList_none, List.cons_append, List.nil_append, true_and, and_true, Nat.reduceAdd, Nat.reduceLeDiff, not_true_eq_false, not_false_eq_true, if_true, if_false, ite_true, ite_false, Int32.reduceLT, ite_not, eq_self, or_true, true_or, ite_self, reduceIte, B_X11_readLine_J7]
        exact hQ w2 ((ha1.wk fun j i z => Or.inl z).tr ha2) hS2 (fun z => ⟨⟨_, (h2 z).2, (rv_hs hV hT1 d7 hr2 z).2 hg⟩, (h2 z).1⟩)
    simp +decide (disch := omega) only [↓EQA, CEA, LIA, NIA, Nat.lt_irrefl, Option.toList_some, Option.toList_none, List.cons_append, List.nil_append, true_and, and_true, Nat.reduceAdd, Nat.reduceLeDiff, not_true_eq_false, not_false_eq_true, if_true, if_false, ite_true, ite_false, Int32.reduceLT, ite_not, eq_self, or_true, true_or, ite_self, reduceIte, k7, l7]
    suffices key : B_X11_readLine_J3 (d + 9) 0 Q [.ref 59] [.int (bI (decide (nL T < 5) = true)), .ref 1004, .ref 59] w by
      by_cases hr : nL T < 5
      · rw [if_pos hr]
        rw [show bI (decide (nL T < 5) = true) = 1 from if_pos (by simpa using hr)] at key
        exact key
      · rw [if_neg hr]
        rw [show bI (decide (nL T < 5) = true) = 0 from if_neg (by simpa using hr)] at key
        exact key
    simp +decide (disch := omega) only [↓EQA, CEA, LIA, NIA, Nat.lt_irrefl, Option.toList_some, Option.toList_none, List.cons_append, List.nil_append, true_and, and_true, Nat.reduceAdd, Nat.reduceLeDiff, not_true_eq_false, not_false_eq_true, if_true, if_false, ite_true, ite_false, Int32.reduceLT, ite_not, eq_self, or_true, true_or, ite_self, reduceIte, B_X11_readLine_J3]
    refine u_begins (i := 4) (r := decide (nL T < 5)) (D := D) hS (by decide) r0 hD7 (fun z => by have := zr 7 (by decide) (by decide) z; simpa using (show nL T < 5 by show (T 0 7).toNatClampNeg < 5; rw [this]; decide)) (fun q4 => ?_) (fun q w1 ha1 hS1 => ?_)
    rotate_left
    · have eF := lnF_4 (n := n) (S := (T, D, F, N, c)) q
      simp +decide (disch := omega) only [↓EQA, CEA, LIA, NIA, Nat.lt_irrefl, Option.toList_some, Option.toList_none, List.cons_append, List.nil_append, true_and, and_true, Nat.reduceAdd, Nat.reduceLeDiff, not_true_eq_false, not_false_eq_true, if_true, if_false, ite_true, ite_false, Int32.reduceLT, ite_not, eq_self, or_true, true_or, ite_self, reduceIte]
      cases hb : (bgS B n D τ (decide (nL T < 5))).2 with
      | some e =>
        have hf1 := hS1.f1 hb
        have eg := bgS_gte (B := B) (n := n) (S := (T, D, F, N, c)) (X := lLd B n (T, D, F, N, c) (nxT B n τ)) (τ := τ) (r := decide (nL T < 5)) (by show (bgS B n D τ (decide (nL T < 5))).2 ≠ none; rw [hb]; intro z; cases z)
        refine u_lodgerLineF hf1 ?_
        simp +decide (disch := omega) only [↓EQA, CEA, LIA, NIA, Nat.lt_irrefl, Option.toList_some, Option.toList_none, List.cons_append, List.nil_append, true_and, and_true, Nat.reduceAdd, Nat.reduceLeDiff, not_true_eq_false, not_false_eq_true, if_true, if_false, ite_true, ite_false, Int32.reduceLT, ite_not, eq_self, or_true, true_or, ite_self, reduceIte, B_X11_readLine_J7]
        rw [eF] at hQ
        rw [eg] at hQ
        exact hQ w1 (ha1.wk fun j i z => Or.inl z) hS1 (fun z => by have z2 : (bgS B n D τ (decide (nL T < 5))).2 = none := z; rw [hb] at z2; cases z2)
      | none =>
        obtain ⟨d7, hr, ee, eg⟩ := bgS_none (B := B) (n := n) (S := (T, D, F, N, c)) (X := lLd B n (T, D, F, N, c) (nxT B n τ)) (τ := τ) (r := decide (nL T < 5)) hb
        have ee2 : bgS B n D τ (decide (nL T < 5)) = (nxT B n τ, none) := ee
        rw [ee2] at hS1
        rw [eF] at hQ
        rw [eg] at hQ
        have hT1 : TKp B n (nxT B n τ) := nxT_ok hT
        clear eF eg ee ee2 hb
        generalize nxT B n τ = t at hQ hS1 hT1
        have hr2 : nL T < 5 := by simpa using hr
        refine u_lodgerLine (k := nL T) hS1 (NN w1 ha1) hP b1 b2 hr2 (GG w1 ha1) (by rw [g1 7 (by decide)]; exact z7) fun w2 ha2 hS2 h2 => ?_
        simp +decide (disch := omega) only [↓EQA, CEA, LIA, NIA, Nat.lt_irrefl, Option.toList_some, Option.toList_none, List.cons_append, List.nil_append, true_and, and_true, Nat.reduceAdd, Nat.reduceLeDiff, not_true_eq_false, not_false_eq_true, if_true, if_false, ite_true, ite_false, Int32.reduceLT, ite_not, eq_self, or_true, true_or, ite_self, reduceIte, B_X11_readLine_J7]
        exact hQ w2 ((ha1.wk fun j i z => Or.inl z).tr ha2) hS2 (fun z => ⟨⟨_, (h2 z).2, (rv_ld hV hT1 d7 hr2 z).2 hg⟩, (h2 z).1⟩)
    simp +decide (disch := omega) only [↓EQA, CEA, LIA, NIA, Nat.lt_irrefl, Option.toList_some, Option.toList_none, List.cons_append, List.nil_append, true_and, and_true, Nat.reduceAdd, Nat.reduceLeDiff, not_true_eq_false, not_false_eq_true, if_true, if_false, ite_true, ite_false, Int32.reduceLT, ite_not, eq_self, or_true, true_or, ite_self, reduceIte]
    refine u_begins (i := 1) (r := true) (D := D) hS (by decide) r0 hD7 (fun _ => rfl) (fun q1 => ?_) (fun q w1 ha1 hS1 => ?_)
    rotate_left
    · have eF := lnF_1 (n := n) (S := (T, D, F, N, c)) q
      simp +decide (disch := omega) only [↓EQA, CEA, LIA, NIA, Nat.lt_irrefl, Option.toList_some, Option.toList_none, List.cons_append, List.nil_append, true_and, and_true, Nat.reduceAdd, Nat.reduceLeDiff, not_true_eq_false, not_false_eq_true, if_true, if_false, ite_true, ite_false, Int32.reduceLT, ite_not, eq_self, or_true, true_or, ite_self, reduceIte]
      cases hb : (bgS B n D τ (true)).2 with
      | some e =>
        have hf1 := hS1.f1 hb
        have eg := bgS_gte (B := B) (n := n) (S := (T, D, F, N, c)) (X := lAb B n (T, D, F, N, c) (nxT B n τ)) (τ := τ) (r := true) (by show (bgS B n D τ (true)).2 ≠ none; rw [hb]; intro z; cases z)
        refine u_aboardLineF (D := D) (l := nL T) hf1 (GG w1 ha1) (fun i hi => (g5 i hi).1) hD.1 (by rw [g1 7 (by decide)]; exact z7) b3 ?_
        simp +decide (disch := omega) only [↓EQA, CEA, LIA, NIA, Nat.lt_irrefl, Option.toList_some, Option.toList_none, List.cons_append, List.nil_append, true_and, and_true, Nat.reduceAdd, Nat.reduceLeDiff, not_true_eq_false, not_false_eq_true, if_true, if_false, ite_true, ite_false, Int32.reduceLT, ite_not, eq_self, or_true, true_or, ite_self, reduceIte, B_X11_readLine_J7]
        rw [eF] at hQ
        rw [eg] at hQ
        exact hQ w1 (ha1.wk fun j i z => Or.inl z) hS1 (fun z => by have z2 : (bgS B n D τ (true)).2 = none := z; rw [hb] at z2; cases z2)
      | none =>
        obtain ⟨d7, hr, ee, eg⟩ := bgS_none (B := B) (n := n) (S := (T, D, F, N, c)) (X := lAb B n (T, D, F, N, c) (nxT B n τ)) (τ := τ) (r := true) hb
        have ee2 : bgS B n D τ (true) = (nxT B n τ, none) := ee
        rw [ee2] at hS1
        rw [eF] at hQ
        rw [eg] at hQ
        have hT1 : TKp B n (nxT B n τ) := nxT_ok hT
        clear eF eg ee ee2 hb
        generalize nxT B n τ = t at hQ hS1 hT1
        refine u_aboardLine (T := T) (D := D) hS1 (NN w1 ha1) hP b1 b2 b3 (GG w1 ha1) (fun i hi => (g5 i hi).1) hD.1 hD.2.2.1 (by rw [g1 7 (by decide)]; exact z7) (fun i hi => (g3 i hi).2.2.2) fun w2 ha2 hS2 hn h2 => ?_
        simp +decide (disch := omega) only [↓EQA, CEA, LIA, NIA, Nat.lt_irrefl, Option.toList_some, Option.toList_none, List.cons_append, List.nil_append, true_and, and_true, Nat.reduceAdd, Nat.reduceLeDiff, not_true_eq_false, not_false_eq_true, if_true, if_false, ite_true, ite_false, Int32.reduceLT, ite_not, eq_self, or_true, true_or, ite_self, reduceIte, B_X11_readLine_J7]
        exact hQ w2 ((ha1.wk fun j i z => Or.inl z).tr ha2) hS2 (fun z => ⟨⟨_, (h2 z).2.2, (rv_ab hV (h2 z).1 (h2 z).2.1).2 hg⟩, N2 w1 w2 ha1 hn⟩)
    simp +decide (disch := omega) only [↓EQA, CEA, LIA, NIA, Nat.lt_irrefl, Option.toList_some, Option.toList_none, List.cons_append, List.nil_append, true_and, and_true, Nat.reduceAdd, Nat.reduceLeDiff, not_true_eq_false, not_false_eq_true, if_true, if_false, ite_true, ite_false, Int32.reduceLT, ite_not, eq_self, or_true, true_or, ite_self, reduceIte, k8, l8]
    suffices key : B_X11_readLine_J4 (d + 9) 0 Q [.ref 59] [.int (bI (decide (nF T < 6) = true)), .ref 1005, .ref 59] w by
      by_cases hr : nF T < 6
      · rw [if_pos hr]
        rw [show bI (decide (nF T < 6) = true) = 1 from if_pos (by simpa using hr)] at key
        exact key
      · rw [if_neg hr]
        rw [show bI (decide (nF T < 6) = true) = 0 from if_neg (by simpa using hr)] at key
        exact key
    simp +decide (disch := omega) only [↓EQA, CEA, LIA, NIA, Nat.lt_irrefl, Option.toList_some, Option.toList_none, List.cons_append, List.nil_append, true_and, and_true, Nat.reduceAdd, Nat.reduceLeDiff, not_true_eq_false, not_false_eq_true, if_true, if_false, ite_true, ite_false, Int32.reduceLT, ite_not, eq_self, or_true, true_or, ite_self, reduceIte, B_X11_readLine_J4]
    refine u_begins (i := 5) (r := decide (nF T < 6)) (D := D) hS (by decide) r0 hD7 (fun z => by have := zr 8 (by decide) (by decide) z; simpa using (show nF T < 6 by show (T 0 8).toNatClampNeg < 6; rw [this]; decide)) (fun q5 => ?_) (fun q w1 ha1 hS1 => ?_)
    rotate_left
    · have eF := lnF_5 (n := n) (S := (T, D, F, N, c)) q
      simp +decide (disch := omega) only [↓EQA, CEA, LIA, NIA, Nat.lt_irrefl, Option.toList_some, Option.toList_none, List.cons_append, List.nil_append, true_and, and_true, Nat.reduceAdd, Nat.reduceLeDiff, not_true_eq_false, not_false_eq_true, if_true, if_false, ite_true, ite_false, Int32.reduceLT, ite_not, eq_self, or_true, true_or, ite_self, reduceIte]
      cases hb : (bgS B n D τ (decide (nF T < 6))).2 with
      | some e =>
        have hf1 := hS1.f1 hb
        have eg := bgS_gte (B := B) (n := n) (S := (T, D, F, N, c)) (X := lFd B n (T, D, F, N, c) (nxT B n τ)) (τ := τ) (r := decide (nF T < 6)) (by show (bgS B n D τ (decide (nF T < 6))).2 ≠ none; rw [hb]; intro z; cases z)
        refine u_friendLineF hf1 ?_
        simp +decide (disch := omega) only [↓EQA, CEA, LIA, NIA, Nat.lt_irrefl, Option.toList_some, Option.toList_none, List.cons_append, List.nil_append, true_and, and_true, Nat.reduceAdd, Nat.reduceLeDiff, not_true_eq_false, not_false_eq_true, if_true, if_false, ite_true, ite_false, Int32.reduceLT, ite_not, eq_self, or_true, true_or, ite_self, reduceIte, B_X11_readLine_J7]
        rw [eF] at hQ
        rw [eg] at hQ
        exact hQ w1 (ha1.wk fun j i z => Or.inl z) hS1 (fun z => by have z2 : (bgS B n D τ (decide (nF T < 6))).2 = none := z; rw [hb] at z2; cases z2)
      | none =>
        obtain ⟨d7, hr, ee, eg⟩ := bgS_none (B := B) (n := n) (S := (T, D, F, N, c)) (X := lFd B n (T, D, F, N, c) (nxT B n τ)) (τ := τ) (r := decide (nF T < 6)) hb
        have ee2 : bgS B n D τ (decide (nF T < 6)) = (nxT B n τ, none) := ee
        rw [ee2] at hS1
        rw [eF] at hQ
        rw [eg] at hQ
        have hT1 : TKp B n (nxT B n τ) := nxT_ok hT
        clear eF eg ee ee2 hb
        generalize nxT B n τ = t at hQ hS1 hT1
        have hr2 : nF T < 6 := by simpa using hr
        refine u_friendLine (T := T) (k := nF T) hS1 (NN w1 ha1) hP b1 b2 b3 (GG w1 ha1) (fun i hi => by rw [(g5 i (by omega)).2]; exact (hF.2.1 i (by omega)).2.choose_spec.2.2.symm) (by rw [g1 8 (by decide)]; exact z8) fun w2 ha2 hS2 hn h2 => ?_
        simp +decide (disch := omega) only [↓EQA, CEA, LIA, NIA, Nat.lt_irrefl, Option.toList_some, Option.toList_none, List.cons_append, List.nil_append, true_and, and_true, Nat.reduceAdd, Nat.reduceLeDiff, not_true_eq_false, not_false_eq_true, if_true, if_false, ite_true, ite_false, Int32.reduceLT, ite_not, eq_self, or_true, true_or, ite_self, reduceIte, B_X11_readLine_J7]
        exact hQ w2 ((ha1.wk fun j i z => Or.inl z).tr ha2) hS2 (fun z => ⟨⟨_, (h2 z).2.2.2, (rv_fd hV d7 hr2 (h2 z).1 (h2 z).2.1 (h2 z).2.2.1 (fdl_none hP z).2.2.2).2 hg⟩, N2 w1 w2 ha1 hn⟩)
    simp +decide (disch := omega) only [↓EQA, CEA, LIA, NIA, Nat.lt_irrefl, Option.toList_some, Option.toList_none, List.cons_append, List.nil_append, true_and, and_true, Nat.reduceAdd, Nat.reduceLeDiff, not_true_eq_false, not_false_eq_true, if_true, if_false, ite_true, ite_false, Int32.reduceLT, ite_not, eq_self, or_true, true_or, ite_self, reduceIte, k9, l9]
    suffices key : B_X11_readLine_J5 (d + 9) 0 Q [.ref 59] [.int (bI (decide (nP T < 4) = true)), .ref 1006, .ref 59] w by
      by_cases hr : nP T < 4
      · rw [if_pos hr]
        rw [show bI (decide (nP T < 4) = true) = 1 from if_pos (by simpa using hr)] at key
        exact key
      · rw [if_neg hr]
        rw [show bI (decide (nP T < 4) = true) = 0 from if_neg (by simpa using hr)] at key
        exact key
    simp +decide (disch := omega) only [↓EQA, CEA, LIA, NIA, Nat.lt_irrefl, Option.toList_some, Option.toList_none, List.cons_append, List.nil_append, true_and, and_true, Nat.reduceAdd, Nat.reduceLeDiff, not_true_eq_false, not_false_eq_true, if_true, if_false, ite_true, ite_false, Int32.reduceLT, ite_not, eq_self, or_true, true_or, ite_self, reduceIte, B_X11_readLine_J5]
    refine u_begins (i := 6) (r := decide (nP T < 4)) (D := D) hS (by decide) r0 hD7 (fun z => by have := zr 9 (by decide) (by decide) z; simpa using (show nP T < 4 by show (T 0 9).toNatClampNeg < 4; rw [this]; decide)) (fun q6 => ?_) (fun q w1 ha1 hS1 => ?_)
    rotate_left
    · have eF := lnF_6 (n := n) (S := (T, D, F, N, c)) q
      simp +decide (disch := omega) only [↓EQA, CEA, LIA, NIA, Nat.lt_irrefl, Option.toList_some, Option.toList_none, List.cons_append, List.nil_append, true_and, and_true, Nat.reduceAdd, Nat.reduceLeDiff, not_true_eq_false, not_false_eq_true, if_true, if_false, ite_true, ite_false, Int32.reduceLT, ite_not, eq_self, or_true, true_or, ite_self, reduceIte]
      cases hb : (bgS B n D τ (decide (nP T < 4))).2 with
      | some e =>
        have hf1 := hS1.f1 hb
        have eg := bgS_gte (B := B) (n := n) (S := (T, D, F, N, c)) (X := lPz B n (T, D, F, N, c) (nxT B n τ)) (τ := τ) (r := decide (nP T < 4)) (by show (bgS B n D τ (decide (nP T < 4))).2 ≠ none; rw [hb]; intro z; cases z)
        refine u_prizeLineF hf1 ?_
        simp +decide (disch := omega) only [↓EQA, CEA, LIA, NIA, Nat.lt_irrefl, Option.toList_some, Option.toList_none, List.cons_append, List.nil_append, true_and, and_true, Nat.reduceAdd, Nat.reduceLeDiff, not_true_eq_false, not_false_eq_true, if_true, if_false, ite_true, ite_false, Int32.reduceLT, ite_not, eq_self, or_true, true_or, ite_self, reduceIte, B_X11_readLine_J7]
        rw [eF] at hQ
        rw [eg] at hQ
        exact hQ w1 (ha1.wk fun j i z => Or.inl z) hS1 (fun z => by have z2 : (bgS B n D τ (decide (nP T < 4))).2 = none := z; rw [hb] at z2; cases z2)
      | none =>
        obtain ⟨d7, hr, ee, eg⟩ := bgS_none (B := B) (n := n) (S := (T, D, F, N, c)) (X := lPz B n (T, D, F, N, c) (nxT B n τ)) (τ := τ) (r := decide (nP T < 4)) hb
        have ee2 : bgS B n D τ (decide (nP T < 4)) = (nxT B n τ, none) := ee
        rw [ee2] at hS1
        rw [eF] at hQ
        rw [eg] at hQ
        have hT1 : TKp B n (nxT B n τ) := nxT_ok hT
        clear eF eg ee ee2 hb
        generalize nxT B n τ = t at hQ hS1 hT1
        have hr2 : nP T < 4 := by simpa using hr
        refine u_prizeLine (k := nP T) hS1 hr2 (GG w1 ha1) (by rw [g1 9 (by decide)]; exact z9) fun w2 ha2 hS2 hn h2 => ?_
        simp +decide (disch := omega) only [↓EQA, CEA, LIA, NIA, Nat.lt_irrefl, Option.toList_some, Option.toList_none, List.cons_append, List.nil_append, true_and, and_true, Nat.reduceAdd, Nat.reduceLeDiff, not_true_eq_false, not_false_eq_true, if_true, if_false, ite_true, ite_false, Int32.reduceLT, ite_not, eq_self, or_true, true_or, ite_self, reduceIte, B_X11_readLine_J7]
        exact hQ w2 ((ha1.wk fun j i z => Or.inl z).tr ha2) hS2 (fun z => ⟨⟨_, h2 z, (rv_pz hV d7 hr2 z).2 hg⟩, N2 w1 w2 ha1 hn⟩)
    simp +decide (disch := omega) only [↓EQA, CEA, LIA, NIA, Nat.lt_irrefl, Option.toList_some, Option.toList_none, List.cons_append, List.nil_append, true_and, and_true, Nat.reduceAdd, Nat.reduceLeDiff, not_true_eq_false, not_false_eq_true, if_true, if_false, ite_true, ite_false, Int32.reduceLT, ite_not, eq_self, or_true, true_or, ite_self, reduceIte, k10, l10]
    suffices key : B_X11_readLine_J6 (d + 9) 0 Q [.ref 59] [.int (bI (decide (nS T < 5) = true)), .ref 1007, .ref 59] w by
      by_cases hr : nS T < 5
      · rw [if_pos hr]
        rw [show bI (decide (nS T < 5) = true) = 1 from if_pos (by simpa using hr)] at key
        exact key
      · rw [if_neg hr]
        rw [show bI (decide (nS T < 5) = true) = 0 from if_neg (by simpa using hr)] at key
        exact key
    simp +decide (disch := omega) only [↓EQA, CEA, LIA, NIA, Nat.lt_irrefl, Option.toList_some, Option.toList_none, List.cons_append, List.nil_append, true_and, and_true, Nat.reduceAdd, Nat.reduceLeDiff, not_true_eq_false, not_false_eq_true, if_true, if_false, ite_true, ite_false, Int32.reduceLT, ite_not, eq_self, or_true, true_or, ite_self, reduceIte, B_X11_readLine_J6]
    refine u_begins (i := 7) (r := decide (nS T < 5)) (D := D) hS (by decide) r0 hD7 (fun z => by have := zr 10 (by decide) (by decide) z; simpa using (show nS T < 5 by show (T 0 10).toNatClampNeg < 5; rw [this]; decide)) (fun q7 => ?_) (fun q w1 ha1 hS1 => ?_)
    rotate_left
    · have eF := lnF_7 (n := n) (S := (T, D, F, N, c)) q
      simp +decide (disch := omega) only [↓EQA, CEA, LIA, NIA, Nat.lt_irrefl, Option.toList_some, Option.toList_none, List.cons_append, List.nil_append, true_and, and_true, Nat.reduceAdd, Nat.reduceLeDiff, not_true_eq_false, not_false_eq_true, if_true, if_false, ite_true, ite_false, Int32.reduceLT, ite_not, eq_self, or_true, true_or, ite_self, reduceIte]
      cases hb : (bgS B n D τ (decide (nS T < 5))).2 with
      | some e =>
        have hf1 := hS1.f1 hb
        have eg := bgS_gte (B := B) (n := n) (S := (T, D, F, N, c)) (X := lSw B n (T, D, F, N, c) (nxT B n τ)) (τ := τ) (r := decide (nS T < 5)) (by show (bgS B n D τ (decide (nS T < 5))).2 ≠ none; rw [hb]; intro z; cases z)
        refine u_sawLineF hf1 ?_
        simp +decide (disch := omega) only [↓EQA, CEA, LIA, NIA, Nat.lt_irrefl, Option.toList_some, Option.toList_none, List.cons_append, List.nil_append, true_and, and_true, Nat.reduceAdd, Nat.reduceLeDiff, not_true_eq_false, not_false_eq_true, if_true, if_false, ite_true, ite_false, Int32.reduceLT, ite_not, eq_self, or_true, true_or, ite_self, reduceIte, B_X11_readLine_J7]
        rw [eF] at hQ
        rw [eg] at hQ
        exact hQ w1 (ha1.wk fun j i z => Or.inl z) hS1 (fun z => by have z2 : (bgS B n D τ (decide (nS T < 5))).2 = none := z; rw [hb] at z2; cases z2)
      | none =>
        obtain ⟨d7, hr, ee, eg⟩ := bgS_none (B := B) (n := n) (S := (T, D, F, N, c)) (X := lSw B n (T, D, F, N, c) (nxT B n τ)) (τ := τ) (r := decide (nS T < 5)) hb
        have ee2 : bgS B n D τ (decide (nS T < 5)) = (nxT B n τ, none) := ee
        rw [ee2] at hS1
        rw [eF] at hQ
        rw [eg] at hQ
        have hT1 : TKp B n (nxT B n τ) := nxT_ok hT
        clear eF eg ee ee2 hb
        generalize nxT B n τ = t at hQ hS1 hT1
        have hr2 : nS T < 5 := by simpa using hr
        refine u_sawLine (k := nS T) hS1 (NN w1 ha1) hP b1 b2 b3 hr2 (GG w1 ha1) (by rw [g1 10 (by decide)]; exact z10) fun w2 ha2 hS2 hn h2 => ?_
        simp +decide (disch := omega) only [↓EQA, CEA, LIA, NIA, Nat.lt_irrefl, Option.toList_some, Option.toList_none, List.cons_append, List.nil_append, true_and, and_true, Nat.reduceAdd, Nat.reduceLeDiff, not_true_eq_false, not_false_eq_true, if_true, if_false, ite_true, ite_false, Int32.reduceLT, ite_not, eq_self, or_true, true_or, ite_self, reduceIte, B_X11_readLine_J7]
        exact hQ w2 ((ha1.wk fun j i z => Or.inl z).tr ha2) hS2 (fun z => ⟨⟨_, h2 z, (rv_sw hV d7 hr2 z).2 hg⟩, N2 w1 w2 ha1 hn⟩)
    simp +decide (disch := omega) only [↓EQA, CEA, LIA, NIA, Nat.lt_irrefl, Option.toList_some, Option.toList_none, List.cons_append, List.nil_append, true_and, and_true, Nat.reduceAdd, Nat.reduceLeDiff, not_true_eq_false, not_false_eq_true, if_true, if_false, ite_true, ite_false, Int32.reduceLT, ite_not, eq_self, or_true, true_or, ite_self, reduceIte, h4]
    refine u_wrong (f := 1) (p := τ.1) hf ?_
    obtain ⟨c1, c2⟩ := MSf.bad (τ := τ) (f := 1) hX
    simp +decide (disch := omega) only [↓EQA, CEA, LIA, NIA, Nat.lt_irrefl, Option.toList_some, Option.toList_none, List.cons_append, List.nil_append, true_and, and_true, Nat.reduceAdd, Nat.reduceLeDiff, not_true_eq_false, not_false_eq_true, if_true, if_false, ite_true, ite_false, Int32.reduceLT, ite_not, eq_self, or_true, true_or, ite_self, reduceIte, B_X11_readLine_J7]
    rw [lnF_no q0 q1 q2 q3 q4 q5 q6 q7] at hQ
    exact hQ _ (c2.wk fun j i z => Or.inl z) c1 (fun z => by cases z)
end MReadLine
