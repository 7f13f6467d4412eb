/-! ===== undo, image, back ===== -/
section Acts4
variable {d : Nat} {w : Mem} {T : Tv} {D F : Nat → Nat} {x y : Int32}
theorem askK {Mc Mr : MD} {ac ar : List Value} {v tr : Int32} (hI : IV w T D F) (h4 : ¬ tr = 4) (hC : ∀ Q : Option Value → Mem → Prop, (∀ w1, CAf w w1 T tr → Q (some (.int v)) w1) → Cl d Mc ac w Q) (hM : ∀ w1 K, IMd w1 T D F → Ag QC w w1 → (∀ w2, MAf w1 w2 tr → K (some (.int v)) w2) → Cl d Mr ar w1 K) : PRI d Mc Mr ac ar w := by
  intro Q hQ
  refine hC Q fun w1 ⟨a1, a2, a3⟩ => hQ v w1 fun K hK => ?_
  have hM1 : IMd w1 T D F := by
    obtain ⟨-, -, -, ⟨m1, m2, m3, m4, m5, m6⟩, -⟩ := hI
    exact ⟨m1.ag a1 (fun i z => by omega), m2.ag a1 (fun i z => by omega), m3.ag a1 (fun i z => by omega), by rw [(a1 59 22 (by omega)).1]; exact m4, by rw [(a1 59 14 (by omega)).1]; exact m5, fun l hl => by rw [(a1 62 _ (by omega)).1]; exact m6 l hl⟩
  exact hM w1 K hM1 a1 fun w2 ⟨b1, b2, b3⟩ => hK w2 (hI.ask a1 a2 b1 b2 (by rw [b3, a3]) (by rw [a3]; exact h4))
theorem p_undo (hI : IV w T D F) : PRI (d + 20) m_X10_undo m_X11_undo [.ref 0] [.ref 59] w := by
  obtain ⟨hZ, hP, ⟨c1, c2, c3⟩, hM0, ⟨n, m, A, B, hn, hm, i3, i4, i20, i21, hA, hB, hnm⟩, -⟩ := id hI
  have hz := hZ.2
  cases n with
  | zero =>
    refine askK (v := 0) (tr := 6) hI (by decide) (fun Q hQ => ?_) (fun w1 K hM h1 hK => ?_)
    · refine Cl_of k_X10_undo.1 (Nat.le_of_ble_eq_true rfl) (show Wp m_X10_undo _ 0 _ 0 [.ref 0] [] _ from S_X10_undo_0 _ _ _ ?_)
      simp +decide (disch := omega) only [↓EQA, CEA, LIA, NIA, Nat.lt_irrefl, Option.toList_some, Option.toList_none, List.cons_append, List.nil_append, true_and, and_true, Nat.reduceAdd, Nat.reduceLeDiff, not_true_eq_false, not_false_eq_true, if_true, if_false, ite_true, ite_false, Int32.reduceLT, ite_not, eq_self, or_true, true_or, ite_self, reduceIte, B_X10_undo_0, i3]
      refine t_doneG Ag.rf c3 fun w9 h9 => ?_
      rw [show bI ((6 : Int32) = 0) = 0 by decide]
      simp +decide (disch := omega) only [↓EQA, CEA, LIA, NIA, Nat.lt_irrefl, Option.toList_some, Option.toList_none, List.cons_append, List.nil_append, true_and, and_true, Nat.reduceAdd, Nat.reduceLeDiff, not_true_eq_false, not_false_eq_true, if_true, if_false, ite_true, ite_false, Int32.reduceLT, ite_not, eq_self, or_true, true_or, ite_self, reduceIte]
      exact hQ _ h9
    · refine Cl_of k_X11_undo.1 (Nat.le_of_ble_eq_true rfl) (show Wp m_X11_undo _ 0 _ 0 [.ref 59] [] _ from S_X11_undo_0 _ _ _ ?_)
      simp +decide (disch := omega) only [↓EQA, CEA, LIA, NIA, Nat.lt_irrefl, Option.toList_some, Option.toList_none, List.cons_append, List.nil_append, true_and, and_true, Nat.reduceAdd, Nat.reduceLeDiff, not_true_eq_false, not_false_eq_true, if_true, if_false, ite_true, ite_false, Int32.reduceLT, ite_not, eq_self, or_true, true_or, ite_self, reduceIte, B_X11_undo_0]
      refine u_goodH hM fun wg hMg hg h11 => ?_
      have r20 : wg.1 59 20 = nI 0 := by rw [(hg 59 20 (by omega)).1, (h1 59 20 (by omega)).1]; exact i20
      simp +decide (disch := omega) only [↓EQA, CEA, LIA, NIA, Nat.lt_irrefl, Option.toList_some, Option.toList_none, List.cons_append, List.nil_append, true_and, and_true, Nat.reduceAdd, Nat.reduceLeDiff, not_true_eq_false, not_false_eq_true, if_true, if_false, ite_true, ite_false, Int32.reduceLT, ite_not, eq_self, or_true, true_or, ite_self, reduceIte, r20]
      refine u_isNotG hMg (hg.wk fun j i z => by omega) fun w9 h9 => ?_
      simp +decide (disch := omega) only [↓EQA, CEA, LIA, NIA, Nat.lt_irrefl, Option.toList_some, Option.toList_none, List.cons_append, List.nil_append, true_and, and_true, Nat.reduceAdd, Nat.reduceLeDiff, not_true_eq_false, not_false_eq_true, if_true, if_false, ite_true, ite_false, Int32.reduceLT, ite_not, eq_self, or_true, true_or, ite_self, reduceIte]
      exact hK _ h9
  | succ e =>
    have hH : 1 ≤ nH T := by
      rcases Nat.eq_zero_or_pos (nH T) with z | z
      · have := (hnm z).1; omega
      · exact z
    obtain ⟨d1, d2, d3⟩ := hA e (by omega)
    intro Q hQ
    refine Cl_of k_X10_undo.1 (Nat.le_of_ble_eq_true rfl) (show Wp m_X10_undo _ 0 _ 0 [.ref 0] [] _ from S_X10_undo_0 _ _ _ ?_)
    have e1 : ¬ e + 1 = 0 := by omega
    simp +decide (disch := omega) only [↓EQA, CEA, LIA, NIA, Nat.lt_irrefl, Option.toList_some, Option.toList_none, List.cons_append, List.nil_append, true_and, and_true, Nat.reduceAdd, Nat.reduceLeDiff, not_true_eq_false, not_false_eq_true, if_true, if_false, ite_true, ite_false, Int32.reduceLT, ite_not, eq_self, or_true, true_or, ite_self, reduceIte, B_X10_undo_0, i3, e1]
    refine t_takeBackAct (ra := 0) i3 (by omega) d2 d1.1.rok c2.2.2.1 fun wc hac k3 hCc => ?_
    simp +decide (disch := omega) only [↓EQA, CEA, LIA, NIA, Nat.lt_irrefl, Option.toList_some, Option.toList_none, List.cons_append, List.nil_append, true_and, and_true, Nat.reduceAdd, Nat.reduceLeDiff, not_true_eq_false, not_false_eq_true, if_true, if_false, ite_true, ite_false, Int32.reduceLT, ite_not, eq_self, or_true, true_or, ite_self, reduceIte]
    refine t_done ?_
    rw [show bI ((0 : Int32) = 0) = 1 by decide]
    simp +decide (disch := omega) only [↓EQA, CEA, LIA, NIA, Nat.lt_irrefl, Option.toList_some, Option.toList_none, List.cons_append, List.nil_append, true_and, and_true, Nat.reduceAdd, Nat.reduceLeDiff, not_true_eq_false, not_false_eq_true, if_true, if_false, ite_true, ite_false, Int32.reduceLT, ite_not, eq_self, or_true, true_or, ite_self, reduceIte]
    have h1 : Ag (fun j i => (j = 0 ∧ i = 13) ∨ j = 16 ∨ j = 17 ∨ (j = 56 ∧ i = 3)) w (wI wc 0 13 0) := (hac.wk fun j i z => by omega).wI (Or.inl ⟨rfl, rfl⟩)
    have ht1 : (wI wc 0 13 0).1 0 13 = 0 := by simp [wI]
    have hC1 : RC (wI wc 0 13 0) 16 17 (RS (A e)) := hCc
    have a1 : (wI wc 0 13 0).1 56 3 = nI e := by rw [wI_ne (by decide)]; exact k3
    generalize wI wc 0 13 0 = w1 at h1 ht1 hC1 a1 ⊢
    refine hQ 1 w1 fun K hK => ?_
    have hM1 : IMd w1 T D F := hM0.ag h1 (fun i z => by omega) (fun i z => by omega) (by omega) (by rw [(h1 59 22 (by omega)).1]; exact hM0.2.2.2.1)
    refine Cl_of k_X11_undo.1 (Nat.le_of_ble_eq_true rfl) (show Wp m_X11_undo _ 0 _ 0 [.ref 59] [] _ from S_X11_undo_0 _ _ _ ?_)
    simp +decide (disch := omega) only [↓EQA, CEA, LIA, NIA, Nat.lt_irrefl, Option.toList_some, Option.toList_none, List.cons_append, List.nil_append, true_and, and_true, Nat.reduceAdd, Nat.reduceLeDiff, not_true_eq_false, not_false_eq_true, if_true, if_false, ite_true, ite_false, Int32.reduceLT, ite_not, eq_self, or_true, true_or, ite_self, reduceIte, B_X11_undo_0]
    refine u_goodH hM1 fun wg hMg hg h11 => ?_
    have r20 : wg.1 59 20 = nI (e + 1) := by rw [(hg 59 20 (by omega)).1, (h1 59 20 (by omega)).1]; exact i20
    have s20 : (wI wg 59 20 (nI e)).1 59 20 = nI e := by simp [wI]
    have e8 : (8 : Int32) * nI e = nI (8 * e) := nI_mul 8 e
    simp +decide (disch := omega) only [↓EQA, CEA, LIA, NIA, Nat.lt_irrefl, Option.toList_some, Option.toList_none, List.cons_append, List.nil_append, true_and, and_true, Nat.reduceAdd, Nat.reduceLeDiff, not_true_eq_false, not_false_eq_true, if_true, if_false, ite_true, ite_false, Int32.reduceLT, ite_not, eq_self, or_true, true_or, ite_self, reduceIte, r20, e1, nI_pred, s20, e8]
    refine u_copy (a := 65) (b := 64) (p := 8 * e) (q := 0) (n := 8) (na := 128) (nb := 8) rfl rfl (by decide) (by omega) (by decide) (by decide) (by decide) fun w2 ha2 hc2 => ?_
    simp +decide (disch := omega) only [↓EQA, CEA, LIA, NIA, Nat.lt_irrefl, Option.toList_some, Option.toList_none, List.cons_append, List.nil_append, true_and, and_true, Nat.reduceAdd, Nat.reduceLeDiff, not_true_eq_false, not_false_eq_true, if_true, if_false, ite_true, ite_false, Int32.reduceLT, ite_not, eq_self, or_true, true_or, ite_self, reduceIte]
    have hx : Ag (fun j i => j = 64 ∨ (j = 59 ∧ (i = 0 ∨ i = 11 ∨ i = 20))) w1 w2 := ((hg.wk fun j i z => by omega).wI (Or.inr ⟨rfl, Or.inr (Or.inr rfl)⟩)).tr (ha2.wk fun j i z => by omega)
    refine hK _ (hI.new (n' := e) (m' := m) (A' := A) (B' := B) (D' := A e) (w1 := w1) hH (h1.wk fun j i z => by omega) (hx.wk fun j i z => by omega) ht1 ?_ (by decide) ?_ hC1 (fun q hq => ?_) d1 (by omega) hm a1 (by rw [(h1 56 4 (by omega)).1]; exact i4) ?_ ?_ (fun i hi => ⟨(hA i (by omega)).1, by rw [(h1 57 i (by omega)).2]; exact (hA i (by omega)).2.1, fun q hq => ?_⟩) (fun i hi => ⟨(hB i hi).1, by rw [(h1 58 i (by omega)).2]; exact (hB i hi).2.1, fun q hq => ?_⟩))
    · rw [(ha2 59 11 (by omega)).1, ← h11]; simp [wI]
    · rw [(hx 59 22 (by omega)).1, (h1 59 22 (by omega)).1]; exact hM0.2.2.2.1
    · have := hc2 q hq
      rw [Nat.zero_add, wI_ne (by decide), (hg 65 _ (by omega)).1, (h1 65 _ (by omega)).1, d3 q hq] at this
      exact this
    · rw [(ha2 59 20 (by omega)).1]; simp [wI]
    · rw [(hx 59 21 (by omega)).1, (h1 59 21 (by omega)).1]; exact i21
    · rw [(hx 65 _ (by omega)).1, (h1 65 _ (by omega)).1]; exact (hA i (by omega)).2.2 q hq
    · rw [(hx 66 _ (by omega)).1, (h1 66 _ (by omega)).1]; exact (hB i hi).2.2 q hq
theorem p_image (hI : IV w T D F) : PRI (d + 20) m_X10_image m_X11_image [.ref 0] [.ref 59] w := by
  obtain ⟨hZ, hP, ⟨c1, c2, c3⟩, hM0, ⟨n, m, A, B, hn, hm, i3, i4, i20, i21, hA, hB, hnm⟩, -⟩ := id hI
  have hz := hZ.2
  by_cases g0 : 1 ≤ nH T
  · have hU := hP.pu g0
    have hDT : DOKT T D := ⟨hU.2.2.1, hU.2.2.2.1, hU.2.2.2.2.1, hU.2.2.2.2.2.1⟩
    have hm2 : m < 2 ^ 31 := by omega
    by_cases q : m < 3
    · have e3 : (nI m < 3) = True := eq_true (nI_lt (b := 3) q (by decide))
      have n3 : (nI m = 3) = False := eq_false fun z => by
        have := (nI_eq (b := 3) hm2 (by decide)).mp z
        omega
      intro Q hQ
      refine Cl_of k_X10_image.1 (Nat.le_of_ble_eq_true rfl) (show Wp m_X10_image _ 0 _ 0 [.ref 0] [] _ from S_X10_image_0 _ _ _ ?_)
      simp +decide (disch := omega) only [↓EQA, CEA, LIA, NIA, Nat.lt_irrefl, Option.toList_some, Option.toList_none, List.cons_append, List.nil_append, true_and, and_true, Nat.reduceAdd, Nat.reduceLeDiff, not_true_eq_false, not_false_eq_true, if_true, if_false, ite_true, ite_false, Int32.reduceLT, ite_not, eq_self, or_true, true_or, ite_self, reduceIte, B_X10_image_0]
      refine t_isTold c1 hZ ?_
      rw [show bI (1 ≤ nH T) = 1 from if_pos g0]
      simp +decide (disch := omega) only [↓EQA, CEA, LIA, NIA, Nat.lt_irrefl, Option.toList_some, Option.toList_none, List.cons_append, List.nil_append, true_and, and_true, Nat.reduceAdd, Nat.reduceLeDiff, not_true_eq_false, not_false_eq_true, if_true, if_false, ite_true, ite_false, Int32.reduceLT, ite_not, eq_self, or_true, true_or, ite_self, reduceIte, i4, e3]
      refine t_keepImage i4 q c2 hU.2.2.1.rok ?_
      simp +decide (disch := omega) only [↓EQA, CEA, LIA, NIA, Nat.lt_irrefl, Option.toList_some, Option.toList_none, List.cons_append, List.nil_append, true_and, and_true, Nat.reduceAdd, Nat.reduceLeDiff, not_true_eq_false, not_false_eq_true, if_true, if_false, ite_true, ite_false, Int32.reduceLT, ite_not, eq_self, or_true, true_or, ite_self, reduceIte]
      refine t_granted ?_
      simp +decide (disch := omega) only [↓EQA, CEA, LIA, NIA, Nat.lt_irrefl, Option.toList_some, Option.toList_none, List.cons_append, List.nil_append, true_and, and_true, Nat.reduceAdd, Nat.reduceLeDiff, not_true_eq_false, not_false_eq_true, if_true, if_false, ite_true, ite_false, Int32.reduceLT, ite_not, eq_self, or_true, true_or, ite_self, reduceIte]
      have h1 : Ag (fun j i => (j = 0 ∧ i = 13) ∨ j = 58 ∨ (j = 56 ∧ i = 4)) w (wI (wI (wL w 58 m (lN (pkN (RS D)))) 56 4 (nI (m + 1))) 0 13 0) := ((Ag.rf.wL (Or.inr (Or.inl rfl))).wI (Or.inr (Or.inr ⟨rfl, rfl⟩))).wI (Or.inl ⟨rfl, rfl⟩)
      have ht1 : (wI (wI (wL w 58 m (lN (pkN (RS D)))) 56 4 (nI (m + 1))) 0 13 0).1 0 13 = 0 := by simp [wI]
      have a2 : (wI (wI (wL w 58 m (lN (pkN (RS D)))) 56 4 (nI (m + 1))) 0 13 0).1 56 4 = nI (m + 1) := by simp [wI]
      have a58 : ∀ i, i < m + 1 → (wI (wI (wL w 58 m (lN (pkN (RS D)))) 56 4 (nI (m + 1))) 0 13 0).2 58 i = lN (pkN (RS (if i = m then D else B i))) := fun i hi => by
        show (if 58 = 58 ∧ i = m then lN (pkN (RS D)) else w.2 58 i) = _
        by_cases e : i = m
        · rw [if_pos ⟨rfl, e⟩, if_pos e]
        · rw [if_neg (fun z => e z.2), if_neg e]; exact (hB i (by omega)).2.1
      generalize wI (wI (wL w 58 m (lN (pkN (RS D)))) 56 4 (nI (m + 1))) 0 13 0 = w1 at h1 ht1 a2 a58 ⊢
      refine hQ (nI m) w1 fun K hK => ?_
      have hM1 : IMd w1 T D F := hM0.ag h1 (fun i z => by omega) (fun i z => by omega) (by omega) (by rw [(h1 59 22 (by omega)).1]; exact hM0.2.2.2.1)
      refine Cl_of k_X11_image.1 (Nat.le_of_ble_eq_true rfl) (show Wp m_X11_image _ 0 _ 0 [.ref 59] [] _ from S_X11_image_0 _ _ _ ?_)
      simp +decide (disch := omega) only [↓EQA, CEA, LIA, NIA, Nat.lt_irrefl, Option.toList_some, Option.toList_none, List.cons_append, List.nil_append, true_and, and_true, Nat.reduceAdd, Nat.reduceLeDiff, not_true_eq_false, not_false_eq_true, if_true, if_false, ite_true, ite_false, Int32.reduceLT, ite_not, eq_self, or_true, true_or, ite_self, reduceIte, B_X11_image_0]
      refine u_goodH hM1 fun wg hMg hg h11 => ?_
      have r21 : wg.1 59 21 = nI m := by rw [(hg 59 21 (by omega)).1, (h1 59 21 (by omega)).1]; exact i21
      have e8 : (8 : Int32) * nI m = nI (8 * m) := nI_mul 8 m
      simp +decide (disch := omega) only [↓EQA, CEA, LIA, NIA, Nat.lt_irrefl, Option.toList_some, Option.toList_none, List.cons_append, List.nil_append, true_and, and_true, Nat.reduceAdd, Nat.reduceLeDiff, not_true_eq_false, not_false_eq_true, if_true, if_false, ite_true, ite_false, Int32.reduceLT, ite_not, eq_self, or_true, true_or, ite_self, reduceIte, e14 hMg g0, r21, n3, e8]
      refine u_copy (a := 64) (b := 66) (p := 0) (q := 8 * m) (n := 8) (na := 8) (nb := 24) rfl rfl (by decide) (by decide) (by omega) (by decide) (by decide) fun w2 ha2 hc2 => ?_
      have s21 : w2.1 59 21 = nI m := by rw [(ha2 59 21 (by omega)).1]; exact r21
      have s22 : (wI w2 59 21 (nI (m + 1))).1 59 21 = nI (m + 1) := by simp [wI]
      simp +decide (disch := omega) only [↓EQA, CEA, LIA, NIA, Nat.lt_irrefl, Option.toList_some, Option.toList_none, List.cons_append, List.nil_append, true_and, and_true, Nat.reduceAdd, Nat.reduceLeDiff, not_true_eq_false, not_false_eq_true, if_true, if_false, ite_true, ite_false, Int32.reduceLT, ite_not, eq_self, or_true, true_or, ite_self, reduceIte, s21, nI_1, s22, nI_pred]
      have hx : Ag (fun j i => j = 66 ∨ (j = 59 ∧ (i = 0 ∨ i = 11 ∨ i = 21))) w1 (wI w2 59 21 (nI (m + 1))) := ((hg.wk fun j i z => by omega).tr (ha2.wk fun j i z => by omega)).wI (Or.inr ⟨rfl, Or.inr (Or.inr rfl)⟩)
      refine hK _ (hI.new (n' := n) (m' := m + 1) (A' := A) (B' := fun i => if i = m then D else B i) (D' := D) (w1 := w1) g0 (h1.wk fun j i z => by omega) (hx.wk fun j i z => by omega) ht1 ?_ (by decide) ?_ (c2.ag h1 (fun i z => by omega) (fun i z => by omega)) ((hM1.2.2.1).ag hx (fun i z => by omega)) hDT hn (by omega) (by rw [(h1 56 3 (by omega)).1]; exact i3) a2 ?_ (by simp [wI]) (fun i hi => ⟨(hA i hi).1, by rw [(h1 57 i (by omega)).2]; exact (hA i hi).2.1, fun q hq => ?_⟩) (fun i hi => ⟨?_, a58 i hi, fun q hq => ?_⟩))
      · have : w2.1 59 11 = 0 := by rw [(ha2 59 11 (by omega)).1]; exact h11
        rw [← this]; simp [wI]
      · rw [(hx 59 22 (by omega)).1]; exact hM1.2.2.2.1
      · rw [(hx 59 20 (by omega)).1, (h1 59 20 (by omega)).1]; exact i20
      · rw [(hx 65 _ (by omega)).1, (h1 65 _ (by omega)).1]; exact (hA i hi).2.2 q hq
      · show DOKT T (if i = m then D else B i)
        split
        · exact hDT
        · next e => exact (hB i (by omega)).1
      · rw [wI_ne (by decide)]
        show _ = nI ((if i = m then D else B i) q)
        by_cases e : i = m
        · rw [if_pos e, e, hc2 q hq, Nat.zero_add]; exact hMg.2.2.1 q hq
        · rw [if_neg e, (ha2 66 _ (by omega)).1, (hg 66 _ (by omega)).1, (h1 66 _ (by omega)).1]; exact (hB i (by omega)).2.2 q hq
    · have hm3 : m = 3 := by omega
      subst hm3
      refine askK (v := -1) (tr := 3) hI (by decide) (fun Q hQ => ?_) (fun w1 K hM h1 hK => ?_)
      · have e3 : (nI 3 < 3) = False := by decide
        refine Cl_of k_X10_image.1 (Nat.le_of_ble_eq_true rfl) (show Wp m_X10_image _ 0 _ 0 [.ref 0] [] _ from S_X10_image_0 _ _ _ ?_)
        simp +decide (disch := omega) only [↓EQA, CEA, LIA, NIA, Nat.lt_irrefl, Option.toList_some, Option.toList_none, List.cons_append, List.nil_append, true_and, and_true, Nat.reduceAdd, Nat.reduceLeDiff, not_true_eq_false, not_false_eq_true, if_true, if_false, ite_true, ite_false, Int32.reduceLT, ite_not, eq_self, or_true, true_or, ite_self, reduceIte, B_X10_image_0]
        refine t_isTold c1 hZ ?_
        rw [show bI (1 ≤ nH T) = 1 from if_pos g0]
        simp +decide (disch := omega) only [↓EQA, CEA, LIA, NIA, Nat.lt_irrefl, Option.toList_some, Option.toList_none, List.cons_append, List.nil_append, true_and, and_true, Nat.reduceAdd, Nat.reduceLeDiff, not_true_eq_false, not_false_eq_true, if_true, if_false, ite_true, ite_false, Int32.reduceLT, ite_not, eq_self, or_true, true_or, ite_self, reduceIte, i4, e3]
        refine t_refusedG Ag.rf c3 fun w9 h9 => ?_
        simp +decide (disch := omega) only [↓EQA, CEA, LIA, NIA, Nat.lt_irrefl, Option.toList_some, Option.toList_none, List.cons_append, List.nil_append, true_and, and_true, Nat.reduceAdd, Nat.reduceLeDiff, not_true_eq_false, not_false_eq_true, if_true, if_false, ite_true, ite_false, Int32.reduceLT, ite_not, eq_self, or_true, true_or, ite_self, reduceIte]
        exact hQ _ h9
      · refine Cl_of k_X11_image.1 (Nat.le_of_ble_eq_true rfl) (show Wp m_X11_image _ 0 _ 0 [.ref 59] [] _ from S_X11_image_0 _ _ _ ?_)
        simp +decide (disch := omega) only [↓EQA, CEA, LIA, NIA, Nat.lt_irrefl, Option.toList_some, Option.toList_none, List.cons_append, List.nil_append, true_and, and_true, Nat.reduceAdd, Nat.reduceLeDiff, not_true_eq_false, not_false_eq_true, if_true, if_false, ite_true, ite_false, Int32.reduceLT, ite_not, eq_self, or_true, true_or, ite_self, reduceIte, B_X11_image_0]
        refine u_goodH hM fun wg hMg hg h11 => ?_
        have r21 : wg.1 59 21 = 3 := by rw [(hg 59 21 (by omega)).1, (h1 59 21 (by omega)).1]; exact i21
        simp +decide (disch := omega) only [↓EQA, CEA, LIA, NIA, Nat.lt_irrefl, Option.toList_some, Option.toList_none, List.cons_append, List.nil_append, true_and, and_true, Nat.reduceAdd, Nat.reduceLeDiff, not_true_eq_false, not_false_eq_true, if_true, if_false, ite_true, ite_false, Int32.reduceLT, ite_not, eq_self, or_true, true_or, ite_self, reduceIte, e14 hMg g0, r21]
        refine u_noG hMg (hg.wk fun j i z => by omega) fun w9 h9 => ?_
        simp +decide (disch := omega) only [↓EQA, CEA, LIA, NIA, Nat.lt_irrefl, Option.toList_some, Option.toList_none, List.cons_append, List.nil_append, true_and, and_true, Nat.reduceAdd, Nat.reduceLeDiff, not_true_eq_false, not_false_eq_true, if_true, if_false, ite_true, ite_false, Int32.reduceLT, ite_not, eq_self, or_true, true_or, ite_self, reduceIte]
        exact hK _ h9
  · refine askI (v := -1) (tr := 1) hI (by decide) (fun Q hQ => ?_) (fun w1 K hM hK => ?_)
    · refine Cl_of k_X10_image.1 (Nat.le_of_ble_eq_true rfl) (show Wp m_X10_image _ 0 _ 0 [.ref 0] [] _ from S_X10_image_0 _ _ _ ?_)
      simp +decide (disch := omega) only [↓EQA, CEA, LIA, NIA, Nat.lt_irrefl, Option.toList_some, Option.toList_none, List.cons_append, List.nil_append, true_and, and_true, Nat.reduceAdd, Nat.reduceLeDiff, not_true_eq_false, not_false_eq_true, if_true, if_false, ite_true, ite_false, Int32.reduceLT, ite_not, eq_self, or_true, true_or, ite_self, reduceIte, B_X10_image_0]
      refine t_isTold c1 hZ ?_
      rw [show bI (1 ≤ nH T) = 0 from if_neg g0]
      simp +decide (disch := omega) only [↓EQA, CEA, LIA, NIA, Nat.lt_irrefl, Option.toList_some, Option.toList_none, List.cons_append, List.nil_append, true_and, and_true, Nat.reduceAdd, Nat.reduceLeDiff, not_true_eq_false, not_false_eq_true, if_true, if_false, ite_true, ite_false, Int32.reduceLT, ite_not, eq_self, or_true, true_or, ite_self, reduceIte]
      refine t_refusedG Ag.rf c3 fun w9 h9 => ?_
      simp +decide (disch := omega) only [↓EQA, CEA, LIA, NIA, Nat.lt_irrefl, Option.toList_some, Option.toList_none, List.cons_append, List.nil_append, true_and, and_true, Nat.reduceAdd, Nat.reduceLeDiff, not_true_eq_false, not_false_eq_true, if_true, if_false, ite_true, ite_false, Int32.reduceLT, ite_not, eq_self, or_true, true_or, ite_self, reduceIte]
      exact hQ _ h9
    · refine Cl_of k_X11_image.1 (Nat.le_of_ble_eq_true rfl) (show Wp m_X11_image _ 0 _ 0 [.ref 59] [] _ from S_X11_image_0 _ _ _ ?_)
      simp +decide (disch := omega) only [↓EQA, CEA, LIA, NIA, Nat.lt_irrefl, Option.toList_some, Option.toList_none, List.cons_append, List.nil_append, true_and, and_true, Nat.reduceAdd, Nat.reduceLeDiff, not_true_eq_false, not_false_eq_true, if_true, if_false, ite_true, ite_false, Int32.reduceLT, ite_not, eq_self, or_true, true_or, ite_self, reduceIte, B_X11_image_0]
      refine u_goodG hM fun wg hMg hA h11 => ?_
      simp +decide (disch := omega) only [↓EQA, CEA, LIA, NIA, Nat.lt_irrefl, Option.toList_some, Option.toList_none, List.cons_append, List.nil_append, true_and, and_true, Nat.reduceAdd, Nat.reduceLeDiff, not_true_eq_false, not_false_eq_true, if_true, if_false, ite_true, ite_false, Int32.reduceLT, ite_not, eq_self, or_true, true_or, ite_self, reduceIte, e14n hMg g0]
      refine u_noG hMg hA fun w9 h9 => ?_
      simp +decide (disch := omega) only [↓EQA, CEA, LIA, NIA, Nat.lt_irrefl, Option.toList_some, Option.toList_none, List.cons_append, List.nil_append, true_and, and_true, Nat.reduceAdd, Nat.reduceLeDiff, not_true_eq_false, not_false_eq_true, if_true, if_false, ite_true, ite_false, Int32.reduceLT, ite_not, eq_self, or_true, true_or, ite_self, reduceIte]
      exact hK _ h9
theorem p_back (hI : IV w T D F) : PRI (d + 20) m_X10_back m_X11_back [.ref 0, .int x] [.ref 59, .int x] w := by
  obtain ⟨hZ, hP, ⟨c1, c2, c3⟩, hM0, ⟨n, m, A, B, hn, hm, i3, i4, i20, i21, hA, hB, hnm⟩, -⟩ := id hI
  have hz := hZ.2
  by_cases g : inR x m
  · obtain ⟨k, hk, rfl⟩ := inR_k g (by omega)
    have hH : 1 ≤ nH T := by
      rcases Nat.eq_zero_or_pos (nH T) with z | z
      · have := (hnm z).2; omega
      · exact z
    obtain ⟨d1, d2, d3⟩ := hB k hk
    have hk0 : (nI k < 0) = False := neg_f (by omega)
    intro Q hQ
    refine Cl_of k_X10_back.1 (Nat.le_of_ble_eq_true rfl) (show Wp m_X10_back _ 0 _ 0 [.ref 0, .int (nI k)] [] _ from S_X10_back_0 _ _ _ ?_)
    simp +decide (disch := omega) only [↓EQA, CEA, LIA, NIA, Nat.lt_irrefl, Option.toList_some, Option.toList_none, List.cons_append, List.nil_append, true_and, and_true, Nat.reduceAdd, Nat.reduceLeDiff, not_true_eq_false, not_false_eq_true, if_true, if_false, ite_true, ite_false, Int32.reduceLT, ite_not, eq_self, or_true, true_or, ite_self, reduceIte, B_X10_back_0, hk0, i4, hk]
    refine t_goBackTo (ra := 0) i4 hk hm d2 d1.1.rok c2.2.2.1 fun wc hac k3 hCc => ?_
    simp +decide (disch := omega) only [↓EQA, CEA, LIA, NIA, Nat.lt_irrefl, Option.toList_some, Option.toList_none, List.cons_append, List.nil_append, true_and, and_true, Nat.reduceAdd, Nat.reduceLeDiff, not_true_eq_false, not_false_eq_true, if_true, if_false, ite_true, ite_false, Int32.reduceLT, ite_not, eq_self, or_true, true_or, ite_self, reduceIte]
    refine t_done ?_
    rw [show bI ((0 : Int32) = 0) = 1 by decide]
    simp +decide (disch := omega) only [↓EQA, CEA, LIA, NIA, Nat.lt_irrefl, Option.toList_some, Option.toList_none, List.cons_append, List.nil_append, true_and, and_true, Nat.reduceAdd, Nat.reduceLeDiff, not_true_eq_false, not_false_eq_true, if_true, if_false, ite_true, ite_false, Int32.reduceLT, ite_not, eq_self, or_true, true_or, ite_self, reduceIte]
    have h1 : Ag (fun j i => (j = 0 ∧ i = 13) ∨ j = 16 ∨ j = 17 ∨ (j = 56 ∧ i = 3)) w (wI wc 0 13 0) := (hac.wk fun j i z => by omega).wI (Or.inl ⟨rfl, rfl⟩)
    have ht1 : (wI wc 0 13 0).1 0 13 = 0 := by simp [wI]
    have hC1 : RC (wI wc 0 13 0) 16 17 (RS (B k)) := hCc
    have a1 : (wI wc 0 13 0).1 56 3 = nI 0 := by rw [wI_ne (by decide)]; exact k3
    generalize wI wc 0 13 0 = w1 at h1 ht1 hC1 a1 ⊢
    refine hQ 1 w1 fun K hK => ?_
    have hM1 : IMd w1 T D F := hM0.ag h1 (fun i z => by omega) (fun i z => by omega) (by omega) (by rw [(h1 59 22 (by omega)).1]; exact hM0.2.2.2.1)
    refine Cl_of k_X11_back.1 (Nat.le_of_ble_eq_true rfl) (show Wp m_X11_back _ 0 _ 0 [.ref 59, .int (nI k)] [] _ from S_X11_back_0 _ _ _ ?_)
    simp +decide (disch := omega) only [↓EQA, CEA, LIA, NIA, Nat.lt_irrefl, Option.toList_some, Option.toList_none, List.cons_append, List.nil_append, true_and, and_true, Nat.reduceAdd, Nat.reduceLeDiff, not_true_eq_false, not_false_eq_true, if_true, if_false, ite_true, ite_false, Int32.reduceLT, ite_not, eq_self, or_true, true_or, ite_self, reduceIte, B_X11_back_0]
    refine u_goodH hM1 fun wg hMg hg h11 => ?_
    have r21 : wg.1 59 21 = nI m := by rw [(hg 59 21 (by omega)).1, (h1 59 21 (by omega)).1]; exact i21
    simp +decide (disch := omega) only [↓EQA, CEA, LIA, NIA, Nat.lt_irrefl, Option.toList_some, Option.toList_none, List.cons_append, List.nil_append, true_and, and_true, Nat.reduceAdd, Nat.reduceLeDiff, not_true_eq_false, not_false_eq_true, if_true, if_false, ite_true, ite_false, Int32.reduceLT, ite_not, eq_self, or_true, true_or, ite_self, reduceIte, r21]
    refine u_in ?_
    rw [show bI (¬ nI k < 0 ∧ ¬ nI m - 1 < nI k) = 1 from if_pos ((inR_in (by omega)).mpr g)]
    have e8 : (8 : Int32) * nI k = nI (8 * k) := nI_mul 8 k
    simp +decide (disch := omega) only [↓EQA, CEA, LIA, NIA, Nat.lt_irrefl, Option.toList_some, Option.toList_none, List.cons_append, List.nil_append, true_and, and_true, Nat.reduceAdd, Nat.reduceLeDiff, not_true_eq_false, not_false_eq_true, if_true, if_false, ite_true, ite_false, Int32.reduceLT, ite_not, eq_self, or_true, true_or, ite_self, reduceIte, e8]
    refine u_copy (a := 66) (b := 64) (p := 8 * k) (q := 0) (n := 8) (na := 24) (nb := 8) rfl rfl (by decide) (by omega) (by decide) (by decide) (by decide) fun w2 ha2 hc2 => ?_
    simp +decide (disch := omega) only [↓EQA, CEA, LIA, NIA, Nat.lt_irrefl, Option.toList_some, Option.toList_none, List.cons_append, List.nil_append, true_and, and_true, Nat.reduceAdd, Nat.reduceLeDiff, not_true_eq_false, not_false_eq_true, if_true, if_false, ite_true, ite_false, Int32.reduceLT, ite_not, eq_self, or_true, true_or, ite_self, reduceIte]
    have hx : Ag (fun j i => j = 64 ∨ (j = 59 ∧ (i = 0 ∨ i = 11 ∨ i = 20))) w1 (wI w2 59 20 0) := ((hg.wk fun j i z => by omega).tr (ha2.wk fun j i z => by omega)).wI (Or.inr ⟨rfl, Or.inr (Or.inr rfl)⟩)
    refine hK _ (hI.new (n' := 0) (m' := m) (A' := A) (B' := B) (D' := B k) (w1 := w1) hH (h1.wk fun j i z => by omega) (hx.wk fun j i z => by omega) ht1 ?_ (by decide) ?_ hC1 (fun q hq => ?_) d1 (by omega) hm a1 (by rw [(h1 56 4 (by omega)).1]; exact i4) (by simp [wI]; rfl) ?_ (fun i hi => absurd hi (Nat.not_lt_zero _)) (fun i hi => ⟨(hB i hi).1, by rw [(h1 58 i (by omega)).2]; exact (hB i hi).2.1, fun q hq => ?_⟩))
    · have : w2.1 59 11 = 0 := by rw [(ha2 59 11 (by omega)).1]; exact h11
      rw [← this]; simp [wI]
    · rw [(hx 59 22 (by omega)).1]; exact hM1.2.2.2.1
    · have := hc2 q hq
      rw [Nat.zero_add, (hg 66 _ (by omega)).1, (h1 66 _ (by omega)).1, d3 q hq] at this
      rw [wI_ne (by decide)]; exact this
    · rw [(hx 59 21 (by omega)).1, (h1 59 21 (by omega)).1]; exact i21
    · rw [(hx 66 _ (by omega)).1, (h1 66 _ (by omega)).1]; exact (hB i hi).2.2 q hq
  · refine askK (v := 0) (tr := 1) hI (by decide) (fun Q hQ => ?_) (fun w1 K hM h1 hK => ?_)
    · have fin : B_X10_back_J1 (d + 19) 0 Q [.ref 0, .int x] [] w := by
        simp +decide (disch := omega) only [↓EQA, CEA, LIA, NIA, Nat.lt_irrefl, Option.toList_some, Option.toList_none, List.cons_append, List.nil_append, true_and, and_true, Nat.reduceAdd, Nat.reduceLeDiff, not_true_eq_false, not_false_eq_true, if_true, if_false, ite_true, ite_false, Int32.reduceLT, ite_not, eq_self, or_true, true_or, ite_self, reduceIte, B_X10_back_J1]
        refine t_doneG Ag.rf c3 fun w9 h9 => ?_
        rw [show bI ((1 : Int32) = 0) = 0 by decide]
        simp +decide (disch := omega) only [↓EQA, CEA, LIA, NIA, Nat.lt_irrefl, Option.toList_some, Option.toList_none, List.cons_append, List.nil_append, true_and, and_true, Nat.reduceAdd, Nat.reduceLeDiff, not_true_eq_false, not_false_eq_true, if_true, if_false, ite_true, ite_false, Int32.reduceLT, ite_not, eq_self, or_true, true_or, ite_self, reduceIte]
        exact hQ _ h9
      refine Cl_of k_X10_back.1 (Nat.le_of_ble_eq_true rfl) (show Wp m_X10_back _ 0 _ 0 [.ref 0, .int x] [] _ from S_X10_back_0 _ _ _ ?_)
      simp +decide (disch := omega) only [↓EQA, CEA, LIA, NIA, Nat.lt_irrefl, Option.toList_some, Option.toList_none, List.cons_append, List.nil_append, true_and, and_true, Nat.reduceAdd, Nat.reduceLeDiff, not_true_eq_false, not_false_eq_true, if_true, if_false, ite_true, ite_false, Int32.reduceLT, ite_not, eq_self, or_true, true_or, ite_self, reduceIte, B_X10_back_0, i4]
      by_cases q : x < 0
      · rw [if_pos q]; exact fin
      · rw [if_neg q, if_neg (fun z => g ⟨q, z⟩)]; exact fin
    · refine Cl_of k_X11_back.1 (Nat.le_of_ble_eq_true rfl) (show Wp m_X11_back _ 0 _ 0 [.ref 59, .int x] [] _ from S_X11_back_0 _ _ _ ?_)
      simp +decide (disch := omega) only [↓EQA, CEA, LIA, NIA, Nat.lt_irrefl, Option.toList_some, Option.toList_none, List.cons_append, List.nil_append, true_and, and_true, Nat.reduceAdd, Nat.reduceLeDiff, not_true_eq_false, not_false_eq_true, if_true, if_false, ite_true, ite_false, Int32.reduceLT, ite_not, eq_self, or_true, true_or, ite_self, reduceIte, B_X11_back_0]
      refine u_goodH hM fun wg hMg hg h11 => ?_
      have r21 : wg.1 59 21 = nI m := by rw [(hg 59 21 (by omega)).1, (h1 59 21 (by omega)).1]; exact i21
      simp +decide (disch := omega) only [↓EQA, CEA, LIA, NIA, Nat.lt_irrefl, Option.toList_some, Option.toList_none, List.cons_append, List.nil_append, true_and, and_true, Nat.reduceAdd, Nat.reduceLeDiff, not_true_eq_false, not_false_eq_true, if_true, if_false, ite_true, ite_false, Int32.reduceLT, ite_not, eq_self, or_true, true_or, ite_self, reduceIte, r21]
      refine u_in ?_
      rw [show bI (¬ x < 0 ∧ ¬ nI m - 1 < x) = 0 from if_neg fun z => g ((inR_in (by omega)).mp z)]
      simp +decide (disch := omega) only [↓EQA, CEA, LIA, NIA, Nat.lt_irrefl, Option.toList_some, Option.toList_none, List.cons_append, List.nil_append, true_and, and_true, Nat.reduceAdd, Nat.reduceLeDiff, not_true_eq_false, not_false_eq_true, if_true, if_false, ite_true, ite_false, Int32.reduceLT, ite_not, eq_self, or_true, true_or, ite_self, reduceIte]
      refine u_isNotG hMg (hg.wk fun j i z => by omega) fun w9 h9 => ?_
      simp +decide (disch := omega) only [↓EQA, CEA, LIA, NIA, Nat.lt_irrefl, Option.toList_some, Option.toList_none, List.cons_append, List.nil_append, true_and, and_true, Nat.reduceAdd, Nat.reduceLeDiff, not_true_eq_false, not_false_eq_true, if_true, if_false, ite_true, ite_false, Int32.reduceLT, ite_not, eq_self, or_true, true_or, ite_self, reduceIte]
      exact hK _ h9
end Acts4
