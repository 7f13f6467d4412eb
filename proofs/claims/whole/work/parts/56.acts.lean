/-! ===== acts: what stood ahead is kept ===== -/
def nxN (n : Nat) : Nat := if n < 16 then n + 1 else 16
def nxA (n : Nat) (A : Nat → Nat → Nat) (D : Nat → Nat) : Nat → Nat → Nat := fun i => if n < 16 then (if i = n then D else A i) else (if i = 15 then D else A (i + 1))
section Acts
variable {d : Nat} {w wg w1 w2 : Mem} {Q : Option Value → Mem → Prop} {T : Tv} {D D' F : Nat → Nat} {x y : Int32} {n m n' m' k : Nat} {A A' B B' : Nat → Nat → Nat}
theorem t_keepG (hn : n ≤ 16) (h3 : w.1 56 3 = nI n) (hK : ∀ i, i < n → w.2 57 i = lN (pkN (RS (A i)))) (hC : RC w 16 17 (RS D)) (hD : DOK D) (hQ : ∀ w', Ag (fun j i => j = 57 ∨ (j = 56 ∧ i = 3)) w w' → w'.1 56 3 = nI (nxN n) → (∀ i, i < nxN n → w'.2 57 i = lN (pkN (RS (nxA n A D i)))) → Q none w') : Cl (d + 2) m_X1_keepAct [.ref 56] w Q := by
  by_cases q : n < 16
  · refine t_keepAct1 h3 q hC hD.rok ?_
    refine hQ _ ((Ag.rf.wL (Or.inl rfl)).wI (Or.inr ⟨rfl, rfl⟩)) (by unfold nxN; rw [if_pos q]; simp [wI]) fun i hi => ?_
    unfold nxN at hi
    rw [if_pos q] at hi
    unfold nxA
    rw [if_pos q]
    show (if 57 = 57 ∧ i = n then lN (pkN (RS D)) else w.2 57 i) = _
    by_cases e : i = n
    · rw [if_pos ⟨rfl, e⟩, if_pos e]
    · rw [if_neg (fun z => e z.2), if_neg e]; exact hK i (by omega)
  · have e16 : n = 16 := by omega
    subst e16
    refine t_keepAct2 h3 hC hD.rok fun w' ha g3 g1 g2 => hQ w' ha g3 fun i hi => ?_
    have hi16 : i < 16 := hi
    unfold nxA
    rw [if_neg (by decide)]
    by_cases e : i = 15
    · rw [if_pos e, e]; exact g2
    · rw [if_neg e, g1 i (by omega)]; exact hK (i + 1) (by omega)
theorem u_noteG (hn : n ≤ 16) (h3 : w.1 59 20 = nI n) (hK : ∀ i, i < n → ∀ q, q < 8 → w.1 65 (8 * i + q) = nI (A i q)) (hR : MR w 64 D) (hQ : ∀ w', Ag (fun j i => j = 65 ∨ (j = 59 ∧ i = 20)) w w' → w'.1 59 20 = nI (nxN n) → (∀ i, i < nxN n → ∀ q, q < 8 → w'.1 65 (8 * i + q) = nI (nxA n A D i q)) → Q none w') : Cl (d + 2) m_X11_note [.ref 59] w Q := by
  -- the copy at the end, to the row r
  have fin : ∀ r w1 (v : Value), r < 16 → Ag (fun j i => j = 65 ∨ (j = 59 ∧ i = 20)) w w1 → w1.1 59 20 = nI r → r + 1 = nxN n → (∀ i, i < r → ∀ q, q < 8 → w1.1 65 (8 * i + q) = nI (nxA n A D i q)) → nxA n A D r = D → B_X11_note_J1 (d + 1) 0 Q [.ref 59, v] [] w1 := by
    intro r w1 v hr ha g20 hrn g65 hrD
    have hR1 := hR.ag ha (fun i z => by omega)
    have e8 : (8 : Int32) * nI r = nI (8 * r) := nI_mul 8 r
    simp +decide (disch := omega) only [↓EQA, CEA, LIA, NIA, Nat.lt_irrefl, Option.toList_some, Option.toList_none, List.cons_append, List.nil_append, true_and, and_true, Nat.reduceAdd, Nat.reduceLeDiff, not_true_eq_false, not_false_eq_true, if_true, if_false, ite_true, ite_false, Int32.reduceLT, ite_not, eq_self, or_true, true_or, ite_self, reduceIte, B_X11_note_J1, g20, e8]
    refine u_copy (a := 64) (b := 65) (p := 0) (q := 8 * r) (n := 8) (na := 8) (nb := 128) rfl rfl (by decide) (by decide) (by omega) (by decide) (by decide) fun w2 ha2 hc2 => ?_
    have k20 : w2.1 59 20 = nI r := by rw [(ha2 59 20 (by omega)).1]; exact g20
    simp +decide (disch := omega) only [↓EQA, CEA, LIA, NIA, Nat.lt_irrefl, Option.toList_some, Option.toList_none, List.cons_append, List.nil_append, true_and, and_true, Nat.reduceAdd, Nat.reduceLeDiff, not_true_eq_false, not_false_eq_true, if_true, if_false, ite_true, ite_false, Int32.reduceLT, ite_not, eq_self, or_true, true_or, ite_self, reduceIte, k20, nI_1]
    refine hQ _ ((ha.tr (ha2.wk fun j i z => Or.inl z.1)).wI (Or.inr ⟨rfl, rfl⟩)) (by rw [← hrn]; simp [wI]) fun i hi q hq => ?_
    rw [wI_ne (by decide)]
    by_cases e : i = r
    · subst e
      rw [hc2 q hq, Nat.zero_add, hR1 q hq, hrD]
    · rw [(ha2 65 _ (by omega)).1]; exact g65 i (by omega) q hq
  refine Cl_of k_X11_note.1 (Nat.le_of_ble_eq_true rfl) (show Wp m_X11_note _ 0 _ 0 [.ref 59, .null] [] _ from S_X11_note_0 _ _ _ ?_)
  by_cases q : n < 16
  · have ne : ¬ n = 16 := by omega
    simp +decide (disch := omega) only [↓EQA, CEA, LIA, NIA, Nat.lt_irrefl, Option.toList_some, Option.toList_none, List.cons_append, List.nil_append, true_and, and_true, Nat.reduceAdd, Nat.reduceLeDiff, not_true_eq_false, not_false_eq_true, if_true, if_false, ite_true, ite_false, Int32.reduceLT, ite_not, eq_self, or_true, true_or, ite_self, reduceIte, B_X11_note_0, h3, ne]
    refine fin n w _ q Ag.rf h3 (by unfold nxN; rw [if_pos q]) (fun i hi q' hq' => ?_) ?_
    · unfold nxA; rw [if_pos q, if_neg (by omega)]; exact hK i hi q' hq'
    · unfold nxA; rw [if_pos q, if_pos rfl]
  · have e16 : n = 16 := by omega
    subst e16
    simp +decide (disch := omega) only [↓EQA, CEA, LIA, NIA, Nat.lt_irrefl, Option.toList_some, Option.toList_none, List.cons_append, List.nil_append, true_and, and_true, Nat.reduceAdd, Nat.reduceLeDiff, not_true_eq_false, not_false_eq_true, if_true, if_false, ite_true, ite_false, Int32.reduceLT, ite_not, eq_self, or_true, true_or, ite_self, reduceIte, B_X11_note_0, h3]
    have key : ∀ m j, j + m = 120 → ∀ w1, Ag (fun j i => j = 65 ∨ (j = 59 ∧ i = 20)) w w1 → w1.1 59 20 = nI 16 → (∀ i, i < j → w1.1 65 i = w.1 65 (i + 8)) → (∀ i, j ≤ i → w1.1 65 i = w.1 65 i) → Wp m_X11_note (d + 1) 0 Q 11 [.ref 59, .int (nI j)] [] w1 := by
      intro m
      induction m with
      | zero =>
        intro j hj w1 ha g20 g1 g2
        have : j = 120 := by omega
        subst this
        have e120 : (nI 120 < 120) = False := by decide
        have e15 : nI 16 - 1 = nI 15 := by decide
        refine S_X11_note_L1 _ _ _ ?_
        simp +decide (disch := omega) only [↓EQA, CEA, LIA, NIA, Nat.lt_irrefl, Option.toList_some, Option.toList_none, List.cons_append, List.nil_append, true_and, and_true, Nat.reduceAdd, Nat.reduceLeDiff, not_true_eq_false, not_false_eq_true, if_true, if_false, ite_true, ite_false, Int32.reduceLT, ite_not, eq_self, or_true, true_or, ite_self, reduceIte, B_X11_note_L1, e120, g20, e15]
        refine fin 15 _ _ (by decide) (ha.wI (Or.inr ⟨rfl, rfl⟩)) (by simp [wI]) (by decide) (fun i hi q' hq' => ?_) ?_
        · rw [wI_ne (by decide), g1 (8 * i + q') (by omega), show 8 * i + q' + 8 = 8 * (i + 1) + q' by omega, hK (i + 1) (by omega) q' hq']
          unfold nxA; rw [if_neg (by decide), if_neg (by omega)]
        · unfold nxA; rw [if_neg (by decide), if_pos rfl]
      | succ m ih =>
        intro j hj w1 ha g20 g1 g2
        have hj1 : j < 120 := by omega
        have hj2 : j < 128 := by omega
        have hj3 : j + 8 < 128 := by omega
        have e120 : (nI j < 120) = True := eq_true (nI_lt (b := 120) hj1 (by decide))
        have r8 : w1.1 65 (j + 8) = w.1 65 (j + 8) := g2 _ (by omega)
        have e8 : nI j + 8 = nI (j + 8) := nI_add j 8
        refine S_X11_note_L1 _ _ _ ?_
        simp +decide (disch := omega) only [↓EQA, CEA, LIA, NIA, Nat.lt_irrefl, Option.toList_some, Option.toList_none, List.cons_append, List.nil_append, true_and, and_true, Nat.reduceAdd, Nat.reduceLeDiff, not_true_eq_false, not_false_eq_true, if_true, if_false, ite_true, ite_false, Int32.reduceLT, ite_not, eq_self, or_true, true_or, ite_self, reduceIte, B_X11_note_L1, e120, e8, hj2, hj3, r8]
        refine ih (j + 1) (by omega) _ (ha.wI (Or.inl rfl)) (by rw [← g20]; simp [wI]) (fun i hi => ?_) (fun i hi => ?_)
        · rw [wI_get]
          by_cases e : i = j
          · rw [if_pos ⟨rfl, e⟩, e]
          · rw [if_neg (fun z => e z.2)]; exact g1 i (by omega)
        · rw [wI_get, if_neg (by omega)]; exact g2 i (by omega)
    exact key 120 0 (by omega) w Ag.rf h3 (fun i hi => absurd hi (Nat.not_lt_zero _)) fun i _ => rfl
abbrev ACc : Nat → Nat → Prop := fun j i => (j = 0 ∧ i = 13) ∨ j = 16 ∨ j = 17 ∨ (56 ≤ j ∧ j ≤ 58)
abbrev ACm : Nat → Nat → Prop := fun j i => (j = 59 ∧ (i = 0 ∨ i = 11 ∨ i = 20 ∨ i = 21 ∨ i = 22)) ∨ (64 ≤ j ∧ j ≤ 66)
theorem IV.new {tr : Int32} (hI : IV w T D F) (hH : 1 ≤ nH T) (h1 : Ag ACc w w1) (h2 : Ag ACm w1 w2) (ht1 : w1.1 0 13 = tr) (ht2 : w2.1 59 11 = tr) (h4 : ¬ tr = 4) (hd : w2.1 59 22 = 0) (hC : RC w1 16 17 (RS D')) (hR : MR w2 64 D') (hD' : DOKT T D') (hn : n' ≤ 16) (hm : m' ≤ 3) (a1 : w1.1 56 3 = nI n') (a2 : w1.1 56 4 = nI m') (a3 : w2.1 59 20 = nI n') (a4 : w2.1 59 21 = nI m') (a5 : ∀ i, i < n' → DOKT T (A' i) ∧ w1.2 57 i = lN (pkN (RS (A' i))) ∧ ∀ q, q < 8 → w2.1 65 (8 * i + q) = nI (A' i q)) (a6 : ∀ i, i < m' → DOKT T (B' i) ∧ w1.2 58 i = lN (pkN (RS (B' i))) ∧ ∀ q, q < 8 → w2.1 66 (8 * i + q) = nI (B' i q)) : INV w2 := by
  obtain ⟨hZ, hP, ⟨c1, c2, c3⟩, ⟨m1, m2, m3, m4, m5, m6⟩, -, ⟨t, t1, t2, t3, t4⟩, f1, f2, f3⟩ := hI
  have ha : Ag (fun j i => ACc j i ∨ ACm j i) w w2 := (h1.wk fun j i z => Or.inl z).tr (h2.wk fun j i z => Or.inr z)
  have g : ∀ j i, ¬ (ACc j i ∨ ACm j i) → w2.1 j i = w.1 j i := fun j i z => (ha j i z).1
  have hU := hP.pu hH
  have hU' : PU T D' F := ⟨hU.1, hU.2.1, hD'.1, hD'.2.1, hD'.2.2.1, hD'.2.2.2, hU.2.2.2.2.2.2⟩
  refine ⟨T, D', F, hZ, Or.inl ⟨hH, hU'⟩, ⟨c1.ag ha (fun a b p q z => by omega), hC.ag h2 (fun i z => by omega) (fun i z => by omega), c3.ag ha (fun i _ z => by omega) (fun i z => by omega)⟩, ⟨m1.ag ha (fun i z => by omega), m2.ag ha (fun i z => by omega), hR, hd, by rw [g 59 14 (by omega)]; exact m5, fun l hl => by rw [g 62 _ (by omega)]; exact m6 l hl⟩, ⟨n', m', A', B', hn, hm, by rw [(h2 56 3 (by omega)).1]; exact a1, by rw [(h2 56 4 (by omega)).1]; exact a2, a3, a4, fun i hi => ⟨(a5 i hi).1, by rw [(h2 57 i (by omega)).2]; exact (a5 i hi).2.1, (a5 i hi).2.2⟩, fun i hi => ⟨(a6 i hi).1, by rw [(h2 58 i (by omega)).2]; exact (a6 i hi).2.1, (a6 i hi).2.2⟩, fun z => absurd z (by omega)⟩, ⟨t, t1, by rw [g 0 1 (by omega)]; exact t2, by rw [g 59 2 (by omega)]; exact t3, fun i hi => by rw [g 60 i (by omega), g 1 i (by omega)]; exact t4 i hi⟩, by rw [g 0 11 (by omega), g 59 9 (by omega)]; exact f1, ?_, fun z => ?_⟩
  · rw [ht2, (h2 0 13 (by omega)).1, ht1]
  · rw [(h2 0 13 (by omega)).1, ht1] at z; exact absurd z h4
theorem nxA_ok {i : Nat} (hn : n ≤ 16) (hA : ∀ i, i < n → DOKT T (A i)) (hD : DOKT T D) (hi : i < nxN n) : DOKT T (nxA n A D i) := by
  unfold nxN at hi
  unfold nxA
  by_cases q : n < 16
  · rw [if_pos q] at hi ⊢
    by_cases e : i = n
    · rw [if_pos e]; exact hD
    · rw [if_neg e]; exact hA i (by omega)
  · rw [if_neg q] at hi ⊢
    by_cases e : i = 15
    · rw [if_pos e]; exact hD
    · rw [if_neg e]; exact hA (i + 1) (by omega)
theorem nxN_le : nxN n ≤ 16 := by unfold nxN; split <;> omega
/-- an act that is done: the class keeps and changes, the reference notes and changes -/
theorem IV.act {p : Nat} {l : Nat} {tr : Int32} (hI : IV w T D F) (hH : 1 ≤ nH T) (hl : l < 8) (hD' : DOKT T (updD D l p)) (hn : n ≤ 16) (hm : m ≤ 3) (hA : KRow w T 57 65 n A) (hB : KRow w T 58 66 m B) (i4 : w.1 56 4 = nI m) (i21 : w.1 59 21 = nI m) (h1 : Ag (fun j i => (j = 0 ∧ i = 13) ∨ j = 16 ∨ j = 17 ∨ j = 57 ∨ (j = 56 ∧ i = 3)) w w1) (ht1 : w1.1 0 13 = 0) (hC : RC w1 16 17 (RS (updD D l p))) (a1 : w1.1 56 3 = nI (nxN n)) (a5 : ∀ i, i < nxN n → w1.2 57 i = lN (pkN (RS (nxA n A D i)))) (hg : Ag (fun j i => j = 59 ∧ (i = 0 ∨ i = 11)) w1 wg) (h11 : wg.1 59 11 = 0) (h2 : Ag (fun j i => j = 65 ∨ (j = 59 ∧ i = 20)) wg w2) (a3 : w2.1 59 20 = nI (nxN n)) (a6 : ∀ i, i < nxN n → ∀ q, q < 8 → w2.1 65 (8 * i + q) = nI (nxA n A D i q)) : INV (wI w2 64 l (nI p)) := by
  have hU := (hI.2.1).pu hH
  obtain ⟨hZ, hP, ⟨c1, c2, c3⟩, ⟨m1, m2, m3, m4, m5, m6⟩, -⟩ := id hI
  have hx : Ag ACm w1 (wI w2 64 l (nI p)) := ((hg.wk fun j i z => by omega).tr (h2.wk fun j i z => by omega)).wI (Or.inr ⟨by decide, by decide⟩)
  have q22 : (wI w2 64 l (nI p)).1 59 22 = 0 := by rw [wI_ne (by decide), (h2 59 22 (by omega)).1, (hg 59 22 (by omega)).1, (h1 59 22 (by omega)).1]; exact m4
  have q11 : (wI w2 64 l (nI p)).1 59 11 = 0 := by rw [wI_ne (by decide), (h2 59 11 (by omega)).1]; exact h11
  have hDT : DOKT T D := ⟨hU.2.2.1, hU.2.2.2.1, hU.2.2.2.2.1, hU.2.2.2.2.2.1⟩
  refine hI.new (n' := nxN n) (m' := m) (A' := nxA n A D) (B' := B) (D' := updD D l p) (w1 := w1) hH (h1.wk fun j i z => by omega) hx ht1 q11 (by decide) q22 hC (fun q hq => ?_) hD' nxN_le hm a1 (by rw [(h1 56 4 (by omega)).1]; exact i4) (by rw [wI_ne (by decide)]; exact a3) (by rw [wI_ne (by decide), (h2 59 21 (by omega)).1, (hg 59 21 (by omega)).1, (h1 59 21 (by omega)).1]; exact i21) (fun i hi => ⟨nxA_ok hn (fun i hi => (hA i hi).1) hDT hi, a5 i hi, fun q hq => by rw [wI_ne (by decide)]; exact a6 i hi q hq⟩) (fun i hi => ⟨(hB i hi).1, by rw [(h1 58 i (by omega)).2]; exact (hB i hi).2.1, fun q hq => by rw [wI_ne (by decide), (h2 66 _ (by omega)).1, (hg 66 _ (by omega)).1, (h1 66 _ (by omega)).1]; exact (hB i hi).2.2 q hq⟩)
  rw [wI_get]
  unfold updD
  by_cases e : q = l
  · rw [if_pos ⟨rfl, e⟩, if_pos e]
  · rw [if_neg (fun z => e z.2), if_neg e, (h2 64 q (by omega)).1, (hg 64 q (by omega)).1, (h1 64 q (by omega)).1]; exact m3 q hq
/-- the reference's good, with its frame -/
theorem u_goodH (hM : IMd w1 T D F) (hQ : ∀ wg, IMd wg T D F → Ag (fun j i => j = 59 ∧ (i = 0 ∨ i = 11)) w1 wg → wg.1 59 11 = 0 → Q none wg) : Cl (d + 1) m_X11_good [.ref 59] w1 Q := by
  have ha : Ag (fun j i => j = 59 ∧ (i = 0 ∨ i = 11)) w1 (wI (wI w1 59 0 0) 59 11 0) := (Ag.rf.wI ⟨rfl, Or.inl rfl⟩).wI ⟨rfl, Or.inr rfl⟩
  exact u_good (hQ _ (hM.ag ha (fun i z => by omega) (fun i z => by omega) (by omega) (by rw [(ha 59 22 (by omega)).1]; exact hM.2.2.2.1)) ha (by simp [wI]))
end Acts
