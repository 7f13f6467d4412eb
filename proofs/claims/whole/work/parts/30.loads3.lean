/-! ===== swaps; totals by crews; the rank by a load; what is better ===== -/
theorem fld_inv {α : Type} {f : Nat → α → α} {n : Nat} {a : α} (P : α → Prop) (hf : ∀ j a, P a → P (f j a)) (h : P a) : P (fld f n a) := by
  induction n with
  | zero => exact h
  | succ n ih => exact hf n _ ih
def swD (D : Nat → Nat) (l m : Nat) : Nat → Nat := updD (updD D l (D m)) m (D l)
theorem swD_same {D : Nat → Nat} {l m : Nat} (h : D l = D m) : swD D l m = D := by
  funext i
  unfold swD updD
  split
  · next q => rw [q, h]
  · split
    · next q => rw [q, h]
    · rfl
def swS (T : Tv) (D : Nat → Nat) (h l m : Nat) (a : Int32 × Int32) : Int32 × Int32 := if D l = D m then a else if TO T (VC (RS (swD D l m))) h < a.2 then (nI (10 * l + m), TO T (VC (RS (swD D l m))) h) else a
def swR (T : Tv) (D : Nat → Nat) (h l : Nat) (a : Int32 × Int32) : Int32 × Int32 := fld (fun i a => swS T D h l (l + 1 + i) a) (nL T - (l + 1)) a
def swF (T : Tv) (D : Nat → Nat) (h : Nat) : Int32 × Int32 := fld (swR T D h) (nL T) (-2, TO T (VC (RS D)) h)
theorem swS_inv {T : Tv} {D : Nat → Nat} {h l m : Nat} {X : Int32} {a : Int32 × Int32} (ha : ¬ X < a.2) : ¬ X < (swS T D h l m a).2 := by
  unfold swS
  split
  · exact ha
  · split
    · next q => exact fun z => ha (Int32.lt_trans z q)
    · exact ha
theorem swR_inv {T : Tv} {D : Nat → Nat} {h l n : Nat} {X : Int32} {a : Int32 × Int32} (ha : ¬ X < a.2) : ¬ X < (fld (fun i a => swS T D h l (l + 1 + i) a) n a).2 := fld_inv (fun a : Int32 × Int32 => ¬ X < a.2) (fun i a hia => swS_inv hia) ha
theorem swO_inv {T : Tv} {D : Nat → Nat} {h n : Nat} {X : Int32} {a : Int32 × Int32} (ha : ¬ X < a.2) : ¬ X < (fld (swR T D h) n a).2 := fld_inv (fun a : Int32 × Int32 => ¬ X < a.2) (fun j a hja => swR_inv hja) ha
section Loads3
variable {d : Nat} {w : Mem} {Q : Option Value → Mem → Prop} {T : Tv} {D : Nat → Nat} {R : Rc} {k c n h l r : Nat}
theorem t_twoToSwap (hT : Told w T) (hZ : SZ T) (hC : RC w 16 17 (RS D)) (hO : DOK D) (hD : DH T D) (hh : h < 4) (hQ : ∀ w', Ag TrP w w' → Q (some (.int (swF T D h).1)) w') : Cl (d + 5) m_X2_twoToSwap [.ref 45, .int (nI h)] w Q := by
  have hz := hZ.2
  have hR := hO.rok
  refine Cl_of k_X2_twoToSwap.1 (Nat.le_of_ble_eq_true rfl) (show Wp m_X2_twoToSwap _ 0 _ 0 [.ref 45, .int (nI h), .null, .null, .null, .null] [] _ from S_X2_twoToSwap_0 _ _ _ ?_)
  simp +decide (disch := omega) only [↓EQA, CEA, LIA, NIA, Nat.lt_irrefl, Option.toList_some, Option.toList_none, List.cons_append, List.nil_append, true_and, and_true, Nat.reduceAdd, Nat.reduceLeDiff, not_true_eq_false, not_false_eq_true, if_true, if_false, ite_true, ite_false, Int32.reduceLT, ite_not, eq_self, or_true, true_or, ite_self, reduceIte, B_X2_twoToSwap_0]
  refine t_wholeTime RK_now hT hZ (hC.rv hR) hh ?_
  simp +decide (disch := omega) only [↓EQA, CEA, LIA, NIA, Nat.lt_irrefl, Option.toList_some, Option.toList_none, List.cons_append, List.nil_append, true_and, and_true, Nat.reduceAdd, Nat.reduceLeDiff, not_true_eq_false, not_false_eq_true, if_true, if_false, ite_true, ite_false, Int32.reduceLT, ite_not, eq_self, or_true, true_or, ite_self, reduceIte]
  suffices key : ∀ w1 (v : Value), Ag TrP w w1 → Wp m_X2_twoToSwap (d + 4) 0 Q 15 [.ref 45, .int (nI h), .int (-2, TO T (VC (RS D)) h).1, .int (-2, TO T (VC (RS D)) h).2, .int (nI 0), v] [] w1 from key w .null Ag.rf
  refine fld_loop (f := swR T D h) (n := nL T) (a := (-2, TO T (VC (RS D)) h)) (fun l a => ∀ w1 (v : Value), Ag TrP w w1 → Wp m_X2_twoToSwap (d + 4) 0 Q 15 [.ref 45, .int (nI h), .int a.1, .int a.2, .int (nI l), v] [] w1) (fun l hl hd w1 v ha => ?_) (fun w1 v ha => ?_)
  · have hinv : ¬ TO T (VC (RS D)) h < (fld (swR T D h) l (-2, TO T (VC (RS D)) h)).2 := swO_inv (by dsimp only; exact Int32.lt_irrefl)
    generalize fld (swR T D h) l (-2, TO T (VC (RS D)) h) = a0 at hd hinv ⊢
    have hT1 : Told w1 T := hT.ag ha (fun a b p q z => by omega)
    refine S_X2_twoToSwap_L1 _ _ _ ?_
    simp +decide (disch := omega) only [↓EQA, CEA, LIA, NIA, Nat.lt_irrefl, Option.toList_some, Option.toList_none, List.cons_append, List.nil_append, true_and, and_true, Nat.reduceAdd, Nat.reduceLeDiff, not_true_eq_false, not_false_eq_true, if_true, if_false, ite_true, ite_false, Int32.reduceLT, ite_not, eq_self, or_true, true_or, ite_self, reduceIte, B_X2_twoToSwap_L1, hT1, hZ.1, hl]
    unfold swR at hd
    suffices key : ∀ w1, Ag TrP w w1 → Wp m_X2_twoToSwap (d + 4) 0 Q 36 [.ref 45, .int (nI h), .int a0.1, .int a0.2, .int (nI l), .int (nI (l + 1 + 0))] [] w1 from key w1 ha
    refine fld_loop (f := fun i a => swS T D h l (l + 1 + i) a) (n := nL T - (l + 1)) (a := a0) (fun i a => ∀ w1, Ag TrP w w1 → Wp m_X2_twoToSwap (d + 4) 0 Q 36 [.ref 45, .int (nI h), .int a.1, .int a.2, .int (nI l), .int (nI (l + 1 + i))] [] w1) (fun i hi he w1 ha => ?_) (fun w1 ha => ?_)
    · have hinv2 : ¬ TO T (VC (RS D)) h < (fld (fun i a => swS T D h l (l + 1 + i) a) i a0).2 := swR_inv hinv
      generalize fld (fun i a => swS T D h l (l + 1 + i) a) i a0 = a at he hinv2 ⊢
      obtain ⟨m, hm⟩ : ∃ m, l + 1 + i = m := ⟨_, rfl⟩
      rw [show l + 1 + (i + 1) = m + 1 by omega] at he
      rw [hm] at he ⊢
      have hmL : m < nL T := by omega
      have hm5 : m < 5 := by omega
      have hl5 : l < 5 := by omega
      have hT1 : Told w1 T := hT.ag ha (fun a b p q z => by omega)
      have hN1 : RC w1 16 17 (RS D) := hC.ag ha (fun i z => by omega) (fun i z => by omega)
      refine S_X2_twoToSwap_L2 _ _ _ ?_
      simp +decide (disch := omega) only [↓EQA, CEA, LIA, NIA, Nat.lt_irrefl, Option.toList_some, Option.toList_none, List.cons_append, List.nil_append, true_and, and_true, Nat.reduceAdd, Nat.reduceLeDiff, not_true_eq_false, not_false_eq_true, if_true, if_false, ite_true, ite_false, Int32.reduceLT, ite_not, eq_self, or_true, true_or, ite_self, reduceIte, B_X2_twoToSwap_L2, hT1, hZ.1, hmL]
      refine t_become RK_trial RK_now (by decide) hN1 fun w2 ha2 hC2 => ?_
      have hb2 : Ag TrP w w2 := ha.tr ha2
      have hT2 : Told w2 T := hT.ag hb2 (fun a b p q z => by omega)
      have hN2 : RC w2 16 17 (RS D) := hC.ag hb2 (fun i z => by omega) (fun i z => by omega)
      simp +decide (disch := omega) only [↓EQA, CEA, LIA, NIA, Nat.lt_irrefl, Option.toList_some, Option.toList_none, List.cons_append, List.nil_append, true_and, and_true, Nat.reduceAdd, Nat.reduceLeDiff, not_true_eq_false, not_false_eq_true, if_true, if_false, ite_true, ite_false, Int32.reduceLT, ite_not, eq_self, or_true, true_or, ite_self, reduceIte]
      refine t_placeD RK_now hT2 hZ hN2 hO hD hm5 ?_
      simp +decide (disch := omega) only [↓EQA, CEA, LIA, NIA, Nat.lt_irrefl, Option.toList_some, Option.toList_none, List.cons_append, List.nil_append, true_and, and_true, Nat.reduceAdd, Nat.reduceLeDiff, not_true_eq_false, not_false_eq_true, if_true, if_false, ite_true, ite_false, Int32.reduceLT, ite_not, eq_self, or_true, true_or, ite_self, reduceIte]
      refine t_putD RK_trial (by decide) hC2 hO hl5 (hO.1 m hm5) fun w3 ha3 hC3 => ?_
      have hb3 : Ag TrP w w3 := hb2.tr (ha3.wk fun j i z => Or.inr z)
      have hT3 : Told w3 T := hT.ag hb3 (fun a b p q z => by omega)
      have hN3 : RC w3 16 17 (RS D) := hC.ag hb3 (fun i z => by omega) (fun i z => by omega)
      simp +decide (disch := omega) only [↓EQA, CEA, LIA, NIA, Nat.lt_irrefl, Option.toList_some, Option.toList_none, List.cons_append, List.nil_append, true_and, and_true, Nat.reduceAdd, Nat.reduceLeDiff, not_true_eq_false, not_false_eq_true, if_true, if_false, ite_true, ite_false, Int32.reduceLT, ite_not, eq_self, or_true, true_or, ite_self, reduceIte]
      refine t_placeD RK_now hT3 hZ hN3 hO hD hl5 ?_
      simp +decide (disch := omega) only [↓EQA, CEA, LIA, NIA, Nat.lt_irrefl, Option.toList_some, Option.toList_none, List.cons_append, List.nil_append, true_and, and_true, Nat.reduceAdd, Nat.reduceLeDiff, not_true_eq_false, not_false_eq_true, if_true, if_false, ite_true, ite_false, Int32.reduceLT, ite_not, eq_self, or_true, true_or, ite_self, reduceIte]
      have hO3 := updD_ok (l := l) (p := D m) hO hl5 (hO.1 m hm5)
      refine t_putD RK_trial (by decide) hC3 hO3 hm5 (hO.1 l hl5) fun w4 ha4 hC4 => ?_
      have hb4 : Ag TrP w w4 := hb3.tr (ha4.wk fun j i z => Or.inr z)
      have hT4 : Told w4 T := hT.ag hb4 (fun a b p q z => by omega)
      have hO4 := updD_ok (l := m) (p := D l) hO3 hm5 (hO.1 l hl5)
      have hC5 : RC w4 18 19 (RS (swD D l m)) := hC4
      have hO5 : DOK (swD D l m) := hO4
      simp +decide (disch := omega) only [↓EQA, CEA, LIA, NIA, Nat.lt_irrefl, Option.toList_some, Option.toList_none, List.cons_append, List.nil_append, true_and, and_true, Nat.reduceAdd, Nat.reduceLeDiff, not_true_eq_false, not_false_eq_true, if_true, if_false, ite_true, ite_false, Int32.reduceLT, ite_not, eq_self, or_true, true_or, ite_self, reduceIte]
      refine t_wholeTime RK_trial hT4 hZ (hC5.rv hO5.rok) hh ?_
      have he2 := he w4 hb4
      unfold swS at he2
      simp +decide (disch := omega) only [↓EQA, CEA, LIA, NIA, Nat.lt_irrefl, Option.toList_some, Option.toList_none, List.cons_append, List.nil_append, true_and, and_true, Nat.reduceAdd, Nat.reduceLeDiff, not_true_eq_false, not_false_eq_true, if_true, if_false, ite_true, ite_false, Int32.reduceLT, ite_not, eq_self, or_true, true_or, ite_self, reduceIte, B_X2_twoToSwap_J1]
      by_cases q : D l = D m
      · rw [if_pos q] at he2
        rw [swD_same q, if_neg hinv2]
        exact he2
      · rw [if_neg q] at he2
        by_cases q2 : TO T (VC (RS (swD D l m))) h < a.2
        · rw [if_pos q2] at he2 ⊢
          refine t_wholeTime RK_trial hT4 hZ (hC5.rv hO5.rok) hh ?_
          have e10 : (10 : Int32) * nI l = nI (10 * l) := nI_mul 10 l
          simp +decide (disch := omega) only [↓EQA, CEA, LIA, NIA, Nat.lt_irrefl, Option.toList_some, Option.toList_none, List.cons_append, List.nil_append, true_and, and_true, Nat.reduceAdd, Nat.reduceLeDiff, not_true_eq_false, not_false_eq_true, if_true, if_false, ite_true, ite_false, Int32.reduceLT, ite_not, eq_self, or_true, true_or, ite_self, reduceIte, B_X2_twoToSwap_J1, e10, nI_add]
          exact he2
        · rw [if_neg q2] at he2 ⊢
          exact he2
    · have hT1 : Told w1 T := hT.ag ha (fun a b p q z => by omega)
      have e9 : l + 1 + (nL T - (l + 1)) = nL T := by omega
      rw [e9]
      refine S_X2_twoToSwap_L2 _ _ _ ?_
      simp +decide (disch := omega) only [↓EQA, CEA, LIA, NIA, Nat.lt_irrefl, Option.toList_some, Option.toList_none, List.cons_append, List.nil_append, true_and, and_true, Nat.reduceAdd, Nat.reduceLeDiff, not_true_eq_false, not_false_eq_true, if_true, if_false, ite_true, ite_false, Int32.reduceLT, ite_not, eq_self, or_true, true_or, ite_self, reduceIte, B_X2_twoToSwap_L2, hT1, hZ.1]
      exact hd w1 _ ha
  · have hT1 : Told w1 T := hT.ag ha (fun a b p q z => by omega)
    refine S_X2_twoToSwap_L1 _ _ _ ?_
    simp +decide (disch := omega) only [↓EQA, CEA, LIA, NIA, Nat.lt_irrefl, Option.toList_some, Option.toList_none, List.cons_append, List.nil_append, true_and, and_true, Nat.reduceAdd, Nat.reduceLeDiff, not_true_eq_false, not_false_eq_true, if_true, if_false, ite_true, ite_false, Int32.reduceLT, ite_not, eq_self, or_true, true_or, ite_self, reduceIte, B_X2_twoToSwap_L1, hT1, hZ.1]
    exact hQ w1 ha
theorem al47 (hh : h < 4) : aln 0 (47 + h) = 32 ∧ isA (47 + h) := by
  rcases (by omega : h = 0 ∨ h = 1 ∨ h = 2 ∨ h = 3) with rfl | rfl | rfl | rfl <;> exact ⟨rfl, _, _, rfl⟩
theorem t_measure {R1 : Nat → Nat} (hT : Told w T) (hZ : SZ T) (hC : RC w 18 19 (R1, R.2)) (h1 : ∀ g, g < 4 → R1 g < 32) (hR : ROK R) (hh : h < 4) (hQ : ∀ w' R1', Ag (fun j _ => j = 19 ∨ j = 47 + h) w w' → RC w' 18 19 (R1', R.2) → (∀ g, g < 4 → R1' g < 32) → (∀ c, c < 2 ^ nL T → w'.1 (47 + h) c = toC T R h c) → Q none w') : Cl (d + 5) m_X2_measure [.ref 45, .int (nI h)] w Q := by
  have hz := hZ.2
  obtain ⟨e2, hp⟩ := sh5 hz.2.2.1
  obtain ⟨ea, -⟩ := al47 hh
  refine Cl_of k_X2_measure.1 (Nat.le_of_ble_eq_true rfl) (show Wp m_X2_measure _ 0 _ 0 [.ref 45, .int (nI h), .null] [] _ from S_X2_measure_0 _ _ _ ?_)
  simp +decide (disch := omega) only [↓EQA, CEA, LIA, NIA, Nat.lt_irrefl, Option.toList_some, Option.toList_none, List.cons_append, List.nil_append, true_and, and_true, Nat.reduceAdd, Nat.reduceLeDiff, not_true_eq_false, not_false_eq_true, if_true, if_false, ite_true, ite_false, Int32.reduceLT, ite_not, eq_self, or_true, true_or, ite_self, reduceIte, B_X2_measure_0]
  have key : ∀ m c, c + m = 2 ^ nL T → ∀ w1 R1, Ag (fun j _ => j = 19 ∨ j = 47 + h) w w1 → RC w1 18 19 (R1, R.2) → (∀ g, g < 4 → R1 g < 32) → (∀ i, i < c → w1.1 (47 + h) i = toC T R h i) → Wp m_X2_measure (d + 4) 0 Q 2 [.ref 45, .int (nI h), .int (nI c)] [] w1 := by
    intro m
    induction m with
    | zero =>
      intro c hc w1 R1 ha hC1 hR1 ht
      have : c = 2 ^ nL T := by omega
      subst this
      have hT1 : Told w1 T := hT.ag ha (fun a b p q z => by omega)
      refine S_X2_measure_L1 _ _ _ ?_
      simp +decide (disch := omega) only [↓EQA, CEA, LIA, NIA, Nat.lt_irrefl, Option.toList_some, Option.toList_none, List.cons_append, List.nil_append, true_and, and_true, Nat.reduceAdd, Nat.reduceLeDiff, not_true_eq_false, not_false_eq_true, if_true, if_false, ite_true, ite_false, Int32.reduceLT, ite_not, eq_self, or_true, true_or, ite_self, reduceIte, B_X2_measure_L1, hT1, hZ.1, e2]
      exact hQ w1 R1 ha hC1 hR1 ht
    | succ m ih =>
      intro c hc w1 R1 ha hC1 hR1 ht
      have hc1 : c < 2 ^ nL T := by omega
      have hc32 : c < 32 := by omega
      have hT1 : Told w1 T := hT.ag ha (fun a b p q z => by omega)
      have ha2 := ha.wI (k := 19) (p := h) (v := nI c) (Or.inl rfl)
      have hT2 : Told (wI w1 19 h (nI c)) T := hT.ag ha2 (fun a b p q z => by omega)
      have hC2 : RC (wI w1 19 h (nI c)) 18 19 (RcH R1 h c, R.2) := RC.crew (R := (R1, R.2)) hC1
      have hR2 := RcH_ok (h := h) hR1 hc32
      have e3 : RcH R1 h c h = c := if_pos rfl
      refine S_X2_measure_L1 _ _ _ ?_
      simp +decide (disch := omega) only [↓EQA, CEA, LIA, NIA, Nat.lt_irrefl, Option.toList_some, Option.toList_none, List.cons_append, List.nil_append, true_and, and_true, Nat.reduceAdd, Nat.reduceLeDiff, not_true_eq_false, not_false_eq_true, if_true, if_false, ite_true, ite_false, Int32.reduceLT, ite_not, eq_self, or_true, true_or, ite_self, reduceIte, B_X2_measure_L1, hT1, hZ.1, e2, hc1]
      refine t_wholeC hT2 hZ hC2 hR2 hR hh ?_
      simp +decide (disch := omega) only [↓EQA, CEA, LIA, NIA, Nat.lt_irrefl, Option.toList_some, Option.toList_none, List.cons_append, List.nil_append, true_and, and_true, Nat.reduceAdd, Nat.reduceLeDiff, not_true_eq_false, not_false_eq_true, if_true, if_false, ite_true, ite_false, Int32.reduceLT, ite_not, eq_self, or_true, true_or, ite_self, reduceIte, ea, hc32, e3]
      refine ih (c + 1) (by omega) _ _ (ha2.wI (Or.inr rfl)) ?_ hR2 fun i hi => ?_
      · obtain ⟨c1, c2, c3, c4, c5⟩ := hC2
        exact ⟨fun a b => by rw [wI_ne (by omega)]; exact c1 a b, by rw [wI_ne (by omega)]; exact c2, by rw [wI_ne (by omega)]; exact c3, by rw [wI_ne (by omega)]; exact c4, by rw [wI_ne (by omega)]; exact c5⟩
      · rw [wI_get]
        by_cases q : i = c
        · subst q; rw [if_pos ⟨rfl, rfl⟩]
        · rw [if_neg (fun z => q z.2), wI_ne (by omega)]; exact ht i (by omega)
  exact key (2 ^ nL T) 0 (by omega) w R1 Ag.rf hC h1 fun i hi => absurd hi (Nat.not_lt_zero _)
theorem t_allAshore (hQ : ∀ w', Ag (fun j _ => j = 51 ∨ j = 19) w w' → (∀ l, l < 5 → w'.1 51 l = -2) → (∀ h, h < 4 → w'.1 19 h = 0) → Q none w') : Cl (d + 1) m_X2_allAshore [.ref 45] w Q := by
  refine Cl_of k_X2_allAshore.1 (Nat.le_of_ble_eq_true rfl) (show Wp m_X2_allAshore _ 0 _ 0 [.ref 45, .null] [] _ from S_X2_allAshore_0 _ _ _ ?_)
  simp +decide (disch := omega) only [↓EQA, CEA, LIA, NIA, Nat.lt_irrefl, Option.toList_some, Option.toList_none, List.cons_append, List.nil_append, true_and, and_true, Nat.reduceAdd, Nat.reduceLeDiff, not_true_eq_false, not_false_eq_true, if_true, if_false, ite_true, ite_false, Int32.reduceLT, ite_not, eq_self, or_true, true_or, ite_self, reduceIte, B_X2_allAshore_0]
  have k2 : ∀ m j, j + m = 4 → ∀ w1, Ag (fun j _ => j = 51 ∨ j = 19) w w1 → (∀ l, l < 5 → w1.1 51 l = -2) → (∀ h, h < j → w1.1 19 h = 0) → Wp m_X2_allAshore d 0 Q 27 [.ref 45, .int (nI j)] [] w1 := by
    intro m
    induction m with
    | zero =>
      intro j hj w1 ha h1 h2
      have : j = 4 := by omega
      subst this
      refine S_X2_allAshore_L2 _ _ _ ?_
      simp +decide (disch := omega) only [↓EQA, CEA, LIA, NIA, Nat.lt_irrefl, Option.toList_some, Option.toList_none, List.cons_append, List.nil_append, true_and, and_true, Nat.reduceAdd, Nat.reduceLeDiff, not_true_eq_false, not_false_eq_true, if_true, if_false, ite_true, ite_false, Int32.reduceLT, ite_not, eq_self, or_true, true_or, ite_self, reduceIte, B_X2_allAshore_L2]
      exact hQ w1 ha h1 h2
    | succ m ih =>
      intro j hj w1 ha h1 h2
      have hj4 : j < 4 := by omega
      refine S_X2_allAshore_L2 _ _ _ ?_
      simp +decide (disch := omega) only [↓EQA, CEA, LIA, NIA, Nat.lt_irrefl, Option.toList_some, Option.toList_none, List.cons_append, List.nil_append, true_and, and_true, Nat.reduceAdd, Nat.reduceLeDiff, not_true_eq_false, not_false_eq_true, if_true, if_false, ite_true, ite_false, Int32.reduceLT, ite_not, eq_self, or_true, true_or, ite_self, reduceIte, B_X2_allAshore_L2, hj4]
      refine ih (j + 1) (by omega) _ (ha.wI (Or.inr rfl)) (fun l hl => by rw [wI_ne (by decide)]; exact h1 l hl) fun h hh => ?_
      rw [wI_get]
      by_cases e : h = j
      · subst e; rw [if_pos ⟨rfl, rfl⟩]
      · rw [if_neg (fun z => e z.2)]; exact h2 h (by omega)
  have k1 : ∀ m j, j + m = 5 → ∀ w1, Ag (fun j _ => j = 51 ∨ j = 19) w w1 → (∀ l, l < j → w1.1 51 l = -2) → Wp m_X2_allAshore d 0 Q 2 [.ref 45, .int (nI j)] [] w1 := by
    intro m
    induction m with
    | zero =>
      intro j hj w1 ha h1
      have : j = 5 := by omega
      subst this
      refine S_X2_allAshore_L1 _ _ _ ?_
      simp +decide (disch := omega) only [↓EQA, CEA, LIA, NIA, Nat.lt_irrefl, Option.toList_some, Option.toList_none, List.cons_append, List.nil_append, true_and, and_true, Nat.reduceAdd, Nat.reduceLeDiff, not_true_eq_false, not_false_eq_true, if_true, if_false, ite_true, ite_false, Int32.reduceLT, ite_not, eq_self, or_true, true_or, ite_self, reduceIte, B_X2_allAshore_L1]
      exact k2 4 0 (by omega) w1 ha h1 fun h hh => absurd hh (Nat.not_lt_zero _)
    | succ m ih =>
      intro j hj w1 ha h1
      have hj4 : j < 5 := by omega
      refine S_X2_allAshore_L1 _ _ _ ?_
      simp +decide (disch := omega) only [↓EQA, CEA, LIA, NIA, Nat.lt_irrefl, Option.toList_some, Option.toList_none, List.cons_append, List.nil_append, true_and, and_true, Nat.reduceAdd, Nat.reduceLeDiff, not_true_eq_false, not_false_eq_true, if_true, if_false, ite_true, ite_false, Int32.reduceLT, ite_not, eq_self, or_true, true_or, ite_self, reduceIte, B_X2_allAshore_L1, hj4]
      refine ih (j + 1) (by omega) _ (ha.wI (Or.inl rfl)) fun h hh => ?_
      rw [wI_get]
      by_cases e : h = j
      · subst e; rw [if_pos ⟨rfl, rfl⟩]
      · rw [if_neg (fun z => e z.2)]; exact h1 h (by omega)
  exact k1 5 0 (by omega) w Ag.rf fun h hh => absurd hh (Nat.not_lt_zero _)
theorem t_rankByLoad {R1 : Nat → Nat} (hT : Told w T) (hZ : SZ T) (hH : 1 ≤ nH T) (hC : RC w 18 19 (R1, R.2)) (h1 : ∀ g, g < 4 → R1 g < 2 ^ nL T) (ht : ∀ g c, g < nH T → c < 2 ^ nL T → w.1 (47 + g) c = toC T R g c) (hs1 : w.1 20 1 = nI (nH T)) (hs2 : w.1 20 2 = nI R.2.2.2.1) (hR : ROK R) (hh : h < nH T) (hQ : ∀ w', Ag (fun j i => j = 21 ∨ (j = 20 ∧ i = 3)) w w' → Q (some (.int (nI (rkX (TO T (VC (R1, R.2))) (nH T) (VC (R1, R.2)).2.2.2.1 h)))) w') : Cl (d + 4) m_X2_rankByLoad [.ref 45, .int (nI h)] w Q := by
  have hz := hZ.2
  obtain ⟨e2, hp⟩ := sh5 hz.2.2.1
  refine Cl_of k_X2_rankByLoad.1 (Nat.le_of_ble_eq_true rfl) (show Wp m_X2_rankByLoad _ 0 _ 0 [.ref 45, .int (nI h), .null] [] _ from S_X2_rankByLoad_0 _ _ _ ?_)
  simp +decide (disch := omega) only [↓EQA, CEA, LIA, NIA, Nat.lt_irrefl, Option.toList_some, Option.toList_none, List.cons_append, List.nil_append, true_and, and_true, Nat.reduceAdd, Nat.reduceLeDiff, not_true_eq_false, not_false_eq_true, if_true, if_false, ite_true, ite_false, Int32.reduceLT, ite_not, eq_self, or_true, true_or, ite_self, reduceIte, B_X2_rankByLoad_0]
  have key : ∀ m g, g + m = nH T → ∀ w1, Ag (fun j i => j = 21 ∨ (j = 20 ∧ i = 3)) w w1 → (∀ i, i < g → w1.1 21 i = TO T (VC (R1, R.2)) i) → Wp m_X2_rankByLoad (d + 3) 0 Q 2 [.ref 45, .int (nI h), .int (nI g)] [] w1 := by
    intro m
    induction m with
    | zero =>
      intro g hg w1 ha h21
      have : g = nH T := by omega
      subst this
      have hT1 : Told w1 T := hT.ag ha (fun a b p q z => by omega)
      have k1 : w1.1 20 1 = nI (nH T) := by rw [(ha 20 1 (by omega)).1]; exact hs1
      have k2 : w1.1 20 2 = nI R.2.2.2.1 := by rw [(ha 20 2 (by omega)).1]; exact hs2
      refine S_X2_rankByLoad_L1 _ _ _ ?_
      simp +decide (disch := omega) only [↓EQA, CEA, LIA, NIA, Nat.lt_irrefl, Option.toList_some, Option.toList_none, List.cons_append, List.nil_append, true_and, and_true, Nat.reduceAdd, Nat.reduceLeDiff, not_true_eq_false, not_false_eq_true, if_true, if_false, ite_true, ite_false, Int32.reduceLT, ite_not, eq_self, or_true, true_or, ite_self, reduceIte, B_X2_rankByLoad_L1, hT1, hZ.1]
      refine t_settle k1 h21 hH (by omega) ?_
      simp +decide (disch := omega) only [↓EQA, CEA, LIA, NIA, Nat.lt_irrefl, Option.toList_some, Option.toList_none, List.cons_append, List.nil_append, true_and, and_true, Nat.reduceAdd, Nat.reduceLeDiff, not_true_eq_false, not_false_eq_true, if_true, if_false, ite_true, ite_false, Int32.reduceLT, ite_not, eq_self, or_true, true_or, ite_self, reduceIte]
      refine t_rankOf (X := TO T (VC (R1, R.2))) (n := nH T) (L := (VC (R1, R.2)).2.2.2.1) ⟨?_, ?_, ?_, ?_⟩ hH (by omega) hh ?_
      · rw [← k1]; simp [wI]
      · intro i hi; rw [wI_ne (by decide)]; exact h21 i hi
      · simp [wI]
      · intro i hi
        have e : (wI w1 20 3 (nI (fsX (TO T (VC (R1, R.2))) (nH T)))).1 20 2 = nI R.2.2.2.1 := by rw [← k2]; simp [wI]
        rw [e]; exact bbN (by have := hR.2.2.2.1; omega) (by omega)
      · simp +decide (disch := omega) only [↓EQA, CEA, LIA, NIA, Nat.lt_irrefl, Option.toList_some, Option.toList_none, List.cons_append, List.nil_append, true_and, and_true, Nat.reduceAdd, Nat.reduceLeDiff, not_true_eq_false, not_false_eq_true, if_true, if_false, ite_true, ite_false, Int32.reduceLT, ite_not, eq_self, or_true, true_or, ite_self, reduceIte]
        exact hQ _ (ha.wI (Or.inr ⟨rfl, rfl⟩))
    | succ m ih =>
      intro g hg w1 ha h21
      have hg1 : g < nH T := by omega
      have hT1 : Told w1 T := hT.ag ha (fun a b p q z => by omega)
      have hg4 : g < 4 := by omega
      have hcg := h1 g hg4
      have hcg2 : R1 g < 32 := by omega
      have ec : w1.1 19 g = nI (R1 g) := by rw [(ha 19 g (by omega)).1]; exact hC.1 g hg4
      have et : w1.1 (47 + g) (R1 g) = TO T (VC (R1, R.2)) g := by rw [(ha (47 + g) _ (by omega)).1, ht g _ hg1 hcg]; rfl
      have ea := (al47 hg4).1
      refine S_X2_rankByLoad_L1 _ _ _ ?_
      simp +decide (disch := omega) only [↓EQA, CEA, LIA, NIA, Nat.lt_irrefl, Option.toList_some, Option.toList_none, List.cons_append, List.nil_append, true_and, and_true, Nat.reduceAdd, Nat.reduceLeDiff, not_true_eq_false, not_false_eq_true, if_true, if_false, ite_true, ite_false, Int32.reduceLT, ite_not, eq_self, or_true, true_or, ite_self, reduceIte, B_X2_rankByLoad_L1, hT1, hZ.1, hg1, ec, ea, hcg2, et]
      refine ih (g + 1) (by omega) _ (ha.wI (Or.inl rfl)) fun i hi => ?_
      rw [wI_get]
      by_cases e : i = g
      · subst e; rw [if_pos ⟨rfl, rfl⟩]
      · rw [if_neg (fun z => e z.2)]; exact h21 i (by omega)
  exact key (nH T) 0 (by omega) w Ag.rf fun i hi => absurd hi (Nat.not_lt_zero _)
abbrev isBt (s m k v : Int32) : Prop := ¬ s < k ∧ (k = s → v < m)
theorem t_compare {R' : Rc} {x : Int32} (hC : RC w 18 19 R') (hR' : CB R') (hN : RC w 16 17 R) (hR : CB R) (h0 : ¬ isBt (w.1 45 7) (w.1 45 8) x (nI (pc5 (mvB R' R 4))) → Q none w) (h1 : isBt (w.1 45 7) (w.1 45 8) x (nI (pc5 (mvB R' R 4))) → Q none (cpI (wI (wI w 45 7 x) 45 8 (nI (pc5 (mvB R' R 4)))) 51 0 52 0 5)) : Cl (d + 3) m_X2_compare [.ref 45, .int x] w Q := by
  have hcp : cpOk 0 51 52 0 0 5 := cpOk_of (t := 0) (sp := 0) (dp := 0) (n := 5) (n0 := 5) (n1 := 5) rfl rfl (by decide) (by decide) (by decide) (by decide) (by decide)
  unfold isBt at h0 h1
  refine Cl_of k_X2_compare.1 (Nat.le_of_ble_eq_true rfl) (show Wp m_X2_compare _ 0 _ 0 [.ref 45, .int x, .null] [] _ from S_X2_compare_0 _ _ _ ?_)
  simp +decide (disch := omega) only [↓EQA, CEA, LIA, NIA, Nat.lt_irrefl, Option.toList_some, Option.toList_none, List.cons_append, List.nil_append, true_and, and_true, Nat.reduceAdd, Nat.reduceLeDiff, not_true_eq_false, not_false_eq_true, if_true, if_false, ite_true, ite_false, Int32.reduceLT, ite_not, eq_self, or_true, true_or, ite_self, reduceIte, B_X2_compare_0]
  by_cases q : w.1 45 7 < x
  · rw [if_pos q]; exact h0 fun z => z.1 q
  · rw [if_neg q]
    refine t_movesFrom RK_trial RK_now hC hR' hN hR ?_
    simp +decide (disch := omega) only [↓EQA, CEA, LIA, NIA, Nat.lt_irrefl, Option.toList_some, Option.toList_none, List.cons_append, List.nil_append, true_and, and_true, Nat.reduceAdd, Nat.reduceLeDiff, not_true_eq_false, not_false_eq_true, if_true, if_false, ite_true, ite_false, Int32.reduceLT, ite_not, eq_self, or_true, true_or, ite_self, reduceIte, B_X2_compare_J1]
    by_cases q2 : x = w.1 45 7
    · rw [if_pos q2]
      by_cases q3 : nI (pc5 (mvB R' R 4)) < w.1 45 8
      · rw [if_pos q3]; exact ⟨hcp, h1 ⟨q, fun _ => q3⟩⟩
      · rw [if_neg q3]; exact h0 fun z => q3 (z.2 q2)
    · rw [if_neg q2]; exact ⟨hcp, h1 ⟨q, fun z => absurd z q2⟩⟩
end Loads3
