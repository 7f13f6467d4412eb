/-! ===== best and friendly loads, found once a question ===== -/
theorem cw_hi {D : Nat → Nat} (hD : DOK D) {h : Nat} (hh : 4 ≤ h) : cw D h = 0 := eq_bits (cw_lt _ _) (by decide) fun l hl => by
  have := hD.1 l hl
  rw [cw_bit _ _ hl]; simp; omega
theorem pkN_inj {R R' : Rc} (hR : ROK R) (hR' : ROK R') (h : pkN R = pkN R') : (∀ h, h < 4 → R.1 h = R'.1 h) ∧ R.2.1 = R'.2.1 ∧ R.2.2.2.1 = R'.2.2.2.1 ∧ R.2.2.2.2 = R'.2.2.2.2 := by
  obtain ⟨a1, a2, a3, a4, a5⟩ := hR
  obtain ⟨b1, b2, b3, b4, b5⟩ := hR'
  have c0 := a1 0 (by decide); have c1 := a1 1 (by decide); have c2 := a1 2 (by decide); have c3 := a1 3 (by decide)
  have e0 := b1 0 (by decide); have e1 := b1 1 (by decide); have e2 := b1 2 (by decide); have e3 := b1 3 (by decide)
  unfold pkN at h
  refine ⟨fun h' hh => ?_, by omega, by omega, by omega⟩
  rcases (by omega : h' = 0 ∨ h' = 1 ∨ h' = 2 ∨ h' = 3) with rfl | rfl | rfl | rfl <;> omega
theorem pkN_lt {R : Rc} (hR : ROK R) : pkN R < 2 ^ 33 := by rw [← pkF_4]; exact pkF_lt hR 4 (by decide)
theorem RS_inj {D D' : Nat → Nat} (hD : DOK D) (hD' : DOK D') (h : pkN (RS D) = pkN (RS D')) : RS D = RS D' := by
  obtain ⟨h1, h2, h3, h4⟩ := pkN_inj hD.rok hD'.rok h
  have e : cw D = cw D' := funext fun a => by
    by_cases q : a < 4
    · exact h1 a q
    · rw [cw_hi hD (by omega), cw_hi hD' (by omega)]
  show (cw D, D 7, 0, D 6, D 5) = (cw D', D' 7, 0, D' 6, D' 5)
  rw [e, show D 7 = D' 7 from h2, show D 6 = D' 6 from h3, show D 5 = D' 5 from h4]
theorem bst_congr {T : Tv} {D D' : Nat → Nat} (h : RS D = RS D') (qn : Option Nat) (n : Nat) : bst T D qn n = bst T D' qn n := by
  have e1 : ∀ i, mvN T D i = mvN T D' i := fun i => by unfold mvN; rw [h]
  have e2 : ∀ i, kfS T D qn i = kfS T D' qn i := fun i => by
    cases qn with
    | none => show 0 - nI (frN T (ldR T i (RS D).2) (nF T)) = _; rw [h]; rfl
    | some g => show nI (rkX (TO T (VC (ldR T i (RS D).2))) (nH T) (VC (RS D)).2.2.2.1 g) = _; rw [h]; rfl
  unfold bst
  refine fld_congr (fun j a _ => ?_) _
  unfold bsS
  rw [e1, e2]
abbrev RESB (w : Mem) (T : Tv) (D : Nat → Nat) (qn : Option Nat) : Prop := w.1 45 7 = (bst T D qn (KK T ^ nL T)).1 ∧ w.1 45 8 = (bst T D qn (KK T ^ nL T)).2.1 ∧ ∀ l, l < 5 → w.1 52 l = plD (dg T (bst T D qn (KK T ^ nL T)).2.2 l)
def CCH (w : Mem) (T : Tv) : Prop := w.1 45 9 = -3 ∨ ∃ qn D0, (∀ h, qn = some h → h < nH T) ∧ DOK D0 ∧ w.1 45 9 = qvS qn ∧ w.2 45 10 = lN (pkN (RS D0)) ∧ RESB w T D0 qn
theorem nIall (x : Int32) : x = nI x.toBitVec.toNat := i32 (by rw [nI_nat x.toBitVec.isLt])
theorem ngNe {g : Nat} (hg : g < 2 ^ 31) {x : Int32} (hx : x < 0) : (nI g = x) = False := eq_false fun z => by
  have := nI_pos (n := g) hg
  rw [z] at this
  exact this hx
section Find
variable {d : Nat} {w : Mem} {Q : Option Value → Mem → Prop} {T : Tv} {D : Nat → Nat} {i h l r : Nat} {qn : Option Nat}
/-- the cache answers: what it holds is right -/
theorem CCH.hit (hz : nH T ≤ 4) (h : CCH w T) (hD : DOK D) (hq : ∀ h, qn = some h → h < nH T) (h1 : w.1 45 9 = qvS qn) (h2 : w.2 45 10 = lN (pkN (RS D))) : RESB w T D qn := by
  rcases h with h | ⟨qn', D0, hq', hD0, e1, e2, e3⟩
  · rw [h] at h1
    cases qn with
    | none => exact absurd h1 (by decide)
    | some g => exact absurd h1.symm (by rw [show qvS (some g) = nI g from rfl, ngNe (by have := hq g rfl; omega) (by decide)]; exact fun z => z)
  · have eq : qn' = qn := by
      rw [e1] at h1
      match qn', qn, hq', hq, h1 with
      | none, none, _, _, _ => rfl
      | none, some g, _, hq, h1 => exact absurd h1.symm (by rw [show qvS (some g) = nI g from rfl, show qvS none = -2 from rfl, ngNe (by have := hq g rfl; omega) (by decide)]; exact fun z => z)
      | some g, none, hq', _, h1 => exact absurd h1 (by rw [show qvS (some g) = nI g from rfl, show qvS none = -2 from rfl, ngNe (by have := hq' g rfl; omega) (by decide)]; exact fun z => z)
      | some g, some g', hq', hq, h1 =>
        have := hq g' rfl
        have := hq' g rfl
        rw [show g = g' from (nI_eq (by omega) (by omega)).mp h1]
    subst eq
    have hp : pkN (RS D0) = pkN (RS D) := by
      rw [e2] at h2
      have a := pkN_lt hD0.rok
      have b := pkN_lt hD.rok
      rw [lN_eqN (by omega) (by omega)] at h2
      exact h2
    have := bst_congr (T := T) (RS_inj hD0 hD hp) qn' (KK T ^ nL T)
    unfold RESB at e3 ⊢
    rw [← this]
    exact e3
abbrev FbP : Nat → Nat → Prop := fun j i => (j = 45 ∧ 7 ≤ i) ∨ (18 ≤ j ∧ j ≤ 21) ∨ (47 ≤ j ∧ j ≤ 52)
theorem t_findBest (hT : Told w T) (hZ : SZ T) (hO : TOK T) (hN : RC w 16 17 (RS D)) (hD : DOK D) (hCC : CCH w T) (hh : h < nH T) (hQ : ∀ w', Ag FbP w w' → RESB w' T D (some h) → CCH w' T → Q none w') : Cl (d + 6) m_X2_findBest [.ref 45, .int (nI h)] w Q := by
  have hz := hZ.2
  have hH : 1 ≤ nH T := hO.2.2.2.2.2.2.2.2.2.2
  have hpk := pkN_lt hD.rok
  have vq : ∀ h', some h = some h' → h' < nH T := fun h' e => by cases e; exact hh
  have main : B_X2_findBest_J1 (d + 5) 0 Q [.ref 45, .int (nI h), .null] [] w := by
    simp +decide (disch := omega) only [↓EQA, CEA, LIA, NIA, Nat.lt_irrefl, Option.toList_some, Option.toList_none, List.cons_append, List.nil_append, true_and, and_true, Nat.reduceAdd, Nat.reduceLeDiff, not_true_eq_false, not_false_eq_true, if_true, if_false, ite_true, ite_false, Int32.reduceLT, ite_not, eq_self, or_true, true_or, ite_self, reduceIte, B_X2_findBest_J1]
    refine t_become RK_trial RK_now (by decide) hN fun w0 ha0 hC0 => ?_
    simp +decide (disch := omega) only [↓EQA, CEA, LIA, NIA, Nat.lt_irrefl, Option.toList_some, Option.toList_none, List.cons_append, List.nil_append, true_and, and_true, Nat.reduceAdd, Nat.reduceLeDiff, not_true_eq_false, not_false_eq_true, if_true, if_false, ite_true, ite_false, Int32.reduceLT, ite_not, eq_self, or_true, true_or, ite_self, reduceIte]
    have key : ∀ m g, g + m = nH T → ∀ w1 R1, Ag FbP w w1 → RC w1 18 19 (R1, (RS D).2) → (∀ g, g < 4 → R1 g < 32) → (∀ g' c, g' < g → c < 2 ^ nL T → w1.1 (47 + g') c = toC T (RS D) g' c) → Wp m_X2_findBest (d + 5) 0 Q 37 [.ref 45, .int (nI h), .int (nI g)] [] w1 := by
      intro m
      induction m with
      | zero =>
        intro g hg w1 R1 ha hC1 hR1 ht
        have : g = nH T := by omega
        subst this
        have hT1 : Told w1 T := hT.ag ha (fun a b p q z => by omega)
        have hN1 : RC w1 16 17 (RS D) := hN.ag ha (fun i z => by omega) (fun i z => by omega)
        refine S_X2_findBest_L1 _ _ _ ?_
        simp +decide (disch := omega) only [↓EQA, CEA, LIA, NIA, Nat.lt_irrefl, Option.toList_some, Option.toList_none, List.cons_append, List.nil_append, true_and, and_true, Nat.reduceAdd, Nat.reduceLeDiff, not_true_eq_false, not_false_eq_true, if_true, if_false, ite_true, ite_false, Int32.reduceLT, ite_not, eq_self, or_true, true_or, ite_self, reduceIte, B_X2_findBest_L1, hT1, hZ.1]
        refine t_begin RK_now hT1 ?_ (by decide)
        have ha2 : Ag FbP w (wI (wI w1 20 1 (T 0 6)) 20 2 (w1.1 16 4)) := (ha.wI (Or.inr (Or.inl ⟨by decide, by decide⟩))).wI (Or.inr (Or.inl ⟨by decide, by decide⟩))
        have hT2 : Told (wI (wI w1 20 1 (T 0 6)) 20 2 (w1.1 16 4)) T := hT.ag ha2 (fun a b p q z => by omega)
        have hN2 : RC (wI (wI w1 20 1 (T 0 6)) 20 2 (w1.1 16 4)) 16 17 (RS D) := hN1
        simp +decide (disch := omega) only [↓EQA, CEA, LIA, NIA, Nat.lt_irrefl, Option.toList_some, Option.toList_none, List.cons_append, List.nil_append, true_and, and_true, Nat.reduceAdd, Nat.reduceLeDiff, not_true_eq_false, not_false_eq_true, if_true, if_false, ite_true, ite_false, Int32.reduceLT, ite_not, eq_self, or_true, true_or, ite_self, reduceIte]
        refine t_search (qn := some h) (ρ := (RS D).2) hT2 hZ hO hN2 hD hC1.2 ⟨hh, rfl, fun g' c hg' hc => ?_, ?_, ?_⟩ fun w3 ha3 f9 f10 f7 f8 f52 f19 => ?_
        · rw [wI_ne (by omega), wI_ne (by omega)]; exact ht g' c hg' hc
        · rw [← hZ.1.2.1]; simp [wI]
        · simp [wI]; exact hN1.2.2.2.1
        · simp +decide (disch := omega) only [↓EQA, CEA, LIA, NIA, Nat.lt_irrefl, Option.toList_some, Option.toList_none, List.cons_append, List.nil_append, true_and, and_true, Nat.reduceAdd, Nat.reduceLeDiff, not_true_eq_false, not_false_eq_true, if_true, if_false, ite_true, ite_false, Int32.reduceLT, ite_not, eq_self, or_true, true_or, ite_self, reduceIte]
          exact hQ w3 (ha2.tr (ha3.wk fun j i z => by omega)) ⟨f7, f8, f52⟩ (Or.inr ⟨some h, D, vq, hD, f9, f10, f7, f8, f52⟩)
      | succ m ih =>
        intro g hg w1 R1 ha hC1 hR1 ht
        have hg1 : g < nH T := by omega
        have hT1 : Told w1 T := hT.ag ha (fun a b p q z => by omega)
        refine S_X2_findBest_L1 _ _ _ ?_
        simp +decide (disch := omega) only [↓EQA, CEA, LIA, NIA, Nat.lt_irrefl, Option.toList_some, Option.toList_none, List.cons_append, List.nil_append, true_and, and_true, Nat.reduceAdd, Nat.reduceLeDiff, not_true_eq_false, not_false_eq_true, if_true, if_false, ite_true, ite_false, Int32.reduceLT, ite_not, eq_self, or_true, true_or, ite_self, reduceIte, B_X2_findBest_L1, hT1, hZ.1, hg1]
        refine t_measure (R := RS D) hT1 hZ hC1 hR1 hD.rok (by omega) fun w2 R2 ha2 hC2 hR2 ht2 => ?_
        simp +decide (disch := omega) only [↓EQA, CEA, LIA, NIA, Nat.lt_irrefl, Option.toList_some, Option.toList_none, List.cons_append, List.nil_append, true_and, and_true, Nat.reduceAdd, Nat.reduceLeDiff, not_true_eq_false, not_false_eq_true, if_true, if_false, ite_true, ite_false, Int32.reduceLT, ite_not, eq_self, or_true, true_or, ite_self, reduceIte]
        refine ih (g + 1) (by omega) w2 R2 (ha.tr (ha2.wk fun j i z => by omega)) hC2 hR2 fun g' c hg' hc => ?_
        by_cases e : g' = g
        · subst e; exact ht2 c hc
        · rw [(ha2 (47 + g') c (by omega)).1]; exact ht g' c (by omega) hc
    exact key (nH T) 0 (by omega) w0 (RS D).1 (ha0.wk fun j i z => by omega) hC0 hD.rok.1 fun g' c hg' => absurd hg' (Nat.not_lt_zero _)
  refine Cl_of k_X2_findBest.1 (Nat.le_of_ble_eq_true rfl) (show Wp m_X2_findBest _ 0 _ 0 [.ref 45, .int (nI h), .null] [] _ from S_X2_findBest_0 _ _ _ ?_)
  simp +decide (disch := omega) only [↓EQA, CEA, LIA, NIA, Nat.lt_irrefl, Option.toList_some, Option.toList_none, List.cons_append, List.nil_append, true_and, and_true, Nat.reduceAdd, Nat.reduceLeDiff, not_true_eq_false, not_false_eq_true, if_true, if_false, ite_true, ite_false, Int32.reduceLT, ite_not, eq_self, or_true, true_or, ite_self, reduceIte, B_X2_findBest_0]
  by_cases q : w.1 45 9 = nI h
  · rw [if_pos q]
    refine t_packed RK_now hN hD.rok ?_
    simp +decide (disch := omega) only [↓EQA, CEA, LIA, NIA, Nat.lt_irrefl, Option.toList_some, Option.toList_none, List.cons_append, List.nil_append, true_and, and_true, Nat.reduceAdd, Nat.reduceLeDiff, not_true_eq_false, not_false_eq_true, if_true, if_false, ite_true, ite_false, Int32.reduceLT, ite_not, eq_self, or_true, true_or, ite_self, reduceIte]
    by_cases q2 : w.2 45 10 = lN (pkN (RS D))
    · rw [q2, if_pos ((lg_cmp_eq _ _).mpr rfl)]
      have hr := hCC.hit hz.2.1 hD vq q q2
      exact hQ w Ag.rf hr hCC
    · rw [if_neg (fun z => q2 ((lg_cmp_eq _ _).mp z))]
      exact main
  · rw [if_neg q]
    exact main
theorem t_findFriendly (hT : Told w T) (hZ : SZ T) (hO : TOK T) (hN : RC w 16 17 (RS D)) (hD : DOK D) (hCC : CCH w T) (hQ : ∀ w', Ag FbP w w' → RESB w' T D none → CCH w' T → Q none w') : Cl (d + 6) m_X2_findFriendly [.ref 45] w Q := by
  have hz := hZ.2
  have vq : ∀ h', (none : Option Nat) = some h' → h' < nH T := fun h' e => by cases e
  have main : B_X2_findFriendly_J1 (d + 5) 0 Q [.ref 45] [] w := by
    simp +decide (disch := omega) only [↓EQA, CEA, LIA, NIA, Nat.lt_irrefl, Option.toList_some, Option.toList_none, List.cons_append, List.nil_append, true_and, and_true, Nat.reduceAdd, Nat.reduceLeDiff, not_true_eq_false, not_false_eq_true, if_true, if_false, ite_true, ite_false, Int32.reduceLT, ite_not, eq_self, or_true, true_or, ite_self, reduceIte, B_X2_findFriendly_J1]
    refine t_search (qn := none) (ρ := ((w.1 18 2).toBitVec.toNat, (w.1 18 3).toBitVec.toNat, (w.1 18 4).toBitVec.toNat, (w.1 18 5).toBitVec.toNat)) hT hZ hO hN hD ⟨nIall _, nIall _, nIall _, nIall _⟩ trivial fun w3 ha3 f9 f10 f7 f8 f52 f19 => ?_
    simp +decide (disch := omega) only [↓EQA, CEA, LIA, NIA, Nat.lt_irrefl, Option.toList_some, Option.toList_none, List.cons_append, List.nil_append, true_and, and_true, Nat.reduceAdd, Nat.reduceLeDiff, not_true_eq_false, not_false_eq_true, if_true, if_false, ite_true, ite_false, Int32.reduceLT, ite_not, eq_self, or_true, true_or, ite_self, reduceIte, B_X2_findFriendly_J2]
    exact hQ w3 (ha3.wk fun j i z => by omega) ⟨f7, f8, f52⟩ (Or.inr ⟨none, D, vq, hD, f9, f10, f7, f8, f52⟩)
  refine Cl_of k_X2_findFriendly.1 (Nat.le_of_ble_eq_true rfl) (show Wp m_X2_findFriendly _ 0 _ 0 [.ref 45] [] _ from S_X2_findFriendly_0 _ _ _ ?_)
  simp +decide (disch := omega) only [↓EQA, CEA, LIA, NIA, Nat.lt_irrefl, Option.toList_some, Option.toList_none, List.cons_append, List.nil_append, true_and, and_true, Nat.reduceAdd, Nat.reduceLeDiff, not_true_eq_false, not_false_eq_true, if_true, if_false, ite_true, ite_false, Int32.reduceLT, ite_not, eq_self, or_true, true_or, ite_self, reduceIte, B_X2_findFriendly_0]
  by_cases q : w.1 45 9 = -2
  · rw [if_pos q]
    refine t_packed RK_now hN hD.rok ?_
    simp +decide (disch := omega) only [↓EQA, CEA, LIA, NIA, Nat.lt_irrefl, Option.toList_some, Option.toList_none, List.cons_append, List.nil_append, true_and, and_true, Nat.reduceAdd, Nat.reduceLeDiff, not_true_eq_false, not_false_eq_true, if_true, if_false, ite_true, ite_false, Int32.reduceLT, ite_not, eq_self, or_true, true_or, ite_self, reduceIte]
    by_cases q2 : w.2 45 10 = lN (pkN (RS D))
    · rw [q2, if_pos ((lg_cmp_eq _ _).mpr rfl)]
      have hr := hCC.hit (qn := none) hz.2.1 hD vq q q2
      simp +decide (disch := omega) only [↓EQA, CEA, LIA, NIA, Nat.lt_irrefl, Option.toList_some, Option.toList_none, List.cons_append, List.nil_append, true_and, and_true, Nat.reduceAdd, Nat.reduceLeDiff, not_true_eq_false, not_false_eq_true, if_true, if_false, ite_true, ite_false, Int32.reduceLT, ite_not, eq_self, or_true, true_or, ite_self, reduceIte, B_X2_findFriendly_J2]
      exact hQ w Ag.rf hr hCC
    · rw [if_neg (fun z => q2 ((lg_cmp_eq _ _).mp z))]
      exact main
  · rw [if_neg q]
    exact main
end Find
