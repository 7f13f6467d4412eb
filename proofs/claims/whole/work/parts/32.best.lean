/-! ===== the search over loads ===== -/
def fitB (T : Tv) (i : Nat) : Bool := decide (∀ h, h < nH T → ¬ T 5 h < nI (pc5 (cw (dg T i) h)))
def ldR (T : Tv) (i : Nat) (ρ : Nat × Nat × Nat × Nat) : Rc := (cw (dg T i), ρ)
def mvN (T : Tv) (D : Nat → Nat) (i : Nat) : Nat := pc5 (mvB (ldR T i (RS D).2) (RS D) 4)
/-- what is wanted least of the load i: a house's rank, or how many friends are together, below 0 -/
def kfS (T : Tv) (D : Nat → Nat) : Option Nat → Nat → Int32
  | none, i => 0 - nI (frN T (ldR T i (RS D).2) (nF T))
  | some h, i => nI (rkX (TO T (VC (ldR T i (RS D).2))) (nH T) (VC (RS D)).2.2.2.1 h)
def qvS : Option Nat → Int32
  | none => -2
  | some h => nI h
def bsS (T : Tv) (D : Nat → Nat) (qn : Option Nat) (i : Nat) (b : Int32 × Int32 × Nat) : Int32 × Int32 × Nat := if fitB T i = true ∧ isBt b.1 b.2.1 (kfS T D qn i) (nI (mvN T D i)) then (kfS T D qn i, nI (mvN T D i), i) else b
def bst (T : Tv) (D : Nat → Nat) (qn : Option Nat) (n : Nat) : Int32 × Int32 × Nat := fld (bsS T D qn) n (1000000, 1000000, 0)
theorem CLn_eq (T : Tv) (n : Nat) : CLn T n = KK T ^ n := by
  induction n with
  | zero => rfl
  | succ n ih => show CLn T n * (nH T + 1) = _; rw [ih, Nat.pow_succ]; rfl
theorem KK_le {T : Tv} (hZ : SZ T) : KK T ^ nL T ≤ 3125 := by
  have hz := hZ.2
  have h1 : KK T ^ nL T ≤ 5 ^ nL T := Nat.pow_le_pow_left (by unfold KK; omega) _
  have h2 : 5 ^ nL T ≤ 5 ^ 5 := Nat.pow_le_pow_right (by decide) (by omega)
  omega
theorem rkX_le {X : Nat → Int32} {n : Nat} {L : Nat → Bool} {h : Nat} : rkX X n L h ≤ n := cnt_le _ _
theorem frN_le {T : Tv} {R : Rc} {n : Nat} (hz : nH T ≤ 4) : frN T R n ≤ n * 4 := by
  induction n with
  | zero => exact Nat.le_refl _
  | succ n ih =>
    have := cnt_le (frH T R n) (nH T)
    show frN T R n + cnt (frH T R n) (nH T) ≤ _
    omega
theorem pc5_0 : pc5 0 = 0 := by decide
theorem fit0 {T : Tv} (hO : TOK T) : fitB T 0 = true := by
  unfold fitB
  simp only [decide_eq_true_eq]
  intro h hh
  have e : cw (dg T 0) h = 0 := eq_bits (cw_lt _ _) (by decide) fun l hl => by rw [cw_bit _ _ hl, dg_0]; simp
  rw [e, pc5_0]
  obtain ⟨s, es, h1, h2⟩ := (hO.2.2.2.2.2.2.1 h hh).2.2
  rw [es]
  exact nI_nlt (by omega) (by omega)
theorem pc5_le (x : Nat) : pc5 x ≤ 5 := cnt_le _ _
theorem bt0 {T : Tv} {D : Nat → Nat} {qn : Option Nat} (hZ : SZ T) : isBt 1000000 1000000 (kfS T D qn 0) (nI (mvN T D 0)) := by
  have hz := hZ.2
  refine ⟨?_, fun _ => nI_lt (b := 1000000) (by have := pc5_le (mvB (ldR T 0 (RS D).2) (RS D) 4); unfold mvN; omega) (by decide)⟩
  match qn with
  | none =>
    have hf : frN T (ldR T 0 (RS D).2) (nF T) ≤ 24 := Nat.le_trans (frN_le hz.2.1) (by omega)
    show ¬ (1000000 : Int32) < 0 - nI (frN T (ldR T 0 (RS D).2) (nF T))
    generalize frN T (ldR T 0 (RS D).2) (nF T) = x at hf ⊢
    have := pk_sub_toInt (a := 0) (b := x) (by omega) (by omega)
    intro z
    rw [Int32.lt_iff_toInt_lt] at z
    have e : (0 : Int32) - nI x = nI 0 - nI x := rfl
    rw [e, this] at z
    have e2 : (1000000 : Int32).toInt = 1000000 := by decide
    omega
  | some h =>
    have hr : rkX (TO T (VC (ldR T 0 (RS D).2))) (nH T) (VC (RS D)).2.2.2.1 h ≤ nH T := rkX_le
    show ¬ nI 1000000 < nI (rkX (TO T (VC (ldR T 0 (RS D).2))) (nH T) (VC (RS D)).2.2.2.1 h)
    exact nI_nlt (by omega) (by decide)
section Search
variable {d : Nat} {w : Mem} {Q : Option Value → Mem → Prop} {T : Tv} {D : Nat → Nat} {i h l r : Nat} {ρ : Nat × Nat × Nat × Nat} {qn : Option Nat}
abbrev SeP : Nat → Nat → Prop := fun j i => (j = 45 ∧ 7 ≤ i) ∨ j = 51 ∨ j = 52 ∨ j = 19 ∨ j = 21 ∨ (j = 20 ∧ i = 3)
/-- what a search for a house needs -/
abbrev SeH (w : Mem) (T : Tv) (D : Nat → Nat) (ρ : Nat × Nat × Nat × Nat) : Option Nat → Prop
  | none => True
  | some h => h < nH T ∧ ρ = (RS D).2 ∧ (∀ g c, g < nH T → c < 2 ^ nL T → w.1 (47 + g) c = toC T (RS D) g c) ∧ w.1 20 1 = nI (nH T) ∧ w.1 20 2 = nI (D 6)
abbrev RF (w : Mem) (ρ : Nat × Nat × Nat × Nat) : Prop := w.1 18 2 = nI ρ.1 ∧ w.1 18 3 = nI ρ.2.1 ∧ w.1 18 4 = nI ρ.2.2.1 ∧ w.1 18 5 = nI ρ.2.2.2
theorem SeH.ag {w1 : Mem} (hz : nH T ≤ 4) (h : SeH w T D ρ qn) (ha : Ag SeP w w1) : SeH w1 T D ρ qn := by
  match qn, h with
  | none, _ => trivial
  | some g, h =>
    obtain ⟨h1, h2, h3, h4, h5⟩ := h
    exact ⟨h1, h2, fun a c ha' hc => by rw [(ha (47 + a) c (by omega)).1]; exact h3 a c ha' hc, by rw [(ha 20 1 (by omega)).1]; exact h4, by rw [(ha 20 2 (by omega)).1]; exact h5⟩
theorem RF.ag {w1 : Mem} {P : Nat → Nat → Prop} (h : RF w ρ) (ha : Ag P w w1) (hp : ∀ i, ¬ P 18 i) : RF w1 ρ := by
  have e := ha.row hp
  unfold RF at h ⊢
  rw [e]
  exact h
theorem t_search (hT : Told w T) (hZ : SZ T) (hO : TOK T) (hN : RC w 16 17 (RS D)) (hD : DOK D) (hF : RF w ρ) (hq : SeH w T D ρ qn) (hQ : ∀ w', Ag SeP w w' → w'.1 45 9 = qvS qn → w'.2 45 10 = lN (pkN (RS D)) → w'.1 45 7 = (bst T D qn (KK T ^ nL T)).1 → w'.1 45 8 = (bst T D qn (KK T ^ nL T)).2.1 → (∀ l, l < 5 → w'.1 52 l = plD (dg T (bst T D qn (KK T ^ nL T)).2.2 l)) → (∀ h, h < 4 → ∃ c, c < 32 ∧ w'.1 19 h = nI c) → Q none w') : Cl (d + 5) m_X2_search [.ref 45, .int (qvS qn)] w Q := by
  have hz := hZ.2
  have hH : 1 ≤ nH T := hO.2.2.2.2.2.2.2.2.2.2
  have hKL := KK_le hZ
  have hK1 : 1 ≤ KK T ^ nL T := Nat.pow_pos (Nat.succ_pos _)
  refine Cl_of k_X2_search.1 (Nat.le_of_ble_eq_true rfl) (show Wp m_X2_search _ 0 _ 0 [.ref 45, .int (qvS qn), .null, .null] [] _ from S_X2_search_0 _ _ _ ?_)
  simp +decide (disch := omega) only [↓EQA, CEA, LIA, NIA, Nat.lt_irrefl, Option.toList_some, Option.toList_none, List.cons_append, List.nil_append, true_and, and_true, Nat.reduceAdd, Nat.reduceLeDiff, not_true_eq_false, not_false_eq_true, if_true, if_false, ite_true, ite_false, Int32.reduceLT, ite_not, eq_self, or_true, true_or, ite_self, reduceIte, B_X2_search_0]
  have hN0 : RC (wI w 45 9 (qvS qn)) 16 17 (RS D) := hN
  refine t_packed RK_now hN0 hD.rok ?_
  simp +decide (disch := omega) only [↓EQA, CEA, LIA, NIA, Nat.lt_irrefl, Option.toList_some, Option.toList_none, List.cons_append, List.nil_append, true_and, and_true, Nat.reduceAdd, Nat.reduceLeDiff, not_true_eq_false, not_false_eq_true, if_true, if_false, ite_true, ite_false, Int32.reduceLT, ite_not, eq_self, or_true, true_or, ite_self, reduceIte]
  refine t_allAshore fun w0 ha0 h51 h19 => ?_
  have hb0 : Ag SeP w w0 := ((((Ag.rf.wI (Or.inl ⟨rfl, by decide⟩)).wL (Or.inl ⟨rfl, by decide⟩)).wI (Or.inl ⟨rfl, by decide⟩)).wI (Or.inl ⟨rfl, by decide⟩)).tr (ha0.wk fun j i z => z.elim (fun z => Or.inr (Or.inl z)) fun z => Or.inr (Or.inr (Or.inr (Or.inl z))))
  have hT0 : Told w0 T := hT.ag hb0 (fun a b p q z => by omega)
  have k7 : w0.1 45 7 = 1000000 := by rw [(ha0 45 7 (by omega)).1]; simp [wI, wL]
  have k8 : w0.1 45 8 = 1000000 := by rw [(ha0 45 8 (by omega)).1]; simp [wI, wL]
  have k9 : w0.1 45 9 = qvS qn := by rw [(ha0 45 9 (by omega)).1]; simp [wI, wL]
  have k10 : w0.2 45 10 = lN (pkN (RS D)) := by rw [(ha0 45 10 (by omega)).2]; simp [wI, wL]
  simp +decide (disch := omega) only [↓EQA, CEA, LIA, NIA, Nat.lt_irrefl, Option.toList_some, Option.toList_none, List.cons_append, List.nil_append, true_and, and_true, Nat.reduceAdd, Nat.reduceLeDiff, not_true_eq_false, not_false_eq_true, if_true, if_false, ite_true, ite_false, Int32.reduceLT, ite_not, eq_self, or_true, true_or, ite_self, reduceIte]
  refine t_countOfLoads hT0 hZ ?_
  rw [CLn_eq]
  simp +decide (disch := omega) only [↓EQA, CEA, LIA, NIA, Nat.lt_irrefl, Option.toList_some, Option.toList_none, List.cons_append, List.nil_append, true_and, and_true, Nat.reduceAdd, Nat.reduceLeDiff, not_true_eq_false, not_false_eq_true, if_true, if_false, ite_true, ite_false, Int32.reduceLT, ite_not, eq_self, or_true, true_or, ite_self, reduceIte]
  have key : ∀ m i, i + m = KK T ^ nL T → ∀ w1, Ag SeP w w1 → TRI w1 (dg T i) → w1.1 45 9 = qvS qn → w1.2 45 10 = lN (pkN (RS D)) → w1.1 45 7 = (bst T D qn i).1 → w1.1 45 8 = (bst T D qn i).2.1 → (1 ≤ i → ∀ l, l < 5 → w1.1 52 l = plD (dg T (bst T D qn i).2.2 l)) → Wp m_X2_search (d + 4) 0 Q 42 [.ref 45, .int (qvS qn), .int (nI (KK T ^ nL T)), .int (nI i)] [] w1 := by
    intro m
    induction m with
    | zero =>
      intro i hi w1 ha hE g9 g10 g7 g8 g52
      have : i = KK T ^ nL T := by omega
      subst this
      refine S_X2_search_L1 _ _ _ ?_
      simp +decide (disch := omega) only [↓EQA, CEA, LIA, NIA, Nat.lt_irrefl, Option.toList_some, Option.toList_none, List.cons_append, List.nil_append, true_and, and_true, Nat.reduceAdd, Nat.reduceLeDiff, not_true_eq_false, not_false_eq_true, if_true, if_false, ite_true, ite_false, Int32.reduceLT, ite_not, eq_self, or_true, true_or, ite_self, reduceIte, B_X2_search_L1]
      exact hQ w1 ha g9 g10 g7 g8 (g52 hK1) fun h hh => ⟨_, cw_lt _ _, hE.2 h hh⟩
    | succ m ih =>
      intro i hi w1 ha hE g9 g10 g7 g8 g52
      have hi1 : i < KK T ^ nL T := by omega
      have hT1 : Told w1 T := hT.ag ha (fun a b p q z => by omega)
      have hN1 : RC w1 16 17 (RS D) := hN.ag ha (fun i z => by omega) (fun i z => by omega)
      have hC1 : RC w1 18 19 (ldR T i ρ) := ⟨hE.2, hF.ag ha (fun i z => by omega)⟩
      have hR1 : CB (ldR T i ρ) := fun g _ => cw_lt _ _
      have ebs : bst T D qn (i + 1) = bsS T D qn i (bst T D qn i) := rfl
      have eb0 : i = 0 → bst T D qn i = (1000000, 1000000, 0) := fun z => by rw [z]; rfl
      generalize bst T D qn i = b at g7 g8 g52 ebs eb0
      -- behind the comparison: the next load
      have two : ∀ w2, Ag SeP w w2 → TRI w2 (dg T i) → w2.1 45 9 = qvS qn → w2.2 45 10 = lN (pkN (RS D)) → w2.1 45 7 = (bst T D qn (i + 1)).1 → w2.1 45 8 = (bst T D qn (i + 1)).2.1 → (∀ l, l < 5 → w2.1 52 l = plD (dg T (bst T D qn (i + 1)).2.2 l)) → B_X2_search_J2 (d + 4) 0 Q [.ref 45, .int (qvS qn), .int (nI (KK T ^ nL T)), .int (nI i)] [] w2 := by
        intro w2 ha2 hE2 f9 f10 f7 f8 f52
        have hT2 : Told w2 T := hT.ag ha2 (fun a b p q z => by omega)
        simp +decide (disch := omega) only [↓EQA, CEA, LIA, NIA, Nat.lt_irrefl, Option.toList_some, Option.toList_none, List.cons_append, List.nil_append, true_and, and_true, Nat.reduceAdd, Nat.reduceLeDiff, not_true_eq_false, not_false_eq_true, if_true, if_false, ite_true, ite_false, Int32.reduceLT, ite_not, eq_self, or_true, true_or, ite_self, reduceIte, B_X2_search_J2]
        refine t_nextLoad hT2 hZ hH hi1 hE2 fun w3 ha3 hE3 => ?_
        simp +decide (disch := omega) only [↓EQA, CEA, LIA, NIA, Nat.lt_irrefl, Option.toList_some, Option.toList_none, List.cons_append, List.nil_append, true_and, and_true, Nat.reduceAdd, Nat.reduceLeDiff, not_true_eq_false, not_false_eq_true, if_true, if_false, ite_true, ite_false, Int32.reduceLT, ite_not, eq_self, or_true, true_or, ite_self, reduceIte]
        refine ih (i + 1) (by omega) w3 (ha2.tr (ha3.wk fun j i z => z.elim (fun z => Or.inr (Or.inl z)) fun z => Or.inr (Or.inr (Or.inr (Or.inl z))))) hE3 ?_ ?_ ?_ ?_ fun _ l hl => ?_
        · rw [(ha3 45 9 (by omega)).1]; exact f9
        · rw [(ha3 45 10 (by omega)).2]; exact f10
        · rw [(ha3 45 7 (by omega)).1]; exact f7
        · rw [(ha3 45 8 (by omega)).1]; exact f8
        · rw [(ha3 52 l (by omega)).1]; exact f52 l hl
      have hfe : fitB T i = decide (∀ h, h < nH T → ¬ T 5 h < nI (pc5 (cw (dg T i) h))) := rfl
      have hb1 : i = 0 → fitB T i = true ∧ isBt b.1 b.2.1 (kfS T D qn i) (nI (mvN T D i)) := by
        intro z
        rw [eb0 z]
        subst z
        exact ⟨fit0 hO, bt0 hZ⟩
      have stay : ¬ (fitB T i = true ∧ isBt b.1 b.2.1 (kfS T D qn i) (nI (mvN T D i))) → ∀ w2, Ag SeP w w2 → TRI w2 (dg T i) → w2.1 45 9 = qvS qn → w2.2 45 10 = lN (pkN (RS D)) → w2.1 45 7 = b.1 → w2.1 45 8 = b.2.1 → w2.1 52 = w1.1 52 → B_X2_search_J2 (d + 4) 0 Q [.ref 45, .int (qvS qn), .int (nI (KK T ^ nL T)), .int (nI i)] [] w2 := by
        intro hno w2 ha2 hE2 f9 f10 f7 f8 f52
        have e1 : bst T D qn (i + 1) = b := by rw [ebs]; unfold bsS; rw [if_neg hno]
        refine two w2 ha2 hE2 f9 f10 (by rw [e1]; exact f7) (by rw [e1]; exact f8) fun l hl => ?_
        rw [e1, f52]
        refine g52 ?_ l hl
        rcases Nat.eq_zero_or_pos i with z | z
        · exact absurd (hb1 z) hno
        · exact z
      -- the comparison
      have cmp : ∀ w2, Ag SeP w w2 → TRI w2 (dg T i) → RC w2 18 19 (ldR T i ρ) → w2.1 45 9 = qvS qn → w2.2 45 10 = lN (pkN (RS D)) → w2.1 45 7 = b.1 → w2.1 45 8 = b.2.1 → w2.1 52 = w1.1 52 → fitB T i = true → B_X2_search_J1 (d + 4) 0 Q [.ref 45, .int (qvS qn), .int (nI (KK T ^ nL T)), .int (nI i)] [.int (kfS T D qn i), .ref 45] w2 := by
        intro w2 ha2 hE2 hC2 f9 f10 f7 f8 f52 hfit
        have hN2 : RC w2 16 17 (RS D) := hN.ag ha2 (fun i z => by omega) (fun i z => by omega)
        have emv : pc5 (mvB (ldR T i ρ) (RS D) 4) = mvN T D i := rfl
        simp +decide (disch := omega) only [↓EQA, CEA, LIA, NIA, Nat.lt_irrefl, Option.toList_some, Option.toList_none, List.cons_append, List.nil_append, true_and, and_true, Nat.reduceAdd, Nat.reduceLeDiff, not_true_eq_false, not_false_eq_true, if_true, if_false, ite_true, ite_false, Int32.reduceLT, ite_not, eq_self, or_true, true_or, ite_self, reduceIte, B_X2_search_J1]
        refine t_compare hC2 hR1 hN2 hD.rok.1 (fun hno => ?_) (fun hyes => ?_)
        · rw [f7, f8, emv] at hno
          simp +decide (disch := omega) only [↓EQA, CEA, LIA, NIA, Nat.lt_irrefl, Option.toList_some, Option.toList_none, List.cons_append, List.nil_append, true_and, and_true, Nat.reduceAdd, Nat.reduceLeDiff, not_true_eq_false, not_false_eq_true, if_true, if_false, ite_true, ite_false, Int32.reduceLT, ite_not, eq_self, or_true, true_or, ite_self, reduceIte]
          exact stay (fun z => hno z.2) w2 ha2 hE2 f9 f10 f7 f8 f52
        · rw [f7, f8, emv] at hyes
          rw [emv]
          have e1 : bst T D qn (i + 1) = (kfS T D qn i, nI (mvN T D i), i) := by rw [ebs]; unfold bsS; rw [if_pos ⟨hfit, hyes⟩]
          simp +decide (disch := omega) only [↓EQA, CEA, LIA, NIA, Nat.lt_irrefl, Option.toList_some, Option.toList_none, List.cons_append, List.nil_append, true_and, and_true, Nat.reduceAdd, Nat.reduceLeDiff, not_true_eq_false, not_false_eq_true, if_true, if_false, ite_true, ite_false, Int32.reduceLT, ite_not, eq_self, or_true, true_or, ite_self, reduceIte]
          refine two _ (((ha2.wI (Or.inl ⟨rfl, by decide⟩)).wI (Or.inl ⟨rfl, by decide⟩)).cpI fun i _ _ => Or.inr (Or.inr (Or.inl rfl))) ⟨fun l hl => ?_, fun h hh => ?_⟩ ?_ ?_ ?_ ?_ fun l hl => ?_
          · rw [cpI_out (by decide), wI_ne (by decide), wI_ne (by decide)]; exact hE2.1 l hl
          · rw [cpI_out (by decide), wI_ne (by decide), wI_ne (by decide)]; exact hE2.2 h hh
          · rw [cpI_out (by decide)]; simp [wI, f9]
          · exact f10
          · rw [cpI_out (by decide), e1]; simp [wI]
          · rw [cpI_out (by decide), e1]; simp [wI]
          · rw [cpI_at hl, e1, wI_ne (by decide), wI_ne (by decide)]; exact hE2.1 l hl
      refine S_X2_search_L1 _ _ _ ?_
      simp +decide (disch := omega) only [↓EQA, CEA, LIA, NIA, Nat.lt_irrefl, Option.toList_some, Option.toList_none, List.cons_append, List.nil_append, true_and, and_true, Nat.reduceAdd, Nat.reduceLeDiff, not_true_eq_false, not_false_eq_true, if_true, if_false, ite_true, ite_false, Int32.reduceLT, ite_not, eq_self, or_true, true_or, ite_self, reduceIte, B_X2_search_L1, hi1]
      refine t_fits RK_trial hT1 hZ hC1 hR1 ?_
      simp +decide (disch := omega) only [↓EQA, CEA, LIA, NIA, Nat.lt_irrefl, Option.toList_some, Option.toList_none, List.cons_append, List.nil_append, true_and, and_true, Nat.reduceAdd, Nat.reduceLeDiff, not_true_eq_false, not_false_eq_true, if_true, if_false, ite_true, ite_false, Int32.reduceLT, ite_not, eq_self, or_true, true_or, ite_self, reduceIte, ite_not]
      by_cases hf : ∀ h, h < nH T → ¬ T 5 h < nI (pc5 ((ldR T i ρ).1 h))
      · rw [if_pos hf]
        have hfit : fitB T i = true := by rw [hfe]; exact decide_eq_true hf
        cases qn with
        | none =>
          simp +decide (disch := omega) only [↓EQA, CEA, LIA, NIA, Nat.lt_irrefl, Option.toList_some, Option.toList_none, List.cons_append, List.nil_append, true_and, and_true, Nat.reduceAdd, Nat.reduceLeDiff, not_true_eq_false, not_false_eq_true, if_true, if_false, ite_true, ite_false, Int32.reduceLT, ite_not, eq_self, or_true, true_or, ite_self, reduceIte, qvS]
          refine t_friendsTogether RK_trial hT1 hZ hC1 ?_
          simp +decide (disch := omega) only [↓EQA, CEA, LIA, NIA, Nat.lt_irrefl, Option.toList_some, Option.toList_none, List.cons_append, List.nil_append, true_and, and_true, Nat.reduceAdd, Nat.reduceLeDiff, not_true_eq_false, not_false_eq_true, if_true, if_false, ite_true, ite_false, Int32.reduceLT, ite_not, eq_self, or_true, true_or, ite_self, reduceIte]
          exact cmp w1 ha hE hC1 g9 g10 g7 g8 rfl hfit
        | some g =>
          obtain ⟨q1, q2, q3, q4, q5⟩ := SeH.ag (qn := some g) hz.2.1 hq ha
          have ne2 : (nI g = -2) = False := eq_false fun z => by
            have := nI_pos (n := g) (by omega)
            rw [z] at this
            exact this (by decide)
          simp +decide (disch := omega) only [↓EQA, CEA, LIA, NIA, Nat.lt_irrefl, Option.toList_some, Option.toList_none, List.cons_append, List.nil_append, true_and, and_true, Nat.reduceAdd, Nat.reduceLeDiff, not_true_eq_false, not_false_eq_true, if_true, if_false, ite_true, ite_false, Int32.reduceLT, ite_not, eq_self, or_true, true_or, ite_self, reduceIte, qvS, ne2]
          refine t_rankByLoad (R := RS D) (R1 := cw (dg T i)) hT1 hZ hH (by rw [← q2]; exact hC1) (fun g' _ => cw_ltL hz.2.2.1 fun l hl _ => dg_hi hl) q3 q4 q5 hD.rok q1 fun w2 ha2 => ?_
          simp +decide (disch := omega) only [↓EQA, CEA, LIA, NIA, Nat.lt_irrefl, Option.toList_some, Option.toList_none, List.cons_append, List.nil_append, true_and, and_true, Nat.reduceAdd, Nat.reduceLeDiff, not_true_eq_false, not_false_eq_true, if_true, if_false, ite_true, ite_false, Int32.reduceLT, ite_not, eq_self, or_true, true_or, ite_self, reduceIte]
          have ha3 : Ag SeP w w2 := ha.tr (ha2.wk fun j i z => Or.inr (Or.inr (Or.inr (Or.inr z))))
          exact cmp w2 ha3 ⟨fun l hl => by rw [(ha2 51 l (by omega)).1]; exact hE.1 l hl, fun h hh => by rw [(ha2 19 h (by omega)).1]; exact hE.2 h hh⟩ (hC1.ag ha2 (fun i z => by omega) (fun i z => by omega)) (by rw [(ha2 45 9 (by omega)).1]; exact g9) (by rw [(ha2 45 10 (by omega)).2]; exact g10) (by rw [(ha2 45 7 (by omega)).1]; exact g7) (by rw [(ha2 45 8 (by omega)).1]; exact g8) (ha2.row fun i z => by omega) hfit
      · rw [if_neg hf]
        have hfit : ¬ fitB T i = true := by rw [hfe]; intro z; exact hf (of_decide_eq_true z)
        exact stay (fun z => hfit z.1) w1 ha hE g9 g10 g7 g8 rfl
  refine key (KK T ^ nL T) 0 (by omega) w0 hb0 ⟨fun l hl => ?_, fun h hh => ?_⟩ k9 k10 k7 k8 (fun z => absurd z (by decide))
  · rw [h51 l hl, dg_0]; rfl
  · have e : cw (dg T 0) h = 0 := eq_bits (cw_lt _ _) (by decide) fun l hl => by rw [cw_bit _ _ hl, dg_0]; simp
    rw [h19 h hh, e]; rfl
end Search
