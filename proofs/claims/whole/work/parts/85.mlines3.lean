/-! ===== the reference: lines that name what was told ===== -/
section MLines3
variable {d : Nat} {w : Mem} {Q : Option Value → Mem → Prop} {B : Nat → Nat} {n b h l c k : Nat} {τ : Tk3} {s : Cs} {N : Nat → Nm4} {G : Nat → Int32}
theorem u_namedF {x y : Int32} (hf : w.1 59 13 = 1) (hQ : Q (some (.int 0)) w) : Cl (d + 7) m_X11_named [.ref 59, .int x, .int y] w Q := by
  refine Cl_of k_X11_named.1 (Nat.le_of_ble_eq_true rfl) (show Wp m_X11_named _ 0 _ 0 [.ref 59, .int x, .int y, .null] [] _ from S_X11_named_0 _ _ _ ?_)
  simp +decide (disch := omega) only [↓EQA, CEA, LIA, NIA, Nat.lt_irrefl, Option.toList_some, Option.toList_none, List.cons_append, List.nil_append, true_and, and_true, Nat.reduceAdd, Nat.reduceLeDiff, not_true_eq_false, not_false_eq_true, if_true, if_false, ite_true, ite_false, Int32.reduceLT, ite_not, eq_self, or_true, true_or, ite_self, reduceIte, B_X11_named_0, hf]
  exact hQ
theorem u_passF (hf : w.1 59 13 = 1) (hQ : Q none w) : Cl (d + 3) m_X11_pass [.ref 59] w Q := by
  refine Cl_of k_X11_pass.1 (Nat.le_of_ble_eq_true rfl) (show Wp m_X11_pass _ 0 _ 0 [.ref 59] [] _ from S_X11_pass_0 _ _ _ ?_)
  simp +decide (disch := omega) only [↓EQA, CEA, LIA, NIA, Nat.lt_irrefl, Option.toList_some, Option.toList_none, List.cons_append, List.nil_append, true_and, and_true, Nat.reduceAdd, Nat.reduceLeDiff, not_true_eq_false, not_false_eq_true, if_true, if_false, ite_true, ite_false, Int32.reduceLT, ite_not, eq_self, or_true, true_or, ite_self, reduceIte, B_X11_pass_0, hf, B_X11_pass_J1]
  exact hQ
theorem u_numberF {x y : Int32} (hf : w.1 59 13 = 1) (hQ : Q (some (.int x)) w) : Cl (d + 3) m_X11_number [.ref 59, .int x, .int y] w Q := by
  refine Cl_of k_X11_number.1 (Nat.le_of_ble_eq_true rfl) (show Wp m_X11_number _ 0 _ 0 [.ref 59, .int x, .int y, .null] [] _ from S_X11_number_0 _ _ _ ?_)
  simp +decide (disch := omega) only [↓EQA, CEA, LIA, NIA, Nat.lt_irrefl, Option.toList_some, Option.toList_none, List.cons_append, List.nil_append, true_and, and_true, Nat.reduceAdd, Nat.reduceLeDiff, not_true_eq_false, not_false_eq_true, if_true, if_false, ite_true, ite_false, Int32.reduceLT, ite_not, eq_self, or_true, true_or, ite_self, reduceIte, B_X11_number_0, hf]
  exact hQ
theorem u_houseHere (hS : MSf w B n s) (hN : MNM w B c N) (hP : NMP B n b h l c N) (hb : b ≤ 4) (hh : h ≤ 4) (hl : l ≤ 5) (hQ : ∀ w' v, Ag MrP w w' → MSf w' B n (cst (eNum B N c 6) s) → ((cst (eNum B N c 6) s).2 = none → v = nuV B N c 6 s.1) → ((cst (eNum B N c 6) s).2 ≠ none → v = 0) → Q (some (.int (nI v))) w') : Cl (d + 8) m_X11_houseHere [.ref 59] w Q := by
  refine Cl_of k_X11_houseHere.1 (Nat.le_of_ble_eq_true rfl) (show Wp m_X11_houseHere _ 0 _ 0 [.ref 59] [] _ from S_X11_houseHere_0 _ _ _ ?_)
  simp +decide (disch := omega) only [↓EQA, CEA, LIA, NIA, Nat.lt_irrefl, Option.toList_some, Option.toList_none, List.cons_append, List.nil_append, true_and, and_true, Nat.reduceAdd, Nat.reduceLeDiff, not_true_eq_false, not_false_eq_true, if_true, if_false, ite_true, ite_false, Int32.reduceLT, ite_not, eq_self, or_true, true_or, ite_self, reduceIte, B_X11_houseHere_0]
  refine u_named (so := 6) (by omega) hS hN hP hb hh hl fun w' v ha h1 h2 h3 => ?_
  simp +decide (disch := omega) only [↓EQA, CEA, LIA, NIA, Nat.lt_irrefl, Option.toList_some, Option.toList_none, List.cons_append, List.nil_append, true_and, and_true, Nat.reduceAdd, Nat.reduceLeDiff, not_true_eq_false, not_false_eq_true, if_true, if_false, ite_true, ite_false, Int32.reduceLT, ite_not, eq_self, or_true, true_or, ite_self, reduceIte]
  exact hQ w' v ha h1 h2 h3
theorem u_lodgerHere (hS : MSf w B n s) (hN : MNM w B c N) (hP : NMP B n b h l c N) (hb : b ≤ 4) (hh : h ≤ 4) (hl : l ≤ 5) (hQ : ∀ w' v, Ag MrP w w' → MSf w' B n (cst (eNum B N c 7) s) → ((cst (eNum B N c 7) s).2 = none → v = nuV B N c 7 s.1) → ((cst (eNum B N c 7) s).2 ≠ none → v = 0) → Q (some (.int (nI v))) w') : Cl (d + 8) m_X11_lodgerHere [.ref 59] w Q := by
  refine Cl_of k_X11_lodgerHere.1 (Nat.le_of_ble_eq_true rfl) (show Wp m_X11_lodgerHere _ 0 _ 0 [.ref 59] [] _ from S_X11_lodgerHere_0 _ _ _ ?_)
  simp +decide (disch := omega) only [↓EQA, CEA, LIA, NIA, Nat.lt_irrefl, Option.toList_some, Option.toList_none, List.cons_append, List.nil_append, true_and, and_true, Nat.reduceAdd, Nat.reduceLeDiff, not_true_eq_false, not_false_eq_true, if_true, if_false, ite_true, ite_false, Int32.reduceLT, ite_not, eq_self, or_true, true_or, ite_self, reduceIte, B_X11_lodgerHere_0]
  refine u_named (so := 7) (by omega) hS hN hP hb hh hl fun w' v ha h1 h2 h3 => ?_
  simp +decide (disch := omega) only [↓EQA, CEA, LIA, NIA, Nat.lt_irrefl, Option.toList_some, Option.toList_none, List.cons_append, List.nil_append, true_and, and_true, Nat.reduceAdd, Nat.reduceLeDiff, not_true_eq_false, not_false_eq_true, if_true, if_false, ite_true, ite_false, Int32.reduceLT, ite_not, eq_self, or_true, true_or, ite_self, reduceIte]
  exact hQ w' v ha h1 h2 h3
theorem u_houseHereF (hf : w.1 59 13 = 1) (hQ : Q (some (.int 0)) w) : Cl (d + 8) m_X11_houseHere [.ref 59] w Q := by
  refine Cl_of k_X11_houseHere.1 (Nat.le_of_ble_eq_true rfl) (show Wp m_X11_houseHere _ 0 _ 0 [.ref 59] [] _ from S_X11_houseHere_0 _ _ _ ?_)
  simp +decide (disch := omega) only [↓EQA, CEA, LIA, NIA, Nat.lt_irrefl, Option.toList_some, Option.toList_none, List.cons_append, List.nil_append, true_and, and_true, Nat.reduceAdd, Nat.reduceLeDiff, not_true_eq_false, not_false_eq_true, if_true, if_false, ite_true, ite_false, Int32.reduceLT, ite_not, eq_self, or_true, true_or, ite_self, reduceIte, B_X11_houseHere_0]
  refine u_namedF hf ?_
  simp +decide (disch := omega) only [↓EQA, CEA, LIA, NIA, Nat.lt_irrefl, Option.toList_some, Option.toList_none, List.cons_append, List.nil_append, true_and, and_true, Nat.reduceAdd, Nat.reduceLeDiff, not_true_eq_false, not_false_eq_true, if_true, if_false, ite_true, ite_false, Int32.reduceLT, ite_not, eq_self, or_true, true_or, ite_self, reduceIte]
  exact hQ
theorem u_lodgerHereF (hf : w.1 59 13 = 1) (hQ : Q (some (.int 0)) w) : Cl (d + 8) m_X11_lodgerHere [.ref 59] w Q := by
  refine Cl_of k_X11_lodgerHere.1 (Nat.le_of_ble_eq_true rfl) (show Wp m_X11_lodgerHere _ 0 _ 0 [.ref 59] [] _ from S_X11_lodgerHere_0 _ _ _ ?_)
  simp +decide (disch := omega) only [↓EQA, CEA, LIA, NIA, Nat.lt_irrefl, Option.toList_some, Option.toList_none, List.cons_append, List.nil_append, true_and, and_true, Nat.reduceAdd, Nat.reduceLeDiff, not_true_eq_false, not_false_eq_true, if_true, if_false, ite_true, ite_false, Int32.reduceLT, ite_not, eq_self, or_true, true_or, ite_self, reduceIte, B_X11_lodgerHere_0]
  refine u_namedF hf ?_
  simp +decide (disch := omega) only [↓EQA, CEA, LIA, NIA, Nat.lt_irrefl, Option.toList_some, Option.toList_none, List.cons_append, List.nil_append, true_and, and_true, Nat.reduceAdd, Nat.reduceLeDiff, not_true_eq_false, not_false_eq_true, if_true, if_false, ite_true, ite_false, Int32.reduceLT, ite_not, eq_self, or_true, true_or, ite_self, reduceIte]
  exact hQ
/-- a name that was read is a word, and its number one of its sort -/
theorem num_one {so : Nat} (h : (cst (eNum B N c so) s).2 = none) : s.2 = none ∧ cst (eNum B N c so) s = (s.1, none) ∧ s.1.2.2 = 1 ∧ isNm B s.1 = true ∧ fnN B s.1 N c < c ∧ (N (fnN B s.1 N c)).2.2.1 = so ∧ nuV B N c so s.1 = (N (fnN B s.1 N c)).2.2.2 := by
  obtain ⟨t, bl⟩ := s
  obtain ⟨h1, a, ha⟩ := cst_none h
  have h1' : bl = none := h1
  subst h1'
  have ha' : eNum B N c so t = .inr a := ha
  unfold eNum at ha'
  by_cases q : isNm B t = true
  · rw [if_pos q] at ha'
    by_cases q2 : fnN B t N c < c ∧ (N (fnN B t N c)).2.2.1 = so
    · refine ⟨rfl, ?_, ?_, q, q2.1, q2.2, ?_⟩
      · unfold cst eNum
        dsimp only
        rw [if_pos q, if_pos q2]
        rfl
      · unfold isNm at q
        simp only [Bool.and_eq_true, decide_eq_true_eq] at q
        exact q.1
      · unfold nuV
        dsimp only
        rw [if_pos q2]
    · rw [if_neg q2] at ha'; cases ha'
  · rw [if_neg q] at ha'; cases ha'
theorem neB_none {v1 v2 f : Nat} (h : (neB v1 v2 f s).2 = none) : s.2 = none ∧ neB v1 v2 f s = s ∧ v1 ≠ v2 := by
  obtain ⟨t, bl⟩ := s
  unfold neB at h ⊢
  by_cases q : v1 = v2
  · rw [if_pos q] at h
    cases bl <;> cases h
  · rw [if_neg q] at h ⊢
    exact ⟨h, rfl, q⟩
theorem blIf_none {p : Bool} {f : Nat} (h : (blIf p f s).2 = none) : s.2 = none ∧ blIf p f s = s ∧ p = false := by
  obtain ⟨t, bl⟩ := s
  unfold blIf at h ⊢
  cases p with
  | true =>
    rw [if_pos rfl] at h
    cases bl <;> cases h
  | false => exact ⟨h, rfl, rfl⟩
theorem blIf_some {p : Bool} {f : Nat} {e : Nat × Nat} (h : s.2 = some e) : blIf p f s = s := by
  obtain ⟨t, bl⟩ := s
  have h' : bl = some e := h
  subst h'
  unfold blIf
  cases p <;> rfl
theorem neB_some {v1 v2 f : Nat} {e : Nat × Nat} (h : s.2 = some e) : neB v1 v2 f s = s := by
  obtain ⟨t, bl⟩ := s
  have h' : bl = some e := h
  subst h'
  unfold neB
  by_cases q : v1 = v2
  · rw [if_pos q]; rfl
  · rw [if_neg q]
theorem MSf.f1 {e : Nat × Nat} (hS : MSf w B n s) (h : s.2 = some e) : w.1 59 13 = 1 := by have := hS.2; rw [h] at this; exact this.1
theorem MSf.f0 (hS : MSf w B n s) (h : s.2 = none) : w.1 59 13 = 0 := by have := hS.2; rw [h] at this; exact this.1
theorem MSf.a4 (hS : MSf w B n s) (h : s.2 = none) : w.1 59 4 = nI s.1.1 := by have := hS.2; rw [h] at this; exact this.2.1.1
theorem nx_none (h : (cst (nxA3 B n) s).2 = none) : s.2 = none := (cst_none h).1
theorem u_sawLineF (hf : w.1 59 13 = 1) (hQ : Q none w) : Cl (d + 9) m_X11_sawLine [.ref 59] w Q := by
  refine Cl_of k_X11_sawLine.1 (Nat.le_of_ble_eq_true rfl) (show Wp m_X11_sawLine _ 0 _ 0 [.ref 59, .null, .null, .null, .null] [] _ from S_X11_sawLine_0 _ _ _ ?_)
  simp +decide (disch := omega) only [↓EQA, CEA, LIA, NIA, Nat.lt_irrefl, Option.toList_some, Option.toList_none, List.cons_append, List.nil_append, true_and, and_true, Nat.reduceAdd, Nat.reduceLeDiff, not_true_eq_false, not_false_eq_true, if_true, if_false, ite_true, ite_false, Int32.reduceLT, ite_not, eq_self, or_true, true_or, ite_self, reduceIte, B_X11_sawLine_0]
  refine u_houseHereF hf ?_
  simp +decide (disch := omega) only [↓EQA, CEA, LIA, NIA, Nat.lt_irrefl, Option.toList_some, Option.toList_none, List.cons_append, List.nil_append, true_and, and_true, Nat.reduceAdd, Nat.reduceLeDiff, not_true_eq_false, not_false_eq_true, if_true, if_false, ite_true, ite_false, Int32.reduceLT, ite_not, eq_self, or_true, true_or, ite_self, reduceIte]
  refine u_passF hf ?_
  simp +decide (disch := omega) only [↓EQA, CEA, LIA, NIA, Nat.lt_irrefl, Option.toList_some, Option.toList_none, List.cons_append, List.nil_append, true_and, and_true, Nat.reduceAdd, Nat.reduceLeDiff, not_true_eq_false, not_false_eq_true, if_true, if_false, ite_true, ite_false, Int32.reduceLT, ite_not, eq_self, or_true, true_or, ite_self, reduceIte]
  refine u_houseHereF hf ?_
  simp +decide (disch := omega) only [↓EQA, CEA, LIA, NIA, Nat.lt_irrefl, Option.toList_some, Option.toList_none, List.cons_append, List.nil_append, true_and, and_true, Nat.reduceAdd, Nat.reduceLeDiff, not_true_eq_false, not_false_eq_true, if_true, if_false, ite_true, ite_false, Int32.reduceLT, ite_not, eq_self, or_true, true_or, ite_self, reduceIte, hf, B_X11_sawLine_J1]
  refine u_passF hf ?_
  simp +decide (disch := omega) only [↓EQA, CEA, LIA, NIA, Nat.lt_irrefl, Option.toList_some, Option.toList_none, List.cons_append, List.nil_append, true_and, and_true, Nat.reduceAdd, Nat.reduceLeDiff, not_true_eq_false, not_false_eq_true, if_true, if_false, ite_true, ite_false, Int32.reduceLT, ite_not, eq_self, or_true, true_or, ite_self, reduceIte]
  refine u_namedF hf ?_
  simp +decide (disch := omega) only [↓EQA, CEA, LIA, NIA, Nat.lt_irrefl, Option.toList_some, Option.toList_none, List.cons_append, List.nil_append, true_and, and_true, Nat.reduceAdd, Nat.reduceLeDiff, not_true_eq_false, not_false_eq_true, if_true, if_false, ite_true, ite_false, Int32.reduceLT, ite_not, eq_self, or_true, true_or, ite_self, reduceIte]
  refine u_passF hf ?_
  simp +decide (disch := omega) only [↓EQA, CEA, LIA, NIA, Nat.lt_irrefl, Option.toList_some, Option.toList_none, List.cons_append, List.nil_append, true_and, and_true, Nat.reduceAdd, Nat.reduceLeDiff, not_true_eq_false, not_false_eq_true, if_true, if_false, ite_true, ite_false, Int32.reduceLT, ite_not, eq_self, or_true, true_or, ite_self, reduceIte, hf]
  exact hQ
theorem u_prizeLineF (hf : w.1 59 13 = 1) (hQ : Q none w) : Cl (d + 9) m_X11_prizeLine [.ref 59] w Q := by
  refine Cl_of k_X11_prizeLine.1 (Nat.le_of_ble_eq_true rfl) (show Wp m_X11_prizeLine _ 0 _ 0 [.ref 59, .null] [] _ from S_X11_prizeLine_0 _ _ _ ?_)
  simp +decide (disch := omega) only [↓EQA, CEA, LIA, NIA, Nat.lt_irrefl, Option.toList_some, Option.toList_none, List.cons_append, List.nil_append, true_and, and_true, Nat.reduceAdd, Nat.reduceLeDiff, not_true_eq_false, not_false_eq_true, if_true, if_false, ite_true, ite_false, Int32.reduceLT, ite_not, eq_self, or_true, true_or, ite_self, reduceIte, B_X11_prizeLine_0]
  refine u_numberF hf ?_
  simp +decide (disch := omega) only [↓EQA, CEA, LIA, NIA, Nat.lt_irrefl, Option.toList_some, Option.toList_none, List.cons_append, List.nil_append, true_and, and_true, Nat.reduceAdd, Nat.reduceLeDiff, not_true_eq_false, not_false_eq_true, if_true, if_false, ite_true, ite_false, Int32.reduceLT, ite_not, eq_self, or_true, true_or, ite_self, reduceIte, hf]
  exact hQ
theorem u_sawLine (hS : MSf w B n (τ, none)) (hN : MNM w B c N) (hP : NMP B n b h l c N) (hb : b ≤ 4) (hh : h ≤ 4) (hl : l ≤ 5) (hk5 : k < 5) (hG : R63 w G) (hk : G 10 = nI k) (hQ : ∀ w', Ag MlP w w' → MSf w' B n (sw7 B n N c τ) → (∀ i, 74 ≤ i → w'.1 63 i = w.1 63 i) → ((sw7 B n N c τ).2 = none → R63 w' (updG (updG (updG (updG G (59 + 3 * k) (nI (nuV B N c 6 τ))) (59 + 3 * k + 1) (nI (nuV B N c 6 (sw2 B n N c τ).1))) (59 + 3 * k + 2) (nI (nuV B N c 5 (sw5 B n N c τ).1))) 10 (nI (k + 1)))) → Q none w') : Cl (d + 9) m_X11_sawLine [.ref 59] w Q := by
  have k10 : w.1 63 10 = nI k := by rw [hG 10 (by decide)]; exact hk
  have ei : 59 + 3 * nI k = nI (59 + 3 * k) := by rw [show (59 : Int32) = nI 59 from rfl, show (3 : Int32) = nI 3 from rfl, nI_mul, nI_add]
  have two : ∀ w4 v1 v3, Ag MrP w w4 → MSf w4 B n (sw4 B n N c τ) → ((sw4 B n N c τ).2 = none → v1 = nuV B N c 6 τ ∧ v3 = nuV B N c 6 (sw2 B n N c τ).1 ∧ (sw4 B n N c τ).1.2.2 ≠ 4) → B_X11_sawLine_J1 (d + 8) 0 Q [.ref 59, .int (nI (59 + 3 * k)), .int (nI v1), .int (nI v3), .null] [] w4 := by
    intro w4 v1 v3 ha4 hS4 hv
    simp +decide (disch := omega) only [↓EQA, CEA, LIA, NIA, Nat.lt_irrefl, Option.toList_some, Option.toList_none, List.cons_append, List.nil_append, true_and, and_true, Nat.reduceAdd, Nat.reduceLeDiff, not_true_eq_false, not_false_eq_true, if_true, if_false, ite_true, ite_false, Int32.reduceLT, ite_not, eq_self, or_true, true_or, ite_self, reduceIte, B_X11_sawLine_J1]
    refine u_pass hS4 (fun z => (hv z).2.2) fun w5 ha5 hS5 => ?_
    have hS5' : MSf w5 B n (sw5 B n N c τ) := hS5
    have hN5 : MNM w5 B c N := hN.ag (ha4.tr ha5) (fun i hi z => by omega)
    simp +decide (disch := omega) only [↓EQA, CEA, LIA, NIA, Nat.lt_irrefl, Option.toList_some, Option.toList_none, List.cons_append, List.nil_append, true_and, and_true, Nat.reduceAdd, Nat.reduceLeDiff, not_true_eq_false, not_false_eq_true, if_true, if_false, ite_true, ite_false, Int32.reduceLT, ite_not, eq_self, or_true, true_or, ite_self, reduceIte]
    refine u_named (so := 5) (by omega) hS5' hN5 hP hb hh hl fun w6 v6 ha6 hS6 hv6 hv60 => ?_
    have hS6' : MSf w6 B n (sw6 B n N c τ) := hS6
    simp +decide (disch := omega) only [↓EQA, CEA, LIA, NIA, Nat.lt_irrefl, Option.toList_some, Option.toList_none, List.cons_append, List.nil_append, true_and, and_true, Nat.reduceAdd, Nat.reduceLeDiff, not_true_eq_false, not_false_eq_true, if_true, if_false, ite_true, ite_false, Int32.reduceLT, ite_not, eq_self, or_true, true_or, ite_self, reduceIte]
    refine u_pass hS6' (fun z => ?_) fun w7 ha7 hS7 => ?_
    · have := num_one (s := sw5 B n N c τ) (so := 5) z
      show (cst (eNum B N c 5) (sw5 B n N c τ)).1.2.2 ≠ 4
      rw [this.2.1]
      show (sw5 B n N c τ).1.2.2 ≠ 4
      rw [this.2.2.1]; decide
    have hS7' : MSf w7 B n (sw7 B n N c τ) := hS7
    have hb7 : Ag MrP w w7 := ((ha4.tr ha5).tr ha6).tr ha7
    have hG7 : R63 w7 G := hG.ag hb7 (fun i hi z => by omega)
    cases hbl : (sw7 B n N c τ).2 with
    | some e =>
      have hf7 := hS7'.f1 hbl
      simp +decide (disch := omega) only [↓EQA, CEA, LIA, NIA, Nat.lt_irrefl, Option.toList_some, Option.toList_none, List.cons_append, List.nil_append, true_and, and_true, Nat.reduceAdd, Nat.reduceLeDiff, not_true_eq_false, not_false_eq_true, if_true, if_false, ite_true, ite_false, Int32.reduceLT, ite_not, eq_self, or_true, true_or, ite_self, reduceIte, hf7]
      exact hQ w7 (hb7.wk fun j i z => Or.inl z) hS7' (fun i hi => (hb7 63 i (by omega)).1) (fun z => by rw [hbl] at z; cases z)
    | none =>
      have hf7 := hS7'.f0 hbl
      have n6 : (sw6 B n N c τ).2 = none := nx_none hbl
      have n5 := num_one (s := sw5 B n N c τ) (so := 5) n6
      have n4 : (sw4 B n N c τ).2 = none := nx_none n5.1
      obtain ⟨e1, e3, -⟩ := hv n4
      have e6 : v6 = nuV B N c 5 (sw5 B n N c τ).1 := hv6 n6
      have hx : 59 + 3 * k < 191 := by omega
      have hx1 : 59 + 3 * k + 1 < 191 := by omega
      have hx2 : 59 + 3 * k + 2 < 191 := by omega
      have kk : ∀ x y z, (wI (wI (wI w7 63 (59 + 3 * k) x) 63 (59 + 3 * k + 1) y) 63 (59 + 3 * k + 2) z).1 63 10 = nI k := fun x y z => by rw [wI_get, if_neg (by omega), wI_get, if_neg (by omega), wI_get, if_neg (by omega), hG7 10 (by decide)]; exact hk
      simp +decide (disch := omega) only [↓EQA, CEA, LIA, NIA, Nat.lt_irrefl, Option.toList_some, Option.toList_none, List.cons_append, List.nil_append, true_and, and_true, Nat.reduceAdd, Nat.reduceLeDiff, not_true_eq_false, not_false_eq_true, if_true, if_false, ite_true, ite_false, Int32.reduceLT, ite_not, eq_self, or_true, true_or, ite_self, reduceIte, hf7, hx, hx1, hx2, kk, nI_1]
      have hbM : Ag (fun j i => MrP j i ∨ (j = 63 ∧ i < 74)) w w7 := hb7.wk fun j i z => Or.inl z
      have hb8 := (((hbM.wI (v := nI v1) (k := 63) (p := 59 + 3 * k) (Or.inr ⟨rfl, by omega⟩)).wI (v := nI v3) (k := 63) (p := 59 + 3 * k + 1) (Or.inr ⟨rfl, by omega⟩)).wI (v := nI v6) (k := 63) (p := 59 + 3 * k + 2) (Or.inr ⟨rfl, by omega⟩)).wI (v := nI (k + 1)) (k := 63) (p := 10) (Or.inr ⟨rfl, by omega⟩)
      refine hQ _ (hb8.wk fun j i z => by omega) hS7'.w63.w63.w63.w63 (fun i hi => (hb8 63 i (by omega)).1) (fun _ => ?_)
      rw [← e1, ← e3, ← e6]
      exact R63.wI (R63.wI (R63.wI (R63.wI hG7)))
  refine Cl_of k_X11_sawLine.1 (Nat.le_of_ble_eq_true rfl) (show Wp m_X11_sawLine _ 0 _ 0 [.ref 59, .null, .null, .null, .null] [] _ from S_X11_sawLine_0 _ _ _ ?_)
  simp +decide (disch := omega) only [↓EQA, CEA, LIA, NIA, Nat.lt_irrefl, Option.toList_some, Option.toList_none, List.cons_append, List.nil_append, true_and, and_true, Nat.reduceAdd, Nat.reduceLeDiff, not_true_eq_false, not_false_eq_true, if_true, if_false, ite_true, ite_false, Int32.reduceLT, ite_not, eq_self, or_true, true_or, ite_self, reduceIte, B_X11_sawLine_0, k10, ei]
  refine u_houseHere hS hN hP hb hh hl fun w1 v1 ha1 hS1 hv1 hv10 => ?_
  have hS1' : MSf w1 B n (sw1 B N c τ) := hS1
  simp +decide (disch := omega) only [↓EQA, CEA, LIA, NIA, Nat.lt_irrefl, Option.toList_some, Option.toList_none, List.cons_append, List.nil_append, true_and, and_true, Nat.reduceAdd, Nat.reduceLeDiff, not_true_eq_false, not_false_eq_true, if_true, if_false, ite_true, ite_false, Int32.reduceLT, ite_not, eq_self, or_true, true_or, ite_self, reduceIte]
  refine u_pass hS1' (fun z => ?_) fun w2 ha2 hS2 => ?_
  · have := num_one (s := (τ, none)) (so := 6) z
    show (cst (eNum B N c 6) (τ, none)).1.2.2 ≠ 4
    rw [this.2.1]
    show τ.2.2 ≠ 4
    have h1 : τ.2.2 = 1 := this.2.2.1
    rw [h1]; decide
  have hS2' : MSf w2 B n (sw2 B n N c τ) := hS2
  have hN2 : MNM w2 B c N := hN.ag (ha1.tr ha2) (fun i hi z => by omega)
  simp +decide (disch := omega) only [↓EQA, CEA, LIA, NIA, Nat.lt_irrefl, Option.toList_some, Option.toList_none, List.cons_append, List.nil_append, true_and, and_true, Nat.reduceAdd, Nat.reduceLeDiff, not_true_eq_false, not_false_eq_true, if_true, if_false, ite_true, ite_false, Int32.reduceLT, ite_not, eq_self, or_true, true_or, ite_self, reduceIte]
  refine u_houseHere hS2' hN2 hP hb hh hl fun w3 v3 ha3 hS3 hv3 hv30 => ?_
  have hS3' : MSf w3 B n (sw3 B n N c τ) := hS3
  have hb3 : Ag MrP w w3 := (ha1.tr ha2).tr ha3
  cases hbl : (sw3 B n N c τ).2 with
  | some e =>
    have hf3 := hS3'.f1 hbl
    have e4 : sw4 B n N c τ = sw3 B n N c τ := neB_some hbl
    simp +decide (disch := omega) only [↓EQA, CEA, LIA, NIA, Nat.lt_irrefl, Option.toList_some, Option.toList_none, List.cons_append, List.nil_append, true_and, and_true, Nat.reduceAdd, Nat.reduceLeDiff, not_true_eq_false, not_false_eq_true, if_true, if_false, ite_true, ite_false, Int32.reduceLT, ite_not, eq_self, or_true, true_or, ite_self, reduceIte, hf3]
    exact two w3 v1 v3 hb3 (by rw [e4]; exact hS3') (fun z => by rw [e4, hbl] at z; cases z)
  | none =>
    have hf3 := hS3'.f0 hbl
    have n3 := num_one (s := sw2 B n N c τ) (so := 6) hbl
    have n1 : (sw1 B N c τ).2 = none := nx_none n3.1
    have e1 : v1 = nuV B N c 6 τ := hv1 n1
    have e3 : v3 = nuV B N c 6 (sw2 B n N c τ).1 := hv3 hbl
    have h4 : w3.1 59 4 = nI (sw3 B n N c τ).1.1 := hS3'.a4 hbl
    have bnd : ∀ t, nuV B N c 6 t < 2 ^ 30 := by
      intro t
      unfold nuV
      split
      · next q => have := (hP.2.1 _ q.1).2; omega
      · decide
    have b1 : v1 < 2 ^ 30 := by rw [e1]; exact bnd _
    have b3 : v3 < 2 ^ 30 := by rw [e3]; exact bnd _
    have ee : (nI v1 = nI v3) = (v1 = v3) := eq_n (by omega) (by omega)
    simp +decide (disch := omega) only [↓EQA, CEA, LIA, NIA, Nat.lt_irrefl, Option.toList_some, Option.toList_none, List.cons_append, List.nil_append, true_and, and_true, Nat.reduceAdd, Nat.reduceLeDiff, not_true_eq_false, not_false_eq_true, if_true, if_false, ite_true, ite_false, Int32.reduceLT, ite_not, eq_self, or_true, true_or, ite_self, reduceIte, hf3, ee]
    by_cases q : v1 = v3
    · rw [if_pos q]
      simp +decide (disch := omega) only [↓EQA, CEA, LIA, NIA, Nat.lt_irrefl, Option.toList_some, Option.toList_none, List.cons_append, List.nil_append, true_and, and_true, Nat.reduceAdd, Nat.reduceLeDiff, not_true_eq_false, not_false_eq_true, if_true, if_false, ite_true, ite_false, Int32.reduceLT, ite_not, eq_self, or_true, true_or, ite_self, reduceIte, h4]
      refine u_wrong (f := 3) (p := (sw3 B n N c τ).1.1) hf3 ?_
      obtain ⟨c1, c2⟩ := MSf.bad (τ := (sw3 B n N c τ).1) (f := 3) hS3'.1
      have e4 : sw4 B n N c τ = ((sw3 B n N c τ).1, some (3, (sw3 B n N c τ).1.1)) := by
        unfold sw4 neB
        rw [if_pos (by rw [← e1, ← e3]; exact q), hbl]
        rfl
      simp +decide (disch := omega) only [↓EQA, CEA, LIA, NIA, Nat.lt_irrefl, Option.toList_some, Option.toList_none, List.cons_append, List.nil_append, true_and, and_true, Nat.reduceAdd, Nat.reduceLeDiff, not_true_eq_false, not_false_eq_true, if_true, if_false, ite_true, ite_false, Int32.reduceLT, ite_not, eq_self, or_true, true_or, ite_self, reduceIte]
      exact two _ v1 v3 (hb3.tr c2) (by rw [e4]; exact c1) (fun z => by rw [e4] at z; cases z)
    · rw [if_neg q]
      have e4 : sw4 B n N c τ = sw3 B n N c τ := by
        unfold sw4 neB
        rw [if_neg (by rw [← e1, ← e3]; exact q)]
      refine two w3 v1 v3 hb3 (by rw [e4]; exact hS3') (fun z => ⟨e1, e3, ?_⟩)
      rw [e4]
      show (cst (eNum B N c 6) (sw2 B n N c τ)).1.2.2 ≠ 4
      rw [n3.2.1]
      show (sw2 B n N c τ).1.2.2 ≠ 4
      rw [n3.2.2.1]; decide
end MLines3
