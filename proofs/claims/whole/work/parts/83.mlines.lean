/-! ===== lines of the reference ===== -/
def updG (G : Nat → Int32) (i : Nat) (v : Int32) : Nat → Int32 := fun a => if a = i then v else G a
/-- what the reference holds of the text, names aside -/
abbrev R63 (w : Mem) (G : Nat → Int32) : Prop := ∀ i, i < 74 → w.1 63 i = G i
/-- all that a line of the reference may change -/
abbrev MlP : Nat → Nat → Prop := fun j i => MrP j i ∨ j = 63
section MLines
variable {d : Nat} {w : Mem} {Q : Option Value → Mem → Prop} {B : Nat → Nat} {n b h l c k : Nat} {τ : Tk3} {s : Cs} {N : Nat → Nm4} {G : Nat → Int32}
theorem R63.ag {P : Nat → Nat → Prop} {w1 : Mem} (hG : R63 w G) (ha : Ag P w w1) (hp : ∀ i, i < 74 → ¬ P 63 i) : R63 w1 G := fun i hi => by rw [(ha 63 i (hp i hi)).1]; exact hG i hi
theorem R63.wI {i : Nat} {v : Int32} (hG : R63 w G) : R63 (wI w 63 i v) (updG G i v) := by
  intro a ha
  rw [wI_get]
  unfold updG
  by_cases q : a = i
  · rw [if_pos ⟨rfl, q⟩, if_pos q]
  · rw [if_neg (fun z => q z.2), if_neg q]; exact hG a ha
theorem MSf.w63 {i : Nat} {v : Int32} (hS : MSf w B n s) : MSf (wI w 63 i v) B n s := hS.ag (P := fun j _ => j = 63) (Ag.rf.wI rfl) (fun i z => by omega) (fun i z => by omega) (fun i z => by omega)
theorem MNM.w63 {i : Nat} {v : Int32} (hN : MNM w B c N) (hi : i < 74) : MNM (wI w 63 i v) B c N := hN.ag (P := fun j a => j = 63 ∧ a = i) (Ag.rf.wI ⟨rfl, rfl⟩) (fun a ha z => by omega)
theorem u_bendLine (hS : MSf w B n (τ, none)) (hN : MNM w B c N) (hP : NMP B n k h l c N) (hk4 : k < 4) (hh : h ≤ 4) (hl : l ≤ 5) (hG : R63 w G) (hk : G 5 = nI k) (hQ : ∀ w', Ag MlP w w' → MSf w' B n (bd4 B n N c τ) → ((bd4 B n N c τ).2 = none → MNM w' B (c + 1) (adN N c (τ.1, τ.2.1, 5, k)) ∧ R63 w' (updG (updG (updG G (11 + 2 * k) (nI (valT B (bd2 B n N c τ).1))) (11 + 2 * k + 1) (nI (sdV B (bd3 B n N c τ).1))) 5 (nI (k + 1)))) → Q none w') : Cl (d + 9) m_X11_bendLine [.ref 59] w Q := by
  have hf : w.1 59 13 = 0 := hS.2.1
  have k5 : w.1 63 5 = nI k := by rw [hG 5 (by decide)]; exact hk
  have ei : 11 + 2 * nI k = nI (11 + 2 * k) := by rw [show (11 : Int32) = nI 11 from rfl, show (2 : Int32) = nI 2 from rfl, nI_mul, nI_add]
  refine Cl_of k_X11_bendLine.1 (Nat.le_of_ble_eq_true rfl) (show Wp m_X11_bendLine _ 0 _ 0 [.ref 59, .null] [] _ from S_X11_bendLine_0 _ _ _ ?_)
  simp +decide (disch := omega) only [↓EQA, CEA, LIA, NIA, Nat.lt_irrefl, Option.toList_some, Option.toList_none, List.cons_append, List.nil_append, true_and, and_true, Nat.reduceAdd, Nat.reduceLeDiff, not_true_eq_false, not_false_eq_true, if_true, if_false, ite_true, ite_false, Int32.reduceLT, ite_not, eq_self, or_true, true_or, ite_self, reduceIte, B_X11_bendLine_0, hf, k5, ei]
  refine u_newName (so := 5) (nu := k) hS hN hP (by omega) hh hl (k := 4 + k) (by omega) (by unfold slN; simp) (fun i hi e => ?_) fun w1 ha1 hS1 hN1 => ?_
  · have := (hP.2.1 i hi).2
    unfold slN at e
    rcases this with ⟨e1, q⟩ | ⟨e1, q⟩ | ⟨e1, q⟩ <;> rw [e1] at e <;> simp at e <;> omega
  have hG1 : R63 w1 G := hG.ag ha1 (fun i hi z => by omega)
  have hS1' : MSf w1 B n (bd1 B n N c τ) := hS1
  simp +decide (disch := omega) only [↓EQA, CEA, LIA, NIA, Nat.lt_irrefl, Option.toList_some, Option.toList_none, List.cons_append, List.nil_append, true_and, and_true, Nat.reduceAdd, Nat.reduceLeDiff, not_true_eq_false, not_false_eq_true, if_true, if_false, ite_true, ite_false, Int32.reduceLT, ite_not, eq_self, or_true, true_or, ite_self, reduceIte]
  refine u_after (i := 13) (lo := 1) (hi := 30) (by decide) (by decide) (by decide) hS1' fun w2 v ha2 hS2 hv => ?_
  have hS2' : MSf w2 B n (bd3 B n N c τ) := hS2
  have hx : 11 + 2 * k < 191 := by omega
  simp +decide (disch := omega) only [↓EQA, CEA, LIA, NIA, Nat.lt_irrefl, Option.toList_some, Option.toList_none, List.cons_append, List.nil_append, true_and, and_true, Nat.reduceAdd, Nat.reduceLeDiff, not_true_eq_false, not_false_eq_true, if_true, if_false, ite_true, ite_false, Int32.reduceLT, ite_not, eq_self, or_true, true_or, ite_self, reduceIte, hx]
  have ha3 : Ag MlP w (wI w2 63 (11 + 2 * k) v) := ((ha1.wk fun j i z => by omega).tr (ha2.wk fun j i z => by omega)).wI (Or.inr rfl)
  have hG3 : R63 (wI w2 63 (11 + 2 * k) v) (updG G (11 + 2 * k) v) := R63.wI (hG1.ag ha2 (fun i hi z => by omega))
  have hS3 : MSf (wI w2 63 (11 + 2 * k) v) B n (bd3 B n N c τ) := hS2'.w63
  have hN3 : (bd1 B n N c τ).2 = none → MNM (wI w2 63 (11 + 2 * k) v) B (c + 1) (adN N c (τ.1, τ.2.1, 5, k)) := fun z => ((hN1 z).ag ha2 (fun i hi y => by omega)).w63 (by omega)
  generalize wI w2 63 (11 + 2 * k) v = w3 at ha3 hG3 hS3 hN3 ⊢
  refine u_side hS3 fun w4 v4 ha4 hS4 hv4 => ?_
  have hS4' : MSf w4 B n (bd4 B n N c τ) := hS4
  have hx1 : 11 + 2 * k + 1 < 191 := by omega
  simp +decide (disch := omega) only [↓EQA, CEA, LIA, NIA, Nat.lt_irrefl, Option.toList_some, Option.toList_none, List.cons_append, List.nil_append, true_and, and_true, Nat.reduceAdd, Nat.reduceLeDiff, not_true_eq_false, not_false_eq_true, if_true, if_false, ite_true, ite_false, Int32.reduceLT, ite_not, eq_self, or_true, true_or, ite_self, reduceIte, hx1]
  have ha5 : Ag MlP w (wI w4 63 (11 + 2 * k + 1) v4) := (ha3.tr (ha4.wk fun j i z => by omega)).wI (Or.inr rfl)
  have hG5 : R63 (wI w4 63 (11 + 2 * k + 1) v4) (updG (updG G (11 + 2 * k) v) (11 + 2 * k + 1) v4) := R63.wI (hG3.ag ha4 (fun i hi z => by omega))
  have hS5 : MSf (wI w4 63 (11 + 2 * k + 1) v4) B n (bd4 B n N c τ) := hS4'.w63
  have hN5 : (bd1 B n N c τ).2 = none → MNM (wI w4 63 (11 + 2 * k + 1) v4) B (c + 1) (adN N c (τ.1, τ.2.1, 5, k)) := fun z => ((hN3 z).ag ha4 (fun i hi y => by omega)).w63 (by omega)
  generalize wI w4 63 (11 + 2 * k + 1) v4 = w5 at ha5 hG5 hS5 hN5 ⊢
  cases hbl : (bd4 B n N c τ).2 with
  | some e =>
    have hf5 : w5.1 59 13 = 1 := by have := hS5.2; rw [hbl] at this; exact this.1
    simp +decide (disch := omega) only [↓EQA, CEA, LIA, NIA, Nat.lt_irrefl, Option.toList_some, Option.toList_none, List.cons_append, List.nil_append, true_and, and_true, Nat.reduceAdd, Nat.reduceLeDiff, not_true_eq_false, not_false_eq_true, if_true, if_false, ite_true, ite_false, Int32.reduceLT, ite_not, eq_self, or_true, true_or, ite_self, reduceIte, hf5, B_X11_bendLine_J1]
    exact hQ w5 ha5 hS5 (fun z => by rw [hbl] at z; cases z)
  | none =>
    have hf5 : w5.1 59 13 = 0 := by have := hS5.2; rw [hbl] at this; exact this.1
    have n3 := (cst_none (f := eSide B n) (s := bd3 B n N c τ) hbl).1
    have n2 := (cst_none (f := eWhole B n 1 30) (s := bd2 B n N c τ) n3).1
    have n1 := (cst_none (f := eWord B n 13) (s := bd1 B n N c τ) n2).1
    have k55 : w5.1 63 5 = nI k := by
      rw [hG5 5 (by decide)]
      unfold updG
      rw [if_neg (by omega), if_neg (by omega)]; exact hk
    simp +decide (disch := omega) only [↓EQA, CEA, LIA, NIA, Nat.lt_irrefl, Option.toList_some, Option.toList_none, List.cons_append, List.nil_append, true_and, and_true, Nat.reduceAdd, Nat.reduceLeDiff, not_true_eq_false, not_false_eq_true, if_true, if_false, ite_true, ite_false, Int32.reduceLT, ite_not, eq_self, or_true, true_or, ite_self, reduceIte, hf5, k55, nI_1, B_X11_bendLine_J1]
    refine hQ _ (ha5.wI (Or.inr rfl)) hS5.w63 (fun _ => ⟨(hN5 n1).w63 (by decide), ?_⟩)
    have e1 : v = nI (valT B (bd2 B n N c τ).1) := hv n3
    have e2 : v4 = nI (sdV B (bd3 B n N c τ).1) := hv4 hbl
    rw [← e1, ← e2]
    exact R63.wI hG5
theorem u_lodgerLine (hS : MSf w B n (τ, none)) (hN : MNM w B c N) (hP : NMP B n b h k c N) (hb : b ≤ 4) (hh : h ≤ 4) (hk5 : k < 5) (hG : R63 w G) (hk : G 7 = nI k) (hQ : ∀ w', Ag MlP w w' → MSf w' B n (ld5 B n N c τ) → ((ld5 B n N c τ).2 = none → MNM w' B (c + 1) (adN N c (τ.1, τ.2.1, 7, k)) ∧ R63 w' (updG (updG (updG G (35 + 4 * k) (nI (valT B (ld2 B n N c τ).1))) (35 + 4 * k + 1) (nI (valT B (ld4 B n N c τ).1))) 7 (nI (k + 1)))) → Q none w') : Cl (d + 9) m_X11_lodgerLine [.ref 59] w Q := by
  have hf : w.1 59 13 = 0 := hS.2.1
  have k7 : w.1 63 7 = nI k := by rw [hG 7 (by decide)]; exact hk
  have ei : 35 + 4 * nI k = nI (35 + 4 * k) := by rw [show (35 : Int32) = nI 35 from rfl, show (4 : Int32) = nI 4 from rfl, nI_mul, nI_add]
  refine Cl_of k_X11_lodgerLine.1 (Nat.le_of_ble_eq_true rfl) (show Wp m_X11_lodgerLine _ 0 _ 0 [.ref 59, .null] [] _ from S_X11_lodgerLine_0 _ _ _ ?_)
  simp +decide (disch := omega) only [↓EQA, CEA, LIA, NIA, Nat.lt_irrefl, Option.toList_some, Option.toList_none, List.cons_append, List.nil_append, true_and, and_true, Nat.reduceAdd, Nat.reduceLeDiff, not_true_eq_false, not_false_eq_true, if_true, if_false, ite_true, ite_false, Int32.reduceLT, ite_not, eq_self, or_true, true_or, ite_self, reduceIte, B_X11_lodgerLine_0, hf, k7, ei]
  refine u_newName (so := 7) (nu := k) hS hN hP hb hh (by omega) (k := 8 + k) (by omega) (by unfold slN; simp) (fun i hi e => ?_) fun w1 ha1 hS1 hN1 => ?_
  · have := (hP.2.1 i hi).2
    unfold slN at e
    rcases this with ⟨e1, q⟩ | ⟨e1, q⟩ | ⟨e1, q⟩ <;> rw [e1] at e <;> simp at e <;> omega
  have hG1 : R63 w1 G := hG.ag ha1 (fun i hi z => by omega)
  have hS1' : MSf w1 B n (bd1 B n N c τ) := hS1
  simp +decide (disch := omega) only [↓EQA, CEA, LIA, NIA, Nat.lt_irrefl, Option.toList_some, Option.toList_none, List.cons_append, List.nil_append, true_and, and_true, Nat.reduceAdd, Nat.reduceLeDiff, not_true_eq_false, not_false_eq_true, if_true, if_false, ite_true, ite_false, Int32.reduceLT, ite_not, eq_self, or_true, true_or, ite_self, reduceIte]
  refine u_after (i := 22) (lo := 0) (hi := 30) (by decide) (by decide) (by decide) hS1' fun w2 v ha2 hS2 hv => ?_
  have hS2' : MSf w2 B n (ld3 B n N c τ) := hS2
  have hx : 35 + 4 * k < 191 := by omega
  simp +decide (disch := omega) only [↓EQA, CEA, LIA, NIA, Nat.lt_irrefl, Option.toList_some, Option.toList_none, List.cons_append, List.nil_append, true_and, and_true, Nat.reduceAdd, Nat.reduceLeDiff, not_true_eq_false, not_false_eq_true, if_true, if_false, ite_true, ite_false, Int32.reduceLT, ite_not, eq_self, or_true, true_or, ite_self, reduceIte, hx]
  have ha3 : Ag MlP w (wI w2 63 (35 + 4 * k) v) := ((ha1.wk fun j i z => by omega).tr (ha2.wk fun j i z => by omega)).wI (Or.inr rfl)
  have hG3 : R63 (wI w2 63 (35 + 4 * k) v) (updG G (35 + 4 * k) v) := R63.wI (hG1.ag ha2 (fun i hi z => by omega))
  have hS3 : MSf (wI w2 63 (35 + 4 * k) v) B n (ld3 B n N c τ) := hS2'.w63
  have hN3 : (bd1 B n N c τ).2 = none → MNM (wI w2 63 (35 + 4 * k) v) B (c + 1) (adN N c (τ.1, τ.2.1, 7, k)) := fun z => ((hN1 z).ag ha2 (fun i hi y => by omega)).w63 (by omega)
  generalize wI w2 63 (35 + 4 * k) v = w3 at ha3 hG3 hS3 hN3 ⊢
  refine u_after (i := 23) (lo := 0) (hi := 9) (by decide) (by decide) (by decide) hS3 fun w4 v4 ha4 hS4 hv4 => ?_
  have hS4' : MSf w4 B n (ld5 B n N c τ) := hS4
  have hx1 : 35 + 4 * k + 1 < 191 := by omega
  simp +decide (disch := omega) only [↓EQA, CEA, LIA, NIA, Nat.lt_irrefl, Option.toList_some, Option.toList_none, List.cons_append, List.nil_append, true_and, and_true, Nat.reduceAdd, Nat.reduceLeDiff, not_true_eq_false, not_false_eq_true, if_true, if_false, ite_true, ite_false, Int32.reduceLT, ite_not, eq_self, or_true, true_or, ite_self, reduceIte, hx1]
  have ha5 : Ag MlP w (wI w4 63 (35 + 4 * k + 1) v4) := (ha3.tr (ha4.wk fun j i z => by omega)).wI (Or.inr rfl)
  have hG5 : R63 (wI w4 63 (35 + 4 * k + 1) v4) (updG (updG G (35 + 4 * k) v) (35 + 4 * k + 1) v4) := R63.wI (hG3.ag ha4 (fun i hi z => by omega))
  have hS5 : MSf (wI w4 63 (35 + 4 * k + 1) v4) B n (ld5 B n N c τ) := hS4'.w63
  have hN5 : (bd1 B n N c τ).2 = none → MNM (wI w4 63 (35 + 4 * k + 1) v4) B (c + 1) (adN N c (τ.1, τ.2.1, 7, k)) := fun z => ((hN3 z).ag ha4 (fun i hi y => by omega)).w63 (by omega)
  generalize wI w4 63 (35 + 4 * k + 1) v4 = w5 at ha5 hG5 hS5 hN5 ⊢
  cases hbl : (ld5 B n N c τ).2 with
  | some e =>
    have hf5 : w5.1 59 13 = 1 := by have := hS5.2; rw [hbl] at this; exact this.1
    simp +decide (disch := omega) only [↓EQA, CEA, LIA, NIA, Nat.lt_irrefl, Option.toList_some, Option.toList_none, List.cons_append, List.nil_append, true_and, and_true, Nat.reduceAdd, Nat.reduceLeDiff, not_true_eq_false, not_false_eq_true, if_true, if_false, ite_true, ite_false, Int32.reduceLT, ite_not, eq_self, or_true, true_or, ite_self, reduceIte, hf5, B_X11_lodgerLine_J1]
    exact hQ w5 ha5 hS5 (fun z => by rw [hbl] at z; cases z)
  | none =>
    have hf5 : w5.1 59 13 = 0 := by have := hS5.2; rw [hbl] at this; exact this.1
    have n4 := (cst_none (f := eWhole B n 0 9) (s := ld4 B n N c τ) hbl).1
    have n3 := (cst_none (f := eWord B n 23) (s := ld3 B n N c τ) n4).1
    have n2 := (cst_none (f := eWhole B n 0 30) (s := ld2 B n N c τ) n3).1
    have n1 := (cst_none (f := eWord B n 22) (s := bd1 B n N c τ) n2).1
    have k57 : w5.1 63 7 = nI k := by
      rw [hG5 7 (by decide)]
      unfold updG
      rw [if_neg (by omega), if_neg (by omega)]; exact hk
    simp +decide (disch := omega) only [↓EQA, CEA, LIA, NIA, Nat.lt_irrefl, Option.toList_some, Option.toList_none, List.cons_append, List.nil_append, true_and, and_true, Nat.reduceAdd, Nat.reduceLeDiff, not_true_eq_false, not_false_eq_true, if_true, if_false, ite_true, ite_false, Int32.reduceLT, ite_not, eq_self, or_true, true_or, ite_self, reduceIte, hf5, k57, nI_1, B_X11_lodgerLine_J1]
    refine hQ _ (ha5.wI (Or.inr rfl)) hS5.w63 (fun _ => ⟨(hN5 n1).w63 (by decide), ?_⟩)
    have e1 : v = nI (valT B (ld2 B n N c τ).1) := hv n3
    have e2 : v4 = nI (valT B (ld4 B n N c τ).1) := hv4 hbl
    rw [← e1, ← e2]
    exact R63.wI hG5
theorem u_prizeLine (hS : MSf w B n (τ, none)) (hk4 : k < 4) (hG : R63 w G) (hk : G 9 = nI k) (hQ : ∀ w', Ag MlP w w' → MSf w' B n (cst (eWhole B n 0 99) (τ, none)) → (∀ i, 74 ≤ i → w'.1 63 i = w.1 63 i) → ((cst (eWhole B n 0 99) (τ, none)).2 = none → R63 w' (updG (updG G (55 + k) (nI (valT B τ))) 9 (nI (k + 1)))) → Q none w') : Cl (d + 9) m_X11_prizeLine [.ref 59] w Q := by
  refine Cl_of k_X11_prizeLine.1 (Nat.le_of_ble_eq_true rfl) (show Wp m_X11_prizeLine _ 0 _ 0 [.ref 59, .null] [] _ from S_X11_prizeLine_0 _ _ _ ?_)
  simp +decide (disch := omega) only [↓EQA, CEA, LIA, NIA, Nat.lt_irrefl, Option.toList_some, Option.toList_none, List.cons_append, List.nil_append, true_and, and_true, Nat.reduceAdd, Nat.reduceLeDiff, not_true_eq_false, not_false_eq_true, if_true, if_false, ite_true, ite_false, Int32.reduceLT, ite_not, eq_self, or_true, true_or, ite_self, reduceIte, B_X11_prizeLine_0]
  refine u_number (lo := 0) (hi := 99) (by decide) (by decide) hS fun w1 v ha1 hS1 hv => ?_
  have hG1 : R63 w1 G := hG.ag ha1 (fun i hi z => by omega)
  have k9 : w1.1 63 9 = nI k := by rw [hG1 9 (by decide)]; exact hk
  cases hbl : (cst (eWhole B n 0 99) (τ, none)).2 with
  | some e =>
    have hf1 : w1.1 59 13 = 1 := by have := hS1.2; rw [hbl] at this; exact this.1
    simp +decide (disch := omega) only [↓EQA, CEA, LIA, NIA, Nat.lt_irrefl, Option.toList_some, Option.toList_none, List.cons_append, List.nil_append, true_and, and_true, Nat.reduceAdd, Nat.reduceLeDiff, not_true_eq_false, not_false_eq_true, if_true, if_false, ite_true, ite_false, Int32.reduceLT, ite_not, eq_self, or_true, true_or, ite_self, reduceIte, hf1]
    exact hQ w1 (ha1.wk fun j i z => Or.inl z) hS1 (fun i hi => (ha1 63 i (by omega)).1) (fun z => by rw [hbl] at z; cases z)
  | none =>
    have hf1 : w1.1 59 13 = 0 := by have := hS1.2; rw [hbl] at this; exact this.1
    have hx : 55 + k < 191 := by omega
    have k9' : (wI w1 63 (55 + k) v).1 63 9 = nI k := by rw [wI_get, if_neg (by omega)]; exact k9
    simp +decide (disch := omega) only [↓EQA, CEA, LIA, NIA, Nat.lt_irrefl, Option.toList_some, Option.toList_none, List.cons_append, List.nil_append, true_and, and_true, Nat.reduceAdd, Nat.reduceLeDiff, not_true_eq_false, not_false_eq_true, if_true, if_false, ite_true, ite_false, Int32.reduceLT, ite_not, eq_self, or_true, true_or, ite_self, reduceIte, hf1, k9, hx, k9', nI_1]
    have haM : Ag MlP w w1 := ha1.wk fun j i z => Or.inl z
    refine hQ _ ((haM.wI (Or.inr rfl)).wI (Or.inr rfl)) hS1.w63.w63 (fun i hi => ?_) (fun _ => ?_)
    · rw [wI_get, if_neg (by omega), wI_get, if_neg (by omega)]; exact (ha1 63 i (by omega)).1
    · have e1 : v = nI (valT B τ) := hv hbl
      rw [← e1]
      exact R63.wI (R63.wI hG1)
end MLines
