/-! ===== rows of places: of each lodger 0 (ashore) or the house + 1; lanes 5, lit 6, water 7 ===== -/
def cwB (b : Nat → Bool) : Nat := fld (fun l a => if b l then a + 2 ^ l else a) 5 0
def cw (D : Nat → Nat) (h : Nat) : Nat := cwB (fun l => decide (D l = h + 1))
theorem cwB5 (b0 b1 b2 b3 b4 : Bool) : cwB (fun l => match l with | 0 => b0 | 1 => b1 | 2 => b2 | 3 => b3 | _ => b4) < 32 ∧ ∀ l : Fin 5, (cwB (fun l => match l with | 0 => b0 | 1 => b1 | 2 => b2 | 3 => b3 | _ => b4)).testBit l.val = (match l.val with | 0 => b0 | 1 => b1 | 2 => b2 | 3 => b3 | _ => b4) := by
  cases b0 <;> cases b1 <;> cases b2 <;> cases b3 <;> cases b4 <;> decide +kernel
theorem cwB_5 (b : Nat → Bool) : cwB b = cwB (fun l => match l with | 0 => b 0 | 1 => b 1 | 2 => b 2 | 3 => b 3 | _ => b 4) := by
  unfold cwB
  exact fld_congr (fun l a hl => by rw [five (p := b) l hl]; rfl) 0
theorem cwB_lt (b : Nat → Bool) : cwB b < 32 := by rw [cwB_5]; exact (cwB5 _ _ _ _ _).1
theorem cwB_bit (b : Nat → Bool) {l : Nat} (hl : l < 5) : (cwB b).testBit l = b l := by rw [cwB_5, (cwB5 _ _ _ _ _).2 ⟨l, hl⟩]; exact (five (p := b) l hl).symm
theorem cw_lt (D : Nat → Nat) (h : Nat) : cw D h < 32 := cwB_lt _
theorem cw_bit (D : Nat → Nat) (h : Nat) {l : Nat} (hl : l < 5) : (cw D h).testBit l = decide (D l = h + 1) := cwB_bit _ hl
theorem eq_bits {x y : Nat} (hx : x < 32) (hy : y < 32) (h : ∀ l, l < 5 → x.testBit l = y.testBit l) : x = y := by
  apply Nat.eq_of_testBit_eq
  intro i
  by_cases q : i < 5
  · exact h i q
  · have p : (32 : Nat) ≤ 2 ^ i := Nat.pow_le_pow_right (n := 2) (by decide) (show 5 ≤ i by omega)
    rw [Nat.testBit_lt_two_pow (by omega), Nat.testBit_lt_two_pow (by omega)]
theorem cw_congr {D D' : Nat → Nat} {h : Nat} (hd : ∀ l, l < 5 → (D l = h + 1 ↔ D' l = h + 1)) : cw D h = cw D' h := by
  refine eq_bits (cw_lt _ _) (cw_lt _ _) fun l hl => ?_
  rw [cw_bit _ _ hl, cw_bit _ _ hl, decide_eq_decide]
  exact hd l hl
def RS (D : Nat → Nat) : Rc := (cw D, D 7, 0, D 6, D 5)
abbrev DOK (D : Nat → Nat) : Prop := (∀ l, l < 5 → D l ≤ 4) ∧ D 5 < 16 ∧ D 6 < 16 ∧ D 7 ≤ 20
theorem DOK.rok {D : Nat → Nat} (h : DOK D) : ROK (RS D) := ⟨fun a _ => cw_lt D a, h.2.2.2, (by decide : (0 : Nat) < 16), h.2.2.1, h.2.1⟩
abbrev MR (w : Mem) (row : Nat) (D : Nat → Nat) : Prop := ∀ i, i < 8 → w.1 row i = nI (D i)
theorem RM_of {w : Mem} {row s : Nat} {D : Nat → Nat} (h : MR w row D) (hD : DOK D) (hs : s < 16) (hw : w.1 59 22 = nI s) : RM w row (VC (RRain (RS D) s)) := by
  obtain ⟨d1, d2, d3, d4⟩ := hD
  refine ⟨fun a l ha hl => ?_, h 7 (by decide), fun a ha => ?_, fun a ha => ?_, fun a ha => ?_⟩
  · rw [h l (by omega), eq_n (by have := d1 l hl; omega) (by omega)]
    show _ = ((cw D a).testBit l = true)
    rw [cw_bit D a hl]
    simp
  · rw [h 5 (by decide)]; exact lnN d2 ha
  · rw [h 6 (by decide)]; exact bbN (by omega) (by omega)
  · rw [hw]; exact bbN (by omega) (by omega)
/-- a house's total by its crew -/
def toC (T : Tv) (R : Rc) (h c : Nat) : Int32 := TO T (VC (fun _ => c, R.2)) h
theorem toC_eq (T : Tv) (R : Rc) (h : Nat) : TO T (VC R) h = toC T R h (R.1 h) := rfl
theorem sh5 {n : Nat} (h : n ≤ 5) : (1 : Int32) <<< (nI n &&& 31) = nI (2 ^ n) ∧ 2 ^ n ≤ 32 := by
  rcases (by omega : n = 0 ∨ n = 1 ∨ n = 2 ∨ n = 3 ∨ n = 4 ∨ n = 5) with rfl | rfl | rfl | rfl | rfl | rfl <;> decide
abbrev RcH (R1 : Nat → Nat) (h x : Nat) : Nat → Nat := fun g => if g = h then x else R1 g
theorem RC.crew {w : Mem} {R : Rc} {h x : Nat} (hC : RC w 18 19 R) : RC (wI w 19 h (nI x)) 18 19 (RcH R.1 h x, R.2) := by
  obtain ⟨c1, c2⟩ := hC
  refine ⟨fun a ha => ?_, c2⟩
  rw [wI_get]
  show _ = nI (if a = h then x else R.1 a)
  by_cases q : a = h
  · rw [if_pos ⟨rfl, q⟩, if_pos q]
  · rw [if_neg (fun z => q z.2), if_neg q]; exact c1 a ha
theorem RcH_ok {R1 : Nat → Nat} {h x : Nat} (h1 : ∀ g, g < 4 → R1 g < 32) (hx : x < 32) : ∀ g, g < 4 → RcH R1 h x g < 32 := by
  intro g hg
  show (if g = h then x else R1 g) < 32
  split
  · exact hx
  · exact h1 g hg
section Loads1
variable {d : Nat} {w : Mem} {Q : Option Value → Mem → Prop} {T : Tv} {R : Rc} {n h r : Nat}
abbrev TrP : Nat → Nat → Prop := fun j _ => j = 18 ∨ j = 19
theorem t_forget (hQ : Q none (wI w 45 9 (-3))) : Cl (d + 1) m_X2_forget [.ref 45] w Q := by
  refine Cl_of k_X2_forget.1 (Nat.le_of_ble_eq_true rfl) (show Wp m_X2_forget _ 0 _ 0 [.ref 45] [] _ from S_X2_forget_0 _ _ _ ?_)
  simp +decide (disch := omega) only [↓EQA, CEA, LIA, NIA, Nat.lt_irrefl, Option.toList_some, Option.toList_none, List.cons_append, List.nil_append, true_and, and_true, Nat.reduceAdd, Nat.reduceLeDiff, not_true_eq_false, not_false_eq_true, if_true, if_false, ite_true, ite_false, Int32.reduceLT, ite_not, eq_self, or_true, true_or, ite_self, reduceIte, B_X2_forget_0]
  exact hQ
/-- the trial is now but for one crew: its total -/
theorem t_wholeC {R1 : Nat → Nat} (hT : Told w T) (hZ : SZ T) (hC : RC w 18 19 (R1, R.2)) (h1 : ∀ g, g < 4 → R1 g < 32) (hR : ROK R) (hh : h < 4) (hQ : Q (some (.int (toC T R h (R1 h)))) w) : Cl (d + 4) m_X4_wholeTime [.ref 18, .int (nI h)] w Q := by
  have hR1 : ROK (R1, R.2) := ⟨h1, hR.2⟩
  refine t_wholeTime RK_trial hT hZ (hC.rv hR1) hh ?_
  exact hQ
def ltS (T : Tv) (R : Rc) (h c : Nat) (a : Int32) : Int32 := if T 5 h < nI (pc5 c) then a else if toC T R h c < a then toC T R h c else a
theorem t_leastTime (hT : Told w T) (hZ : SZ T) (hC : RC w 16 17 R) (hR : ROK R) (hh : h < 4) (hQ : ∀ w', Ag TrP w w' → Q (some (.int (fld (ltS T R h) (2 ^ nL T) 1000000))) w') : Cl (d + 5) m_X2_leastTime [.ref 45, .int (nI h)] w Q := by
  have hz := hZ.2
  obtain ⟨e2, hp⟩ := sh5 hz.2.2.1
  refine Cl_of k_X2_leastTime.1 (Nat.le_of_ble_eq_true rfl) (show Wp m_X2_leastTime _ 0 _ 0 [.ref 45, .int (nI h), .null, .null] [] _ from S_X2_leastTime_0 _ _ _ ?_)
  simp +decide (disch := omega) only [↓EQA, CEA, LIA, NIA, Nat.lt_irrefl, Option.toList_some, Option.toList_none, List.cons_append, List.nil_append, true_and, and_true, Nat.reduceAdd, Nat.reduceLeDiff, not_true_eq_false, not_false_eq_true, if_true, if_false, ite_true, ite_false, Int32.reduceLT, ite_not, eq_self, or_true, true_or, ite_self, reduceIte, B_X2_leastTime_0]
  refine t_become RK_trial RK_now (by decide) hC fun w0 ha0 hC0 => ?_
  simp +decide (disch := omega) only [↓EQA, CEA, LIA, NIA, Nat.lt_irrefl, Option.toList_some, Option.toList_none, List.cons_append, List.nil_append, true_and, and_true, Nat.reduceAdd, Nat.reduceLeDiff, not_true_eq_false, not_false_eq_true, if_true, if_false, ite_true, ite_false, Int32.reduceLT, ite_not, eq_self, or_true, true_or, ite_self, reduceIte]
  have key : ∀ m c, c + m = 2 ^ nL T → ∀ w1 R1, Ag TrP w w1 → RC w1 18 19 (R1, R.2) → (∀ g, g < 4 → R1 g < 32) → Wp m_X2_leastTime (d + 4) 0 Q 16 [.ref 45, .int (nI h), .int (fld (ltS T R h) c 1000000), .int (nI c)] [] w1 := by
    intro m
    induction m with
    | zero =>
      intro c hc w1 R1 ha hC1 hR1
      have : c = 2 ^ nL T := by omega
      subst this
      have hT1 : Told w1 T := hT.ag ha (fun a b p q z => by omega)
      refine S_X2_leastTime_L1 _ _ _ ?_
      simp +decide (disch := omega) only [↓EQA, CEA, LIA, NIA, Nat.lt_irrefl, Option.toList_some, Option.toList_none, List.cons_append, List.nil_append, true_and, and_true, Nat.reduceAdd, Nat.reduceLeDiff, not_true_eq_false, not_false_eq_true, if_true, if_false, ite_true, ite_false, Int32.reduceLT, ite_not, eq_self, or_true, true_or, ite_self, reduceIte, B_X2_leastTime_L1, hT1, hZ.1, e2]
      exact hQ w1 ha
    | succ m ih =>
      intro c hc w1 R1 ha hC1 hR1
      have hc1 : c < 2 ^ nL T := by omega
      have hc32 : c < 32 := by omega
      have hT1 : Told w1 T := hT.ag ha (fun a b p q z => by omega)
      have ha2 := ha.wI (k := 19) (p := h) (v := nI c) (Or.inr rfl)
      have hT2 : Told (wI w1 19 h (nI c)) T := hT.ag ha2 (fun a b p q z => by omega)
      have hC2 : RC (wI w1 19 h (nI c)) 18 19 (RcH R1 h c, R.2) := RC.crew (R := (R1, R.2)) hC1
      have hR2 := RcH_ok (h := h) hR1 hc32
      have hn := ih (c + 1) (by omega) _ _ ha2 hC2 hR2
      have efl : fld (ltS T R h) (c + 1) 1000000 = ltS T R h c (fld (ltS T R h) c 1000000) := rfl
      rw [efl] at hn
      generalize fld (ltS T R h) c 1000000 = a at hn ⊢
      unfold ltS at hn
      refine S_X2_leastTime_L1 _ _ _ ?_
      simp +decide (disch := omega) only [↓EQA, CEA, LIA, NIA, Nat.lt_irrefl, Option.toList_some, Option.toList_none, List.cons_append, List.nil_append, true_and, and_true, Nat.reduceAdd, Nat.reduceLeDiff, not_true_eq_false, not_false_eq_true, if_true, if_false, ite_true, ite_false, Int32.reduceLT, ite_not, eq_self, or_true, true_or, ite_self, reduceIte, B_X2_leastTime_L1, hT1, hZ.1, e2, hc1]
      refine t_bitCount hc32 ?_
      simp +decide (disch := omega) only [↓EQA, CEA, LIA, NIA, Nat.lt_irrefl, Option.toList_some, Option.toList_none, List.cons_append, List.nil_append, true_and, and_true, Nat.reduceAdd, Nat.reduceLeDiff, not_true_eq_false, not_false_eq_true, if_true, if_false, ite_true, ite_false, Int32.reduceLT, ite_not, eq_self, or_true, true_or, ite_self, reduceIte, B_X2_leastTime_J1, hT2]
      split
      · next q => rw [if_pos q] at hn; exact hn
      · next q =>
        rw [if_neg q] at hn
        refine t_wholeC hT2 hZ hC2 hR2 hR hh ?_
        have e3 : RcH R1 h c h = c := if_pos rfl
        simp +decide (disch := omega) only [↓EQA, CEA, LIA, NIA, Nat.lt_irrefl, Option.toList_some, Option.toList_none, List.cons_append, List.nil_append, true_and, and_true, Nat.reduceAdd, Nat.reduceLeDiff, not_true_eq_false, not_false_eq_true, if_true, if_false, ite_true, ite_false, Int32.reduceLT, ite_not, eq_self, or_true, true_or, ite_self, reduceIte, B_X2_leastTime_J1, e3]
        exact hn
  exact key (2 ^ nL T) 0 (by omega) w0 R.1 ha0 hC0 hR.1
def ffS (T : Tv) (R : Rc) (h : Nat) (most : Int32) (c : Nat) (a : Int32 × Int32) : Int32 × Int32 := if nI (pc5 c) < a.2 then (if most < toC T R h c then a else (nI c, nI (pc5 c))) else a
theorem t_fewestFor {most : Int32} (hT : Told w T) (hZ : SZ T) (hC : RC w 16 17 R) (hR : ROK R) (hh : h < 4) (hQ : ∀ w', Ag TrP w w' → Q (some (.int (fld (ffS T R h most) (2 ^ nL T) (-2, T 5 h + 1)).1)) w') : Cl (d + 5) m_X2_fewestFor [.ref 45, .int (nI h), .int most] w Q := by
  have hz := hZ.2
  obtain ⟨e2, hp⟩ := sh5 hz.2.2.1
  refine Cl_of k_X2_fewestFor.1 (Nat.le_of_ble_eq_true rfl) (show Wp m_X2_fewestFor _ 0 _ 0 [.ref 45, .int (nI h), .int most, .null, .null, .null] [] _ from S_X2_fewestFor_0 _ _ _ ?_)
  simp +decide (disch := omega) only [↓EQA, CEA, LIA, NIA, Nat.lt_irrefl, Option.toList_some, Option.toList_none, List.cons_append, List.nil_append, true_and, and_true, Nat.reduceAdd, Nat.reduceLeDiff, not_true_eq_false, not_false_eq_true, if_true, if_false, ite_true, ite_false, Int32.reduceLT, ite_not, eq_self, or_true, true_or, ite_self, reduceIte, B_X2_fewestFor_0]
  refine t_become RK_trial RK_now (by decide) hC fun w0 ha0 hC0 => ?_
  have hT0 : Told w0 T := hT.ag ha0 (fun a b p q z => by omega)
  simp +decide (disch := omega) only [↓EQA, CEA, LIA, NIA, Nat.lt_irrefl, Option.toList_some, Option.toList_none, List.cons_append, List.nil_append, true_and, and_true, Nat.reduceAdd, Nat.reduceLeDiff, not_true_eq_false, not_false_eq_true, if_true, if_false, ite_true, ite_false, Int32.reduceLT, ite_not, eq_self, or_true, true_or, ite_self, reduceIte, hT0]
  have key : ∀ m c, c + m = 2 ^ nL T → ∀ w1 R1, Ag TrP w w1 → RC w1 18 19 (R1, R.2) → (∀ g, g < 4 → R1 g < 32) → Wp m_X2_fewestFor (d + 4) 0 Q 30 [.ref 45, .int (nI h), .int most, .int (fld (ffS T R h most) c (-2, T 5 h + 1)).1, .int (fld (ffS T R h most) c (-2, T 5 h + 1)).2, .int (nI c)] [] w1 := by
    intro m
    induction m with
    | zero =>
      intro c hc w1 R1 ha hC1 hR1
      have : c = 2 ^ nL T := by omega
      subst this
      have hT1 : Told w1 T := hT.ag ha (fun a b p q z => by omega)
      refine S_X2_fewestFor_L1 _ _ _ ?_
      simp +decide (disch := omega) only [↓EQA, CEA, LIA, NIA, Nat.lt_irrefl, Option.toList_some, Option.toList_none, List.cons_append, List.nil_append, true_and, and_true, Nat.reduceAdd, Nat.reduceLeDiff, not_true_eq_false, not_false_eq_true, if_true, if_false, ite_true, ite_false, Int32.reduceLT, ite_not, eq_self, or_true, true_or, ite_self, reduceIte, B_X2_fewestFor_L1, hT1, hZ.1, e2]
      exact hQ w1 ha
    | succ m ih =>
      intro c hc w1 R1 ha hC1 hR1
      have hc1 : c < 2 ^ nL T := by omega
      have hc32 : c < 32 := by omega
      have hT1 : Told w1 T := hT.ag ha (fun a b p q z => by omega)
      have ha2 := ha.wI (k := 19) (p := h) (v := nI c) (Or.inr rfl)
      have hT2 : Told (wI w1 19 h (nI c)) T := hT.ag ha2 (fun a b p q z => by omega)
      have hC2 : RC (wI w1 19 h (nI c)) 18 19 (RcH R1 h c, R.2) := RC.crew (R := (R1, R.2)) hC1
      have hR2 := RcH_ok (h := h) hR1 hc32
      have hn := ih (c + 1) (by omega) _ _ ha2 hC2 hR2
      have efl : fld (ffS T R h most) (c + 1) (-2, T 5 h + 1) = ffS T R h most c (fld (ffS T R h most) c (-2, T 5 h + 1)) := rfl
      rw [efl] at hn
      generalize fld (ffS T R h most) c (-2, T 5 h + 1) = a at hn ⊢
      unfold ffS at hn
      refine S_X2_fewestFor_L1 _ _ _ ?_
      simp +decide (disch := omega) only [↓EQA, CEA, LIA, NIA, Nat.lt_irrefl, Option.toList_some, Option.toList_none, List.cons_append, List.nil_append, true_and, and_true, Nat.reduceAdd, Nat.reduceLeDiff, not_true_eq_false, not_false_eq_true, if_true, if_false, ite_true, ite_false, Int32.reduceLT, ite_not, eq_self, or_true, true_or, ite_self, reduceIte, B_X2_fewestFor_L1, hT1, hZ.1, e2, hc1]
      refine t_bitCount hc32 ?_
      simp +decide (disch := omega) only [↓EQA, CEA, LIA, NIA, Nat.lt_irrefl, Option.toList_some, Option.toList_none, List.cons_append, List.nil_append, true_and, and_true, Nat.reduceAdd, Nat.reduceLeDiff, not_true_eq_false, not_false_eq_true, if_true, if_false, ite_true, ite_false, Int32.reduceLT, ite_not, eq_self, or_true, true_or, ite_self, reduceIte, B_X2_fewestFor_J1]
      by_cases q : nI (pc5 c) < a.2
      · rw [if_pos q] at hn ⊢
        refine t_wholeC hT2 hZ hC2 hR2 hR hh ?_
        have e3 : RcH R1 h c h = c := if_pos rfl
        simp +decide (disch := omega) only [↓EQA, CEA, LIA, NIA, Nat.lt_irrefl, Option.toList_some, Option.toList_none, List.cons_append, List.nil_append, true_and, and_true, Nat.reduceAdd, Nat.reduceLeDiff, not_true_eq_false, not_false_eq_true, if_true, if_false, ite_true, ite_false, Int32.reduceLT, ite_not, eq_self, or_true, true_or, ite_self, reduceIte, B_X2_fewestFor_J1, e3]
        by_cases q2 : most < toC T R h c
        · rw [if_pos q2] at hn ⊢; exact hn
        · rw [if_neg q2] at hn ⊢
          refine t_bitCount hc32 ?_
          simp +decide (disch := omega) only [↓EQA, CEA, LIA, NIA, Nat.lt_irrefl, Option.toList_some, Option.toList_none, List.cons_append, List.nil_append, true_and, and_true, Nat.reduceAdd, Nat.reduceLeDiff, not_true_eq_false, not_false_eq_true, if_true, if_false, ite_true, ite_false, Int32.reduceLT, ite_not, eq_self, or_true, true_or, ite_self, reduceIte, B_X2_fewestFor_J1]
          exact hn
      · rw [if_neg q] at hn ⊢; exact hn
  exact key (2 ^ nL T) 0 (by omega) w0 R.1 ha0 hC0 hR.1
end Loads1
