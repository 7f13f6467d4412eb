/-! ===== reading: the class's token with its blame ===== -/
abbrev Tk3 : Type := Nat × Nat × Nat
theorem rn_spec (P : Nat → Bool) {p n : Nat} (h : p ≤ n) : p ≤ rn P p n ∧ rn P p n ≤ n ∧ (∀ i, p ≤ i → i < rn P p n → P i = true) ∧ (rn P p n < n → P (rn P p n) = false) := by
  unfold rn
  obtain ⟨h1, h2, h3⟩ := frst_spec (fun i => !P (p + i)) (n - p)
  refine ⟨by omega, by omega, fun i a b => ?_, fun z => ?_⟩
  · have := h2 (i - p) (by omega)
    rw [show p + (i - p) = i by omega] at this
    simpa using this
  · have := h3 (by omega)
    simpa using this
/-- a token as cutting gives it -/
abbrev TKp (B : Nat → Nat) (n : Nat) (τ : Tk3) : Prop := TOKn n τ ∧ (τ.2.2 = 2 → τ.2.1 - τ.1 ≤ 3 ∧ ∀ i, i < τ.2.1 - τ.1 → 48 ≤ B (τ.1 + i) ∧ B (τ.1 + i) ≤ 57) ∧ (τ.2.2 = 1 → τ.2.1 - τ.1 ≤ 8 ∧ 1 ≤ τ.2.1 - τ.1)
theorem tk_ok {B : Nat → Nat} {n p : Nat} (h : p ≤ n) : TKp B n (tk B n p) := by
  obtain ⟨s1, s2, s3, s4⟩ := rn_spec (fun i => decide (B i = 32)) h
  change p ≤ tkS B n p at s1
  change tkS B n p ≤ n at s2
  unfold tk
  generalize tkS B n p = s at s1 s2 ⊢
  by_cases q : n ≤ s
  · rw [if_pos q]
    exact ⟨⟨Nat.le_refl _, s2, (by decide : (0 : Nat) ≤ 4)⟩, fun z => absurd (show (0 : Nat) = 2 from z) (by decide), fun z => absurd (show (0 : Nat) = 1 from z) (by decide)⟩
  · rw [if_neg q]
    by_cases k3 : kd (B s) = 3
    · rw [if_pos k3]
      exact ⟨⟨Nat.le_succ _, show s + 1 ≤ n by omega, (by decide : (3 : Nat) ≤ 4)⟩, fun z => absurd (show (3 : Nat) = 2 from z) (by decide), fun z => absurd (show (3 : Nat) = 1 from z) (by decide)⟩
    · rw [if_neg k3]
      by_cases k4 : kd (B s) = 4
      · rw [if_pos k4]
        exact ⟨⟨Nat.le_refl _, s2, (by decide : (4 : Nat) ≤ 4)⟩, fun z => absurd (show (4 : Nat) = 2 from z) (by decide), fun z => absurd (show (4 : Nat) = 1 from z) (by decide)⟩
      · rw [if_neg k4]
        have hk := kd_14 (B s)
        obtain ⟨e1, e2, e3, e4⟩ := rn_spec (fun i => decide (kd (B i) = kd (B s))) (p := s) (n := n) s2
        change s ≤ tkE B n s at e1
        change tkE B n s ≤ n at e2
        change ∀ i, s ≤ i → i < tkE B n s → _ at e3
        change tkE B n s < n → _ at e4
        have e5 : s < tkE B n s := by
          rcases Nat.lt_or_ge s (tkE B n s) with z | z
          · exact z
          · have es : tkE B n s = s := by omega
            have := e4 (by omega)
            rw [show rn (fun i => decide (kd (B i) = kd (B s))) s n = s from es] at this
            simp at this
        generalize tkE B n s = e at e1 e2 e3 e5 ⊢
        refine ⟨⟨e1, e2, ?_⟩, fun z => ?_, fun z => ?_⟩
        · have t4 : ∀ (c : Prop) [Decidable c], (if c then 4 else kd (B s)) ≤ 4 := by
            intro c _
            by_cases y : c
            · rw [if_pos y]; exact Nat.le_refl _
            · rw [if_neg y]; exact hk.2
          exact t4 _
        · have z2 : (if (if kd (B s) = 1 then 8 else 3) < e - s then 4 else kd (B s)) = 2 := z
          by_cases y : (if kd (B s) = 1 then 8 else 3) < e - s
          · rw [if_pos y] at z2; cases z2
          · rw [if_neg y] at z2
            rw [if_neg (by omega)] at y
            refine ⟨by show e - s ≤ 3; omega, fun i hi => ?_⟩
            have hi2 : i < e - s := hi
            have := e3 (s + i) (by omega) (by omega)
            have t2 : kd (B (s + i)) = 2 := by rw [z2] at this; simpa using this
            rw [kd2] at t2
            exact t2
        · have z2 : (if (if kd (B s) = 1 then 8 else 3) < e - s then 4 else kd (B s)) = 1 := z
          by_cases y : (if kd (B s) = 1 then 8 else 3) < e - s
          · rw [if_pos y] at z2; cases z2
          · rw [if_neg y] at z2
            rw [if_pos z2] at y
            exact ⟨by show e - s ≤ 8; omega, by show 1 ≤ e - s; omega⟩
/-- the class's token and its blame: a fault's number and its place -/
abbrev CBl (w : Mem) : Option (Nat × Nat) → Prop
  | none => w.1 44 5 = 0
  | some e => w.1 44 5 = nI e.1 ∧ 1 ≤ e.1 ∧ e.1 ≤ 7 ∧ w.1 44 6 = nI e.2
abbrev CSt (w : Mem) (B : Nat → Nat) (n : Nat) (τ : Tk3) (bl : Option (Nat × Nat)) : Prop := TX w B n ∧ w.1 44 1 = nI n ∧ CTK w τ ∧ TKp B n τ ∧ CBl w bl
/-- an answer: a fault, or the next token and a number -/
abbrev Ans : Type := (Nat × Nat) ⊕ (Tk3 × Nat)
def stT (bl : Option (Nat × Nat)) (r : Ans) (τ : Tk3) : Tk3 := match bl, r with
  | none, .inr a => a.1
  | _, _ => τ
def stB (bl : Option (Nat × Nat)) (r : Ans) : Option (Nat × Nat) := match bl, r with
  | some e, _ => some e
  | none, .inl e => some e
  | none, .inr _ => none
abbrev TkP : Nat → Nat → Prop := fun j i => j = 44 ∧ 2 ≤ i
section Read
variable {d : Nat} {w : Mem} {Q : Option Value → Mem → Prop} {B : Nat → Nat} {n : Nat} {τ : Tk3} {bl : Option (Nat × Nat)}
def nxT (B : Nat → Nat) (n : Nat) (τ : Tk3) : Tk3 := tk B n τ.2.1
def stpT (B : Nat → Nat) (n : Nat) (bl : Option (Nat × Nat)) (τ : Tk3) : Tk3 := match bl with
  | none => nxT B n τ
  | some _ => τ
/-- a fault is blamed on the token, if none was -/
def blm (bl : Option (Nat × Nat)) (f : Nat) (τ : Tk3) : Option (Nat × Nat) := match bl with
  | some e => some e
  | none => some (f, τ.1)
theorem t_blame {f : Nat} (hC : CSt w B n τ bl) (h1 : 1 ≤ f) (h7 : f ≤ 7) (hQ : ∀ w', Ag TkP w w' → CSt w' B n τ (blm bl f τ) → Q none w') : Cl (d + 1) m_X8_blame [.ref 44, .int (nI f)] w Q := by
  obtain ⟨x, c1, ⟨c2, c3, c4⟩, ct, cb⟩ := id hC
  refine Cl_of k_X8_blame.1 (Nat.le_of_ble_eq_true rfl) (show Wp m_X8_blame _ 0 _ 0 [.ref 44, .int (nI f)] [] _ from S_X8_blame_0 _ _ _ ?_)
  match bl, cb with
  | none, cb =>
    have r2 : (wI w 44 5 (nI f)).1 44 2 = nI τ.1 := by rw [← c2]; simp [wI]
    have cb' : w.1 44 5 = 0 := cb
    simp +decide (disch := omega) only [↓EQA, CEA, LIA, NIA, Nat.lt_irrefl, Option.toList_some, Option.toList_none, List.cons_append, List.nil_append, true_and, and_true, Nat.reduceAdd, Nat.reduceLeDiff, not_true_eq_false, not_false_eq_true, if_true, if_false, ite_true, ite_false, Int32.reduceLT, ite_not, eq_self, or_true, true_or, ite_self, reduceIte, B_X8_blame_0, cb', r2, B_X8_blame_J1]
    have ha : Ag TkP w (wI (wI w 44 5 (nI f)) 44 6 (nI τ.1)) := (Ag.rf.wI ⟨rfl, by decide⟩).wI ⟨rfl, by decide⟩
    refine hQ _ ha ⟨x.ag ha (fun i z => by omega), ?_, ⟨?_, ?_, ?_⟩, ct, ?_⟩
    · rw [← c1]; simp [wI]
    · rw [← c2]; simp [wI]
    · rw [← c3]; simp [wI]
    · rw [← c4]; simp [wI]
    · exact ⟨by simp [wI], h1, h7, by simp [wI]⟩
  | some e, cb =>
    obtain ⟨b1, b2, b3, b4⟩ := cb
    have e0 : (nI e.1 = 0) = False := eq_false fun z => by have := (nI_eq (b := 0) (by omega) (by decide)).mp z; omega
    simp +decide (disch := omega) only [↓EQA, CEA, LIA, NIA, Nat.lt_irrefl, Option.toList_some, Option.toList_none, List.cons_append, List.nil_append, true_and, and_true, Nat.reduceAdd, Nat.reduceLeDiff, not_true_eq_false, not_false_eq_true, if_true, if_false, ite_true, ite_false, Int32.reduceLT, ite_not, eq_self, or_true, true_or, ite_self, reduceIte, B_X8_blame_0, b1, e0, B_X8_blame_J1]
    exact hQ w Ag.rf hC
theorem t_stepS (hC : CSt w B n τ bl) (hQ : ∀ w', Ag TkP w w' → CSt w' B n (stpT B n bl τ) bl → Q none w') : Cl (d + 2) m_X8_step [.ref 44] w Q := by
  obtain ⟨x, c1, ⟨c2, c3, c4⟩, ct, cb⟩ := id hC
  match bl, cb with
  | none, cb =>
    refine t_step x c1 c3 ct.1.2.1 cb fun w' ha g2 g3 g4 => ?_
    refine hQ w' (ha.wk fun j i z => by omega) ⟨x.ag ha (fun i z => by omega), by rw [(ha 44 1 (by omega)).1]; exact c1, ⟨g2, g3, g4⟩, tk_ok ct.1.2.1, ?_⟩
    show w'.1 44 5 = 0
    rw [(ha 44 5 (by omega)).1]; exact cb
  | some e, cb =>
    refine t_step0 (fun z => ?_) (hQ w Ag.rf hC)
    obtain ⟨b1, b2, b3, b4⟩ := cb
    rw [b1] at z
    have := (nI_eq (b := 0) (by omega) (by decide)).mp z
    omega
/-- a word that must stand there -/
def eWord (B : Nat → Nat) (n : Nat) (i : Nat) (τ : Tk3) : Ans := if isWb B τ i = true then .inr (nxT B n τ, 0) else .inl (1, τ.1)
theorem stp_bad {f : Nat} : stT (blm bl f τ) (.inr (nxT B n τ, 0)) τ = τ ∧ stB (blm bl f τ) (.inr (nxT B n τ, 0)) = blm bl f τ := by
  cases bl <;> exact ⟨rfl, rfl⟩
theorem t_readWord {i : Nat} (hC : CSt w B n τ bl) (hi : i < 24) (hQ : ∀ w', Ag TkP w w' → CSt w' B n (stT bl (eWord B n i τ) τ) (stB bl (eWord B n i τ)) → Q none w') : Cl (d + 6) m_X6_readWord [.ref 22, .ref (1000 + i)] w Q := by
  have hT := isTk hi
  have fin : ∀ w1, Ag TkP w w1 → ∀ bl', CSt w1 B n τ bl' → (∀ w', Ag TkP w w' → CSt w' B n (stpT B n bl' τ) bl' → Q none w') → B_X6_readWord_J1 (d + 5) 0 Q [.ref 22, .ref (1000 + i)] [] w1 := by
    intro w1 ha bl' hC1 hq
    simp +decide (disch := omega) only [↓EQA, CEA, LIA, NIA, Nat.lt_irrefl, Option.toList_some, Option.toList_none, List.cons_append, List.nil_append, true_and, and_true, Nat.reduceAdd, Nat.reduceLeDiff, not_true_eq_false, not_false_eq_true, if_true, if_false, ite_true, ite_false, Int32.reduceLT, ite_not, eq_self, or_true, true_or, ite_self, reduceIte, B_X6_readWord_J1]
    refine t_stepS hC1 fun w2 ha2 hC2 => ?_
    simp +decide (disch := omega) only [↓EQA, CEA, LIA, NIA, Nat.lt_irrefl, Option.toList_some, Option.toList_none, List.cons_append, List.nil_append, true_and, and_true, Nat.reduceAdd, Nat.reduceLeDiff, not_true_eq_false, not_false_eq_true, if_true, if_false, ite_true, ite_false, Int32.reduceLT, ite_not, eq_self, or_true, true_or, ite_self, reduceIte]
    exact hq w2 (ha.tr ha2) hC2
  refine Cl_of k_X6_readWord.1 (Nat.le_of_ble_eq_true rfl) (show Wp m_X6_readWord _ 0 _ 0 [.ref 22, .ref (1000 + i)] [] _ from S_X6_readWord_0 _ _ _ ?_)
  simp +decide (disch := omega) only [↓EQA, CEA, LIA, NIA, Nat.lt_irrefl, Option.toList_some, Option.toList_none, List.cons_append, List.nil_append, true_and, and_true, Nat.reduceAdd, Nat.reduceLeDiff, not_true_eq_false, not_false_eq_true, if_true, if_false, ite_true, ite_false, Int32.reduceLT, ite_not, eq_self, or_true, true_or, ite_self, reduceIte, B_X6_readWord_0]
  refine t_is hC.1 hC.2.2.1 hC.2.2.2.1.1 hi ?_
  unfold eWord at hQ
  by_cases q : isWb B τ i = true
  · rw [if_pos q] at hQ
    simp +decide (disch := omega) only [↓EQA, CEA, LIA, NIA, Nat.lt_irrefl, Option.toList_some, Option.toList_none, List.cons_append, List.nil_append, true_and, and_true, Nat.reduceAdd, Nat.reduceLeDiff, not_true_eq_false, not_false_eq_true, if_true, if_false, ite_true, ite_false, Int32.reduceLT, ite_not, eq_self, or_true, true_or, ite_self, reduceIte, q]
    refine fin w Ag.rf bl hC fun w' ha h => ?_
    refine hQ w' ha ?_
    cases bl <;> exact h
  · rw [if_neg q] at hQ
    have q' : isWb B τ i = false := by simpa using q
    simp +decide (disch := omega) only [↓EQA, CEA, LIA, NIA, Nat.lt_irrefl, Option.toList_some, Option.toList_none, List.cons_append, List.nil_append, true_and, and_true, Nat.reduceAdd, Nat.reduceLeDiff, not_true_eq_false, not_false_eq_true, if_true, if_false, ite_true, ite_false, Int32.reduceLT, ite_not, eq_self, or_true, true_or, ite_self, reduceIte, q']
    refine t_blame (f := 1) hC (by decide) (by decide) fun w1 ha1 hC1 => ?_
    simp +decide (disch := omega) only [↓EQA, CEA, LIA, NIA, Nat.lt_irrefl, Option.toList_some, Option.toList_none, List.cons_append, List.nil_append, true_and, and_true, Nat.reduceAdd, Nat.reduceLeDiff, not_true_eq_false, not_false_eq_true, if_true, if_false, ite_true, ite_false, Int32.reduceLT, ite_not, eq_self, or_true, true_or, ite_self, reduceIte]
    refine fin w1 ha1 _ hC1 fun w' ha h => ?_
    refine hQ w' ha ?_
    cases bl <;> exact h
end Read
