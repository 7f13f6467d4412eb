/-! ===== the whole text ===== -/
section ReadAll
variable {d : Nat} {w : Mem} {Q : Option Value → Mem → Prop} {B : Nat → Nat} {n c p : Nat} {τ t : Tk3} {s : Cs} {N : Nat → Nm4} {T : Tv} {D F : Nat → Nat} {S : St5}
/-- a token that stands behind a place -/
abbrev PG (n p : Nat) (t : Tk3) : Prop := p ≤ t.1 ∧ t.1 ≤ t.2.1 ∧ t.2.1 ≤ n ∧ (t.2.2 = 3 → t.2.1 = t.1 + 1)
theorem kd_le3 {q : Nat} (h : kd q ≠ 3) {x : Prop} [Decidable x] : (if x then 4 else kd q) ≠ 3 := by
  by_cases y : x
  · rw [if_pos y]; decide
  · rw [if_neg y]; exact h
theorem tk_pg (h : p ≤ n) : PG n p (tk B n p) := by
  obtain ⟨⟨h1, h2, -⟩, -⟩ := tk_ok (B := B) h
  have s1 : p ≤ tkS B n p := (rn_spec (fun i => decide (B i = 32)) h).1
  refine ⟨?_, h1, h2, ?_⟩
  · unfold tk
    split
    · exact s1
    · split
      · exact s1
      · split
        · exact s1
        · exact s1
  · unfold tk
    split
    · intro z; cases z
    · split
      · intro z; rfl
      · next k3 =>
        split
        · intro z; cases z
        · intro z; exact absurd z (kd_le3 k3)
theorem nx_pg (h : PG n p t) : PG n p (nxT B n t) := by
  obtain ⟨h1, h2, h3, h4⟩ := tk_pg (B := B) (p := t.2.1) h.2.2.1
  exact ⟨by have := h.1; have := h.2.1; show p ≤ (tk B n t.2.1).1; omega, h2, h3, h4⟩
abbrev Fg (B : Nat → Nat) (n : Nat) (f : Tk3 → Ans) : Prop := ∀ t a, f t = .inr a → a.1 = nxT B n t ∨ a.1 = t
theorem cst_pg {f : Tk3 → Ans} (hf : Fg B n f) (hb : (cst f s).2 = none) (hp : PG n p s.1) : PG n p (cst f s).1 := by
  obtain ⟨h1, a, ha⟩ := cst_none hb
  have e : (cst f s).1 = a.1 := by
    show stT s.2 (f s.1) s.1 = a.1
    rw [h1, ha]
    rfl
  rw [e]
  rcases hf s.1 a ha with q | q
  · rw [q]; exact nx_pg hp
  · rw [q]; exact hp
theorem fg_word {i : Nat} : Fg B n (eWord B n i) := by
  intro t a h
  unfold eWord at h
  split at h
  · injection h with h; exact Or.inl (by rw [← h])
  · cases h
theorem fg_whole {lo hi : Nat} : Fg B n (eWhole B n lo hi) := by
  intro t a h
  unfold eWhole at h
  split at h
  · split at h
    · cases h
    · injection h with h; exact Or.inl (by rw [← h])
  · cases h
theorem fg_side : Fg B n (eSide B n) := by
  intro t a h
  unfold eSide at h
  split at h
  · injection h with h; exact Or.inl (by rw [← h])
  · split at h
    · injection h with h; exact Or.inl (by rw [← h])
    · cases h
theorem fg_kind : Fg B n (eKind B n) := by
  intro t a h
  unfold eKind at h
  split at h
  · injection h with h; exact Or.inl (by rw [← h])
  · cases h
theorem fg_tell : Fg B n (eTell B n N c) := by
  intro t a h
  unfold eTell at h
  split at h
  · split at h
    · cases h
    · injection h with h; exact Or.inl (by rw [← h])
  · cases h
theorem fg_num {so : Nat} : Fg B n (eNum B N c so) := by
  intro t a h
  unfold eNum at h
  split at h
  · split at h
    · injection h with h; exact Or.inr (by rw [← h])
    · cases h
  · cases h
theorem fg_nx : Fg B n (nxA3 B n) := by
  intro t a h
  unfold nxA3 at h
  injection h with h; exact Or.inl (by rw [← h])
/-- a line ends behind its beginning -/
theorem ln_pg (hT : TKp B n τ) (hb : (lnF B n S τ).1.2 = none) : PG n τ.2.1 (lnF B n S τ).1.1 := by
  obtain ⟨T, D, F, N, c⟩ := S
  have hp : PG n τ.2.1 (nxT B n τ) := tk_pg hT.1.2.1
  cases q0 : isWb B τ 0 with
  | true =>
    rw [lnF_0 q0] at hb ⊢
    by_cases h7 : D 7 = 0
    · rw [if_pos h7] at hb ⊢
      have n10 : (rg10 B n (nxT B n τ)).2 = none := hb
      show PG n τ.2.1 (rg10 B n (nxT B n τ)).1
      have n9 := (cst_none (f := eWhole B n 0 9) n10).1
      have n8 := (cst_none (f := eWord B n 12) n9).1
      have n7 := (cst_none (f := eWhole B n 0 100) n8).1
      have n6 := (cst_none (f := eWord B n 11) n7).1
      have n5 := (cst_none (f := eWhole B n 0 30) n6).1
      have n4 := (cst_none (f := eWord B n 10) n5).1
      have n3 := (cst_none (f := eWhole B n 1 6) n4).1
      have n2 := (cst_none (f := eWord B n 9) n3).1
      have n1 := (cst_none (f := eWhole B n 1 20) n2).1
      exact cst_pg fg_whole n10 (cst_pg fg_word n9 (cst_pg fg_whole n8 (cst_pg fg_word n7 (cst_pg fg_whole n6 (cst_pg fg_word n5 (cst_pg fg_whole n4 (cst_pg fg_word n3 (cst_pg fg_whole n2 (cst_pg fg_word n1 hp)))))))))
    · rw [if_neg h7] at hb; cases hb
  | false =>
  cases q1 : isWb B τ 1 with
  | true =>
    rw [lnF_1 q1] at hb ⊢
    obtain ⟨g1, g2, g3⟩ := gte_none hb
    rw [g3] at hb ⊢
    have n6 : (ab6 B n N c T D (nxT B n τ)).2 = none := hb
    show PG n τ.2.1 (ab6 B n N c T D (nxT B n τ)).1
    have n5 := blIf_none (nx_none n6)
    have n3 := (cst_none (f := eNum B N c 6) n5.1).1
    have n2 := blIf_none (nx_none n3)
    refine cst_pg fg_nx n6 ?_
    rw [show ab5 B n N c T D (nxT B n τ) = ab4 B n N c D (nxT B n τ) from n5.2.1]
    refine cst_pg fg_num n5.1 (cst_pg fg_nx n3 ?_)
    rw [show ab2 B N c D (nxT B n τ) = ab1 B N c (nxT B n τ) from n2.2.1]
    exact cst_pg fg_num n2.1 hp
  | false =>
  cases q2 : isWb B τ 2 with
  | true =>
    rw [lnF_2 q2] at hb ⊢
    obtain ⟨g1, g2, g3⟩ := gte_none hb
    rw [g3] at hb ⊢
    have n4 : (bd4 B n N c (nxT B n τ)).2 = none := hb
    show PG n τ.2.1 (bd4 B n N c (nxT B n τ)).1
    have n3 := (cst_none (f := eSide B n) n4).1
    have n2 := (cst_none (f := eWhole B n 1 30) n3).1
    have n1 := (cst_none (f := eWord B n 13) n2).1
    exact cst_pg fg_side n4 (cst_pg fg_whole n3 (cst_pg fg_word n2 (cst_pg fg_tell n1 hp)))
  | false =>
  cases q3 : isWb B τ 3 with
  | true =>
    rw [lnF_3 q3] at hb ⊢
    obtain ⟨g1, g2, g3⟩ := gte_none hb
    rw [g3] at hb ⊢
    have n7 : (hs7 B n N c (nxT B n τ)).2 = none := hb
    show PG n τ.2.1 (hs7 B n N c (nxT B n τ)).1
    have n6 := (cst_none (f := eWhole B n 1 6) n7).1
    have n5 := (cst_none (f := eWord B n 21) n6).1
    have n4 := (cst_none (f := eWhole B n 0 50) n5).1
    have n3 := (cst_none (f := eWord B n 20) n4).1
    have n2 := (cst_none (f := eSide B n) n3).1
    have n1 := (cst_none (f := eKind B n) n2).1
    exact cst_pg fg_whole n7 (cst_pg fg_word n6 (cst_pg fg_whole n5 (cst_pg fg_word n4 (cst_pg fg_side n3 (cst_pg fg_kind n2 (cst_pg fg_tell n1 hp))))))
  | false =>
  cases q4 : isWb B τ 4 with
  | true =>
    rw [lnF_4 q4] at hb ⊢
    obtain ⟨g1, g2, g3⟩ := gte_none hb
    rw [g3] at hb ⊢
    have n5 : (ld5 B n N c (nxT B n τ)).2 = none := hb
    show PG n τ.2.1 (ld5 B n N c (nxT B n τ)).1
    have n4 := (cst_none (f := eWhole B n 0 9) n5).1
    have n3 := (cst_none (f := eWord B n 23) n4).1
    have n2 := (cst_none (f := eWhole B n 0 30) n3).1
    have n1 := (cst_none (f := eWord B n 22) n2).1
    exact cst_pg fg_whole n5 (cst_pg fg_word n4 (cst_pg fg_whole n3 (cst_pg fg_word n2 (cst_pg fg_tell n1 hp))))
  | false =>
  cases q5 : isWb B τ 5 with
  | true =>
    rw [lnF_5 q5] at hb ⊢
    obtain ⟨g1, g2, g3⟩ := gte_none hb
    rw [g3] at hb ⊢
    have n5 : (fd5 B n N c T (nxT B n τ)).2 = none := hb
    show PG n τ.2.1 (fd5 B n N c T (nxT B n τ)).1
    have n4 := blIf_none (nx_none n5)
    have n2 := (cst_none (f := eNum B N c 7) n4.1).1
    have n1 := nx_none n2
    refine cst_pg fg_nx n5 ?_
    rw [show fd4 B n N c T (nxT B n τ) = fd3 B n N c (nxT B n τ) from n4.2.1]
    exact cst_pg fg_num n4.1 (cst_pg fg_nx n2 (cst_pg fg_num n1 hp))
  | false =>
  cases q6 : isWb B τ 6 with
  | true =>
    rw [lnF_6 q6] at hb ⊢
    obtain ⟨g1, g2, g3⟩ := gte_none hb
    rw [g3] at hb ⊢
    exact cst_pg (s := (nxT B n τ, none)) fg_whole hb hp
  | false =>
  cases q7 : isWb B τ 7 with
  | true =>
    rw [lnF_7 q7] at hb ⊢
    obtain ⟨g1, g2, g3⟩ := gte_none hb
    rw [g3] at hb ⊢
    have n7 : (sw7 B n N c (nxT B n τ)).2 = none := hb
    show PG n τ.2.1 (sw7 B n N c (nxT B n τ)).1
    have n6 := nx_none n7
    have n5 := (cst_none (f := eNum B N c 5) n6).1
    have n4 := neB_none (nx_none n5)
    have n2 := (cst_none (f := eNum B N c 6) n4.1).1
    have n1 := nx_none n2
    refine cst_pg fg_nx n7 (cst_pg fg_num n6 (cst_pg fg_nx n5 ?_))
    rw [show sw4 B n N c (nxT B n τ) = sw3 B n N c (nxT B n τ) from n4.2.1]
    exact cst_pg fg_num n4.1 (cst_pg fg_nx n2 (cst_pg fg_num n1 hp))
  | false => rw [lnF_no q0 q1 q2 q3 q4 q5 q6 q7] at hb; cases hb
/-- lines while there are such -/
def rdF (B : Nat → Nat) (n : Nat) : Nat → Cs × St5 → Cs × St5
  | 0, X => X
  | m + 1, X => if X.1.2 = none ∧ X.1.1.2.2 = 3 then rdF B n m (lnF B n X.2 (nxT B n X.1.1)) else X
def st0 (T : Tv) : St5 := (T, fun _ => 0, fun _ => 0, fun _ => (0, 0, 0, 0), 0)
def rdA (B : Nat → Nat) (n : Nat) (T : Tv) : Cs × St5 := rdF B n n (lnF B n (st0 T) (tk B n 0))
/-- the end -/
def enF (X : Cs × St5) : Cs := (X.1.1, match X.1.2 with
  | some e => some e
  | none => if X.1.1.2.2 = 0 then (if nH X.2.1 = 0 then some (6, X.1.1.1) else none) else some (1, X.1.1.1))
theorem rdF_no {m : Nat} {X : Cs × St5} (h : ¬ (X.1.2 = none ∧ X.1.1.2.2 = 3)) : rdF B n m X = X := by
  cases m with
  | zero => rfl
  | succ m => show (if X.1.2 = none ∧ X.1.1.2.2 = 3 then rdF B n m (lnF B n X.2 (nxT B n X.1.1)) else X) = X; rw [if_neg h]
theorem rdF_yes {m : Nat} {X : Cs × St5} (h : X.1.2 = none ∧ X.1.1.2.2 = 3) : rdF B n (m + 1) X = rdF B n m (lnF B n X.2 (nxT B n X.1.1)) := if_pos h
theorem cw_00 : cw (fun _ => 0) = fun _ => 0 := by
  funext h
  exact eq_bits (cw_lt _ _) (by decide) fun l hl => by rw [cw_bit _ _ hl]; simp
/-- before the first line -/
theorem st0_ok (h0 : ∀ i, i ≤ 10 → T 0 i = 0) : RDVs B n (st0 T) := by
  have e5 : nB T = 0 := by unfold nB; rw [h0 5 (by decide)]; rfl
  have e6 : nH T = 0 := by unfold nH; rw [h0 6 (by decide)]; rfl
  have e7 : nL T = 0 := by unfold nL; rw [h0 7 (by decide)]; rfl
  have e8 : nF T = 0 := by unfold nF; rw [h0 8 (by decide)]; rfl
  have e9 : nP T = 0 := by unfold nP; rw [h0 9 (by decide)]; rfl
  have e10 : nS T = 0 := by unfold nS; rw [h0 10 (by decide)]; rfl
  show RDV B n T (fun _ => 0) (fun _ => 0) (fun _ => (0, 0, 0, 0)) 0
  have hrw : ∀ l, rwF T l = 0 := fun l => by unfold rwF; rw [e8]; rfl
  refine ⟨⟨⟨by rw [e5]; exact h0 5 (by decide), by rw [e6]; exact h0 6 (by decide), by rw [e7]; exact h0 7 (by decide), by rw [e8]; exact h0 8 (by decide), by rw [e9]; exact h0 9 (by decide), by rw [e10]; exact h0 10 (by decide)⟩, by omega, by omega, by omega, by omega, by omega, by omega⟩, ⟨h0 0 (by decide), fun _ => h0, fun z => absurd rfl z⟩, ⟨fun k hk => by omega, fun k hk => by omega, fun k hk => by omega, fun k hk => by omega, fun k hk => by omega⟩, ⟨⟨fun _ _ => Nat.zero_le _, by decide, by decide, Nat.zero_le _⟩, fun _ _ => Nat.zero_le _, fun _ _ _ => rfl, rfl, by rw [e6]; decide⟩, ⟨by omega, fun i hi => by omega, fun i j hi => by omega, fun i j hi => by omega⟩, ⟨⟨fun _ => 0, fun _ => 0, fun i hi => by omega, fun P => by rw [e8, e7]; rfl⟩, fun l hl => ⟨(by decide : (0 : Nat) < 32), 0, by decide, hrw l, ?_⟩, fun a b _ _ => by show (0 : Nat).testBit b = (0 : Nat).testBit a; rw [Nat.zero_testBit, Nat.zero_testBit], fun _ _ _ => rfl⟩⟩
  show rwF T l &&& ((1 <<< (nI l &&& 31)) ^^^ (-1)) = nI 0
  rw [hrw l]
  exact Int32.zero_and
theorem t_clear9 (hQ : ∀ w', Ag (fun j _ => j = 29) w w' → (∀ i, i < 11 → w'.1 29 i = 0) → Q none w') : Cl (d + 1) m_X9_clear [.ref 28] w Q := by
  refine Cl_of k_X9_clear.1 (Nat.le_of_ble_eq_true rfl) (show Wp m_X9_clear _ 0 _ 0 [.ref 28, .null] [] _ from S_X9_clear_0 _ _ _ ?_)
  simp +decide (disch := omega) only [↓EQA, CEA, LIA, NIA, Nat.lt_irrefl, Option.toList_some, Option.toList_none, List.cons_append, List.nil_append, true_and, and_true, Nat.reduceAdd, Nat.reduceLeDiff, not_true_eq_false, not_false_eq_true, if_true, if_false, ite_true, ite_false, Int32.reduceLT, ite_not, eq_self, or_true, true_or, ite_self, reduceIte, B_X9_clear_0]
  have key : ∀ m j, j + m = 11 → ∀ w1, Ag (fun j _ => j = 29) w w1 → (∀ h, h < j → w1.1 29 h = 0) → Wp m_X9_clear d 0 Q 2 [.ref 28, .int (nI j)] [] w1 := by
    intro m
    induction m with
    | zero =>
      intro j hj w1 ha h7
      have : j = 11 := by omega
      subst this
      refine S_X9_clear_L1 _ _ _ ?_
      simp +decide (disch := omega) only [↓EQA, CEA, LIA, NIA, Nat.lt_irrefl, Option.toList_some, Option.toList_none, List.cons_append, List.nil_append, true_and, and_true, Nat.reduceAdd, Nat.reduceLeDiff, not_true_eq_false, not_false_eq_true, if_true, if_false, ite_true, ite_false, Int32.reduceLT, ite_not, eq_self, or_true, true_or, ite_self, reduceIte, B_X9_clear_L1]
      exact hQ w1 ha h7
    | succ m ih =>
      intro j hj w1 ha h7
      have hj4 : j < 11 := by omega
      refine S_X9_clear_L1 _ _ _ ?_
      simp +decide (disch := omega) only [↓EQA, CEA, LIA, NIA, Nat.lt_irrefl, Option.toList_some, Option.toList_none, List.cons_append, List.nil_append, true_and, and_true, Nat.reduceAdd, Nat.reduceLeDiff, not_true_eq_false, not_false_eq_true, if_true, if_false, ite_true, ite_false, Int32.reduceLT, ite_not, eq_self, or_true, true_or, ite_self, reduceIte, B_X9_clear_L1, hj4]
      refine ih (j + 1) (by omega) _ (ha.wI rfl) fun h hh => ?_
      rw [wI_get]
      by_cases e : h = j
      · subst e; rw [if_pos ⟨rfl, rfl⟩]
      · rw [if_neg (fun z => e z.2)]; exact h7 h (by omega)
  exact key 11 0 rfl w Ag.rf fun h hh => absurd hh (Nat.not_lt_zero _)
theorem t_beginS (hX : TX w B n) (hQ : ∀ w', Ag (fun j i => j = 44 ∧ 1 ≤ i) w w' → CSt w' B n (tk B n 0) none → Q none w') : Cl (d + 3) m_X8_begin [.ref 44, .int (nI n)] w Q := by
  have hn : n ≤ 900 := hX.2.1
  refine Cl_of k_X8_begin.1 (Nat.le_of_ble_eq_true rfl) (show Wp m_X8_begin _ 0 _ 0 [.ref 44, .int (nI n)] [] _ from S_X8_begin_0 _ _ _ ?_)
  simp +decide (disch := omega) only [↓EQA, CEA, LIA, NIA, Nat.lt_irrefl, Option.toList_some, Option.toList_none, List.cons_append, List.nil_append, true_and, and_true, Nat.reduceAdd, Nat.reduceLeDiff, not_true_eq_false, not_false_eq_true, if_true, if_false, ite_true, ite_false, Int32.reduceLT, ite_not, eq_self, or_true, true_or, ite_self, reduceIte, B_X8_begin_0]
  rw [if_neg (by omega : ¬ 900 < n)]
  generalize hw1 : wI (wI (wI (wI w 44 1 (nI n)) 44 3 0) 44 5 0) 44 6 (-1) = w1
  have ha : Ag (fun j i => j = 44 ∧ 1 ≤ i) w w1 := by
    rw [← hw1]
    exact (((Ag.rf.wI ⟨rfl, by decide⟩).wI ⟨rfl, by decide⟩).wI ⟨rfl, by decide⟩).wI ⟨rfl, by decide⟩
  have k1 : w1.1 44 1 = nI n := by rw [← hw1]; simp [wI]
  have k3 : w1.1 44 3 = nI 0 := by rw [← hw1]; simp [wI, nI_0]
  have k5 : w1.1 44 5 = 0 := by rw [← hw1]; simp [wI]
  have hX1 : TX w1 B n := hX.ag ha (fun i z => by omega)
  refine t_step (p := 0) hX1 k1 k3 (Nat.zero_le _) k5 fun w2 ha2 g2 g3 g4 => ?_
  simp +decide (disch := omega) only [↓EQA, CEA, LIA, NIA, Nat.lt_irrefl, Option.toList_some, Option.toList_none, List.cons_append, List.nil_append, true_and, and_true, Nat.reduceAdd, Nat.reduceLeDiff, not_true_eq_false, not_false_eq_true, if_true, if_false, ite_true, ite_false, Int32.reduceLT, ite_not, eq_self, or_true, true_or, ite_self, reduceIte]
  refine hQ w2 (ha.tr (ha2.wk fun j i z => by omega)) ⟨hX1.ag ha2 (fun i z => by omega), by rw [(ha2 44 1 (by omega)).1]; exact k1, ⟨g2, g3, g4⟩, tk_ok (Nat.zero_le _), ?_⟩
  show w2.1 44 5 = 0
  rw [(ha2 44 5 (by omega)).1]; exact k5
end ReadAll
