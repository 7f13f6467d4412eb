/-! ===== names of the reference ===== -/
/-- the place of a name in the reference's row -/
def slN (a : Nm4) : Nat := if a.2.2.1 = 6 then a.2.2.2 else if a.2.2.1 = 5 then 4 + a.2.2.2 else 8 + a.2.2.2
/-- names that a text has told: each once, each number of its sort -/
abbrev NMP (B : Nat → Nat) (n b h l c : Nat) (N : Nat → Nm4) : Prop := c = b + h + l ∧ (∀ i, i < c → ((N i).1 ≤ (N i).2.1 ∧ (N i).2.1 ≤ n ∧ 1 ≤ (N i).2.1 - (N i).1 ∧ (N i).2.1 - (N i).1 ≤ 8) ∧ (((N i).2.2.1 = 5 ∧ (N i).2.2.2 < b) ∨ ((N i).2.2.1 = 6 ∧ (N i).2.2.2 < h) ∨ ((N i).2.2.1 = 7 ∧ (N i).2.2.2 < l))) ∧ (∀ i j, i < c → j < c → slN (N i) = slN (N j) → i = j) ∧ (∀ i j, i < c → j < c → i ≠ j → smB B ((N j).1, (N j).2.1, 1) (N i) = false)
/-- the reference's names -/
abbrev MNM (w : Mem) (B : Nat → Nat) (c : Nat) (N : Nat → Nm4) : Prop := ∀ s, s < 13 → (∃ i, i < c ∧ slN (N i) = s ∧ w.1 63 (74 + s) = nI ((N i).2.1 - (N i).1) ∧ ∀ j, j < (N i).2.1 - (N i).1 → w.1 63 (87 + 8 * s + j) = nI (B ((N i).1 + j))) ∨ ((∀ i, i < c → slN (N i) ≠ s) ∧ w.1 63 (74 + s) = 0)
theorem smB_iff {B : Nat → Nat} {τ : Tk3} {a : Nm4} : smB B τ a = true ↔ τ.2.1 - τ.1 = a.2.1 - a.1 ∧ ∀ j, j < a.2.1 - a.1 → B (a.1 + j) = B (τ.1 + j) := by
  unfold smB
  obtain ⟨h1, h2, h3⟩ := frst_spec (fun j => !decide (B (a.1 + j) = B (τ.1 + j))) (a.2.1 - a.1)
  simp only [Bool.and_eq_true, decide_eq_true_eq]
  constructor
  · intro ⟨e1, e2⟩
    refine ⟨e1, fun j hj => ?_⟩
    have := h2 j (by rw [e2]; exact hj)
    simpa using this
  · intro ⟨e1, e2⟩
    refine ⟨e1, ?_⟩
    rcases Nat.lt_or_ge (frst (fun j => !decide (B (a.1 + j) = B (τ.1 + j))) (a.2.1 - a.1)) (a.2.1 - a.1) with q | q
    · have := h3 q
      have e := e2 _ q
      simp [e] at this
    · omega
section MNames
variable {d : Nat} {w : Mem} {Q : Option Value → Mem → Prop} {B : Nat → Nat} {n b h l c : Nat} {τ : Tk3} {N : Nat → Nm4}
theorem NMP.one (hP : NMP B n b h l c N) {i j : Nat} (hi : i < c) (hj : j < c) (h1 : smB B τ (N i) = true) (h2 : smB B τ (N j) = true) : i = j := by
  rcases Nat.decEq i j with q | q
  · have := hP.2.2.2 i j hi hj q
    rw [smB_iff] at h1 h2
    have e : smB B ((N j).1, (N j).2.1, 1) (N i) = true := smB_iff.mpr ⟨by show (N j).2.1 - (N j).1 = _; omega, fun k hk => by show _ = B ((N j).1 + k); rw [h1.2 k hk, h2.2 k (by omega)]⟩
    rw [this] at e; cases e
  · exact q
def pSl (B : Nat → Nat) (τ : Tk3) (N : Nat → Nm4) (c s : Nat) : Bool := decide (frst (fun i => decide (slN (N i) = s) && smB B τ (N i)) c < c)
theorem pSl_iff {s : Nat} : pSl B τ N c s = true ↔ ∃ i, i < c ∧ slN (N i) = s ∧ smB B τ (N i) = true := by
  unfold pSl
  obtain ⟨h1, h2, h3⟩ := frst_spec (fun i => decide (slN (N i) = s) && smB B τ (N i)) c
  rw [decide_eq_true_eq]
  constructor
  · intro q
    have := h3 q
    simp only [Bool.and_eq_true, decide_eq_true_eq] at this
    exact ⟨_, q, this⟩
  · intro ⟨i, hi, e1, e2⟩
    rcases Nat.lt_or_ge i (frst (fun i => decide (slN (N i) = s) && smB B τ (N i)) c) with q | q
    · have := h2 i q
      simp [e1, e2] at this
    · omega
theorem slN_lt (hP : NMP B n b h l c N) (hb : b ≤ 4) (hh : h ≤ 4) (hl : l ≤ 5) {i : Nat} (hi : i < c) : slN (N i) < 13 := by
  have := (hP.2.1 i hi).2
  unfold slN
  rcases this with ⟨e, q⟩ | ⟨e, q⟩ | ⟨e, q⟩ <;> rw [e] <;> simp <;> omega
/-- the first place that is named so -/
theorem slot_first (hP : NMP B n b h l c N) (hb : b ≤ 4) (hh : h ≤ 4) (hl : l ≤ 5) : (if frst (pSl B τ N c) 13 < 13 then nI (frst (pSl B τ N c) 13) else -1) = if fnN B τ N c < c then nI (slN (N (fnN B τ N c))) else -1 := by
  obtain ⟨h1, h2, h3⟩ := frst_spec (pSl B τ N c) 13
  obtain ⟨g1, g2, g3⟩ := frst_spec (fun i => smB B τ (N i)) c
  change fnN B τ N c ≤ c at g1
  change ∀ j, j < fnN B τ N c → _ at g2
  change fnN B τ N c < c → smB B τ (N (fnN B τ N c)) = true at g3
  by_cases q : fnN B τ N c < c
  · rw [if_pos q]
    have hs := slN_lt hP hb hh hl q
    have hp : pSl B τ N c (slN (N (fnN B τ N c))) = true := pSl_iff.mpr ⟨_, q, rfl, g3 q⟩
    have q2 : frst (pSl B τ N c) 13 < 13 := by
      rcases Nat.lt_or_ge (frst (pSl B τ N c) 13) 13 with z | z
      · exact z
      · have := h2 _ (by omega : slN (N (fnN B τ N c)) < frst (pSl B τ N c) 13)
        rw [hp] at this; cases this
    rw [if_pos q2]
    obtain ⟨i, hi, e1, e2⟩ := pSl_iff.mp (h3 q2)
    have := hP.one hi q e2 (g3 q)
    rw [← e1, this]
  · rw [if_neg q]
    rw [if_neg fun z => ?_]
    obtain ⟨i, hi, e1, e2⟩ := pSl_iff.mp (h3 z)
    have := g2 i (by omega)
    rw [e2] at this; cases this
theorem u_find (hM : MTK w B τ) (hk : τ.2.2 = 1) (hlen : 1 ≤ τ.2.1 - τ.1) (hB : ∀ i, B i < 256) (hN : MNM w B c N) (hP : NMP B n b h l c N) (hb : b ≤ 4) (hh : h ≤ 4) (hl : l ≤ 5) (hQ : Q (some (.int (if fnN B τ N c < c then nI (slN (N (fnN B τ N c))) else -1))) w) : Cl (d + 1) m_X11_find [.ref 59] w Q := by
  obtain ⟨m8, l8, m61⟩ := hM.2.2.2.1 hk
  rw [← slot_first hP hb hh hl] at hQ
  refine Cl_of k_X11_find.1 (Nat.le_of_ble_eq_true rfl) (show Wp m_X11_find _ 0 _ 0 [.ref 59, .null, .null, .null] [] _ from S_X11_find_0 _ _ _ ?_)
  simp +decide (disch := omega) only [↓EQA, CEA, LIA, NIA, Nat.lt_irrefl, Option.toList_some, Option.toList_none, List.cons_append, List.nil_append, true_and, and_true, Nat.reduceAdd, Nat.reduceLeDiff, not_true_eq_false, not_false_eq_true, if_true, if_false, ite_true, ite_false, Int32.reduceLT, ite_not, eq_self, or_true, true_or, ite_self, reduceIte, B_X11_find_0]
  suffices key : ∀ v2 v3, Wp m_X11_find d 0 Q 2 [.ref 59, .int (nI 0), v2, v3] [] w from key _ _
  have hl0 : 0 < τ.2.1 - τ.1 := by omega
  have hl9 : τ.2.1 - τ.1 < 9 := by omega
  have step : ∀ s, s < 13 → (pSl B τ N c s = true → Q (some (.int (nI s))) w) → (pSl B τ N c s = false → ∀ v2 v3, Wp m_X11_find d 0 Q 2 [.ref 59, .int (nI (s + 1)), v2, v3] [] w) → ∀ v2 v3, Wp m_X11_find d 0 Q 2 [.ref 59, .int (nI s), v2, v3] [] w := by
    intro s hs h1 h0 v2 v3
    have no : ∀ v3', pSl B τ N c s = false → B_X11_find_J4 d 0 Q [.ref 59, .int (nI s), .int 0, v3'] [] w := by
      intro v3' z
      simp +decide (disch := omega) only [↓EQA, CEA, LIA, NIA, Nat.lt_irrefl, Option.toList_some, Option.toList_none, List.cons_append, List.nil_append, true_and, and_true, Nat.reduceAdd, Nat.reduceLeDiff, not_true_eq_false, not_false_eq_true, if_true, if_false, ite_true, ite_false, Int32.reduceLT, ite_not, eq_self, or_true, true_or, ite_self, reduceIte, B_X11_find_J4]
      exact h0 z _ _
    have none : ∀ v3', pSl B τ N c s = false → B_X11_find_J1 d 0 Q [.ref 59, .int (nI s), v2, v3'] [] w := by
      intro v3' z
      simp +decide (disch := omega) only [↓EQA, CEA, LIA, NIA, Nat.lt_irrefl, Option.toList_some, Option.toList_none, List.cons_append, List.nil_append, true_and, and_true, Nat.reduceAdd, Nat.reduceLeDiff, not_true_eq_false, not_false_eq_true, if_true, if_false, ite_true, ite_false, Int32.reduceLT, ite_not, eq_self, or_true, true_or, ite_self, reduceIte, B_X11_find_J1, B_X11_find_J2]
      refine S_X11_find_L2 _ _ _ ?_
      simp +decide (disch := omega) only [↓EQA, CEA, LIA, NIA, Nat.lt_irrefl, Option.toList_some, Option.toList_none, List.cons_append, List.nil_append, true_and, and_true, Nat.reduceAdd, Nat.reduceLeDiff, not_true_eq_false, not_false_eq_true, if_true, if_false, ite_true, ite_false, Int32.reduceLT, ite_not, eq_self, or_true, true_or, ite_self, reduceIte, B_X11_find_L2, m8, hl0]
      exact no _ z
    have hs191 : 74 + s < 191 := by omega
    refine S_X11_find_L1 _ _ _ ?_
    rcases hN s hs with ⟨i, hi, e1, e2, e3⟩ | ⟨e1, e2⟩
    · obtain ⟨⟨a1, a2, a3, a4⟩, -⟩ := hP.2.1 i hi
      have ep : pSl B τ N c s = smB B τ (N i) := by
        cases q : smB B τ (N i) with
        | true => exact pSl_iff.mpr ⟨i, hi, e1, q⟩
        | false =>
          cases q2 : pSl B τ N c s with
          | false => rfl
          | true =>
            obtain ⟨j, hj, f1, f2⟩ := pSl_iff.mp q2
            have := hP.2.2.1 i j hi hj (by rw [e1, f1])
            rw [this, f2] at q; cases q
      have g0 : (0 < nI ((N i).2.1 - (N i).1)) = True := eq_true (nI_lt (a := 0) (by omega) (by omega))
      have ee : (nI ((N i).2.1 - (N i).1) = nI (τ.2.1 - τ.1)) = ((N i).2.1 - (N i).1 = τ.2.1 - τ.1) := eq_n (by omega) (by omega)
      simp +decide (disch := omega) only [↓EQA, CEA, LIA, NIA, Nat.lt_irrefl, Option.toList_some, Option.toList_none, List.cons_append, List.nil_append, true_and, and_true, Nat.reduceAdd, Nat.reduceLeDiff, not_true_eq_false, not_false_eq_true, if_true, if_false, ite_true, ite_false, Int32.reduceLT, ite_not, eq_self, or_true, true_or, ite_self, reduceIte, B_X11_find_L1, hs, hs191, e2, g0, m8, ee]
      by_cases q : (N i).2.1 - (N i).1 = τ.2.1 - τ.1
      · rw [if_pos q]
        simp +decide (disch := omega) only [↓EQA, CEA, LIA, NIA, Nat.lt_irrefl, Option.toList_some, Option.toList_none, List.cons_append, List.nil_append, true_and, and_true, Nat.reduceAdd, Nat.reduceLeDiff, not_true_eq_false, not_false_eq_true, if_true, if_false, ite_true, ite_false, Int32.reduceLT, ite_not, eq_self, or_true, true_or, ite_self, reduceIte, B_X11_find_J2]
        refine frst_loop (p := fun k => !decide (B ((N i).1 + k) = B (τ.1 + k))) (n := τ.2.1 - τ.1) (fun k => Wp m_X11_find d 0 Q 44 [.ref 59, .int (nI s), .int 1, .int (nI k)] [] w) ?_ ?_ ?_
        · intro k hk2 hp he
          have hp2 : ¬ B ((N i).1 + k) = B (τ.1 + k) := by simpa using hp
          have z : pSl B τ N c s = false := by
            rw [ep]
            cases z : smB B τ (N i) with
            | false => rfl
            | true => exact absurd ((smB_iff.mp z).2 k (by omega)) hp2
          have h8 : k < 8 := by omega
          have hx : 87 + 8 * s + k < 191 := by omega
          have ei : 87 + 8 * nI s + nI k = nI (87 + 8 * s + k) := by rw [show (87 : Int32) = nI 87 from rfl, show (8 : Int32) = nI 8 from rfl, nI_mul, nI_add, nI_add]
          have e5 : (nI (B ((N i).1 + k)) = nI (B (τ.1 + k))) = False := by rw [eq_n (by have := hB ((N i).1 + k); omega) (by have := hB (τ.1 + k); omega)]; exact eq_false hp2
          refine S_X11_find_L2 _ _ _ ?_
          simp +decide (disch := omega) only [↓EQA, CEA, LIA, NIA, Nat.lt_irrefl, Option.toList_some, Option.toList_none, List.cons_append, List.nil_append, true_and, and_true, Nat.reduceAdd, Nat.reduceLeDiff, not_true_eq_false, not_false_eq_true, if_true, if_false, ite_true, ite_false, Int32.reduceLT, ite_not, eq_self, or_true, true_or, ite_self, reduceIte, B_X11_find_L2, m8, hk2, ei, hx, e3 k (by omega), h8, m61 k hk2, e5, B_X11_find_J3]
          refine S_X11_find_L2 _ _ _ ?_
          by_cases y : k + 1 < τ.2.1 - τ.1
          · simp +decide (disch := omega) only [↓EQA, CEA, LIA, NIA, Nat.lt_irrefl, Option.toList_some, Option.toList_none, List.cons_append, List.nil_append, true_and, and_true, Nat.reduceAdd, Nat.reduceLeDiff, not_true_eq_false, not_false_eq_true, if_true, if_false, ite_true, ite_false, Int32.reduceLT, ite_not, eq_self, or_true, true_or, ite_self, reduceIte, B_X11_find_L2, m8, y]
            exact no _ z
          · simp +decide (disch := omega) only [↓EQA, CEA, LIA, NIA, Nat.lt_irrefl, Option.toList_some, Option.toList_none, List.cons_append, List.nil_append, true_and, and_true, Nat.reduceAdd, Nat.reduceLeDiff, not_true_eq_false, not_false_eq_true, if_true, if_false, ite_true, ite_false, Int32.reduceLT, ite_not, eq_self, or_true, true_or, ite_self, reduceIte, B_X11_find_L2, m8, y]
            exact no _ z
        · intro k hk2 hp hd
          have hp2 : B ((N i).1 + k) = B (τ.1 + k) := by simpa using hp
          have h8 : k < 8 := by omega
          have hx : 87 + 8 * s + k < 191 := by omega
          have ei : 87 + 8 * nI s + nI k = nI (87 + 8 * s + k) := by rw [show (87 : Int32) = nI 87 from rfl, show (8 : Int32) = nI 8 from rfl, nI_mul, nI_add, nI_add]
          refine S_X11_find_L2 _ _ _ ?_
          simp +decide (disch := omega) only [↓EQA, CEA, LIA, NIA, Nat.lt_irrefl, Option.toList_some, Option.toList_none, List.cons_append, List.nil_append, true_and, and_true, Nat.reduceAdd, Nat.reduceLeDiff, not_true_eq_false, not_false_eq_true, if_true, if_false, ite_true, ite_false, Int32.reduceLT, ite_not, eq_self, or_true, true_or, ite_self, reduceIte, B_X11_find_L2, m8, hk2, ei, hx, e3 k (by omega), h8, m61 k hk2, hp2, B_X11_find_J3]
          exact hd
        · intro he
          have z : pSl B τ N c s = true := by
            rw [ep]
            refine smB_iff.mpr ⟨q.symm, fun j hj => ?_⟩
            have := (frst_spec (fun k => !decide (B ((N i).1 + k) = B (τ.1 + k))) (τ.2.1 - τ.1)).2.1 j (by omega)
            simpa using this
          refine S_X11_find_L2 _ _ _ ?_
          simp +decide (disch := omega) only [↓EQA, CEA, LIA, NIA, Nat.lt_irrefl, Option.toList_some, Option.toList_none, List.cons_append, List.nil_append, true_and, and_true, Nat.reduceAdd, Nat.reduceLeDiff, not_true_eq_false, not_false_eq_true, if_true, if_false, ite_true, ite_false, Int32.reduceLT, ite_not, eq_self, or_true, true_or, ite_self, reduceIte, B_X11_find_L2, m8, B_X11_find_J4]
          exact h1 z
      · rw [if_neg q]
        exact none _ (by
          rw [ep]
          cases z : smB B τ (N i) with
          | false => rfl
          | true => exact absurd (smB_iff.mp z).1.symm q)
    · simp +decide (disch := omega) only [↓EQA, CEA, LIA, NIA, Nat.lt_irrefl, Option.toList_some, Option.toList_none, List.cons_append, List.nil_append, true_and, and_true, Nat.reduceAdd, Nat.reduceLeDiff, not_true_eq_false, not_false_eq_true, if_true, if_false, ite_true, ite_false, Int32.reduceLT, ite_not, eq_self, or_true, true_or, ite_self, reduceIte, B_X11_find_L1, hs, hs191, e2]
      refine none _ ?_
      cases q : pSl B τ N c s with
      | false => rfl
      | true =>
        obtain ⟨j, hj, f1, f2⟩ := pSl_iff.mp q
        exact absurd f1 (e1 j hj)
  refine frst_loop (p := pSl B τ N c) (n := 13) (fun s => ∀ v2 v3, Wp m_X11_find d 0 Q 2 [.ref 59, .int (nI s), v2, v3] [] w) ?_ ?_ ?_
  · intro s hs hp he
    rw [he, if_pos hs] at hQ
    exact step s hs (fun _ => hQ) (fun z => by rw [hp] at z; cases z)
  · intro s hs hp hd
    exact step s hs (fun z => by rw [hp] at z; cases z) (fun _ => hd)
  · intro he v2 v3
    rw [he, if_neg (Nat.lt_irrefl _)] at hQ
    refine S_X11_find_L1 _ _ _ ?_
    simp +decide (disch := omega) only [↓EQA, CEA, LIA, NIA, Nat.lt_irrefl, Option.toList_some, Option.toList_none, List.cons_append, List.nil_append, true_and, and_true, Nat.reduceAdd, Nat.reduceLeDiff, not_true_eq_false, not_false_eq_true, if_true, if_false, ite_true, ite_false, Int32.reduceLT, ite_not, eq_self, or_true, true_or, ite_self, reduceIte, B_X11_find_L1]
    exact hQ
end MNames
