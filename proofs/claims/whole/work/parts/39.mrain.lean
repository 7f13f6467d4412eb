/-! ===== fires: the two ways of telling agree; the reference's rain ===== -/
theorem and_ac (a b c : Int32) : (a &&& b) &&& c = (a &&& c) &&& b := by rw [Int32.and_assoc, Int32.and_comm b c, ← Int32.and_assoc]
theorem al_and {p : Nat → Bool} {m n : Nat} (hm : m ≤ 4) (hn : n ≤ 2 ^ m) : (if cnt p n = 0 then 0 else alM p m n) = allF p n := by
  have eM : nI (2 ^ m) - 1 = nI (2 ^ m - 1) := nI_sub (b := 1) (Nat.pow_pos (by decide))
  have hp16 := p4 hm
  have e15 : (15 : Int32) &&& nI (2 ^ m - 1) = nI (2 ^ m - 1) := by
    rcases (by omega : m = 0 ∨ m = 1 ∨ m = 2 ∨ m = 3 ∨ m = 4) with rfl | rfl | rfl | rfl | rfl <;> decide
  have key : ∀ k, k ≤ n → (fld (fun s a => if p s then a &&& nI s else a) k 15 &&& nI (2 ^ m - 1) = fld (fun s a => if p s then a &&& nI s else a) k (nI (2 ^ m - 1))) ∧ (0 < cnt p k → fld (fun s a => if p s then a &&& nI s else a) k 15 &&& nI (2 ^ m - 1) = fld (fun s a => if p s then a &&& nI s else a) k 15) := by
    intro k
    induction k with
    | zero => intro _; exact ⟨e15, fun z => absurd z (Nat.lt_irrefl _)⟩
    | succ k ih =>
      intro hk
      obtain ⟨i1, i2⟩ := ih (by omega)
      have es : nI k &&& nI (2 ^ m - 1) = nI k := by rw [nI_and (by omega) (by omega), Nat.and_two_pow_sub_one_eq_mod, Nat.mod_eq_of_lt (by omega)]
      show (if p k = true then fld _ k 15 &&& nI k else fld _ k 15) &&& nI (2 ^ m - 1) = (if p k = true then fld _ k (nI (2 ^ m - 1)) &&& nI k else fld _ k (nI (2 ^ m - 1))) ∧ (0 < (if p k = true then cnt p k + 1 else cnt p k) → (if p k = true then fld _ k 15 &&& nI k else fld _ k 15) &&& nI (2 ^ m - 1) = (if p k = true then fld _ k 15 &&& nI k else fld _ k 15))
      by_cases q : p k = true
      · simp only [q, if_true]
        exact ⟨by rw [and_ac, i1], fun _ => by rw [Int32.and_assoc, es]⟩
      · simp only [q, if_false]
        exact ⟨i1, i2⟩
  unfold allF alM
  rw [eM]
  obtain ⟨k1, k2⟩ := key n (Nat.le_refl _)
  by_cases q : cnt p n = 0
  · rw [if_pos q, if_pos q]
    have : ∀ k, k ≤ n → fld (fun s a => if p s then a &&& nI s else a) k (0 : Int32) = 0 := by
      intro k
      induction k with
      | zero => intro _; rfl
      | succ k ih =>
        intro hk
        show (if p k = true then fld _ k 0 &&& nI k else fld _ k 0) = 0
        rw [ih (by omega)]
        split
        · exact Int32.zero_and
        · rfl
    exact (this n (Nat.le_refl _)).symm
  · rw [if_neg q, if_neg q, ← k1, k2 (by omega)]
theorem fd_none {p : Nat → Bool} {x : Int32} (hx : x < 0) : ∀ n, n ≤ 16 → fdF p x n = -1 := by
  intro n
  induction n with
  | zero => intro _; rfl
  | succ n ih =>
    intro hn
    show (if p n = true ∧ nI (cnt p n) = x then nI n else fdF p x n) = -1
    have hc := cnt_le p n
    rw [if_neg (fun z => by have := ngNe (g := cnt p n) (x := x) (by omega) hx; rw [this] at z; exact z.2), ih (by omega)]
/-- the j-th set found -/
theorem fd_some {p : Nat → Bool} {j : Nat} : ∀ n, n ≤ 16 → (j < cnt p n → ∃ s, s < n ∧ p s = true ∧ cnt p s = j ∧ fdF p (nI j) n = nI s) ∧ (cnt p n ≤ j → j < 2 ^ 31 → fdF p (nI j) n = -1) := by
  intro n
  induction n with
  | zero => intro _; exact ⟨fun z => absurd z (Nat.not_lt_zero _), fun _ _ => rfl⟩
  | succ n ih =>
    intro hn
    obtain ⟨i1, i2⟩ := ih (by omega)
    have hc := cnt_le p n
    have e1 : cnt p (n + 1) = if p n = true then cnt p n + 1 else cnt p n := rfl
    have e2 : fdF p (nI j) (n + 1) = if p n = true ∧ nI (cnt p n) = nI j then nI n else fdF p (nI j) n := rfl
    constructor
    · intro hj
      by_cases q : p n = true
      · rw [if_pos q] at e1
        rw [e1] at hj
        by_cases z : cnt p n = j
        · exact ⟨n, by omega, q, z, by rw [e2, if_pos ⟨q, by rw [z]⟩]⟩
        · obtain ⟨s, a, b, c, e⟩ := i1 (by omega)
          exact ⟨s, by omega, b, c, by rw [e2, if_neg (fun y => z ((nI_eq (by omega) (by omega)).mp y.2)), e]⟩
      · rw [if_neg q] at e1
        rw [e1] at hj
        obtain ⟨s, a, b, c, e⟩ := i1 hj
        exact ⟨s, by omega, b, c, by rw [e2, if_neg (fun y => q y.1), e]⟩
    · intro hj hjb
      by_cases q : p n = true
      · rw [if_pos q] at e1
        rw [e1] at hj
        rw [e2, if_neg (fun y => by have := (nI_eq (by omega) (by omega)).mp y.2; omega)]
        exact i2 (by omega) hjb
      · rw [if_neg q] at e1
        rw [e1] at hj
        rw [e2, if_neg (fun y => q y.1)]
        exact i2 hj hjb
section MRain
variable {d : Nat} {w : Mem} {Q : Option Value → Mem → Prop} {T : Tv} {D F : Nat → Nat} {i h l r s : Nat}
theorem u_leavesOf {p : Nat → Bool} {n m : Nat} (hm : m ≤ 4) (hh : h < m) (h33 : w.1 59 33 = nI (cnt p n)) (h71 : ∀ h, h < m → w.1 71 h = wthF p n h) (hQ : Q (some (.int (lbF p n h))) w) : Cl (d + 1) m_X11_leavesOf [.ref 59, .int (nI h)] w Q := by
  have hh4 : h < 4 := by omega
  have e := h71 h hh
  unfold lbF at hQ
  refine Cl_of k_X11_leavesOf.1 (Nat.le_of_ble_eq_true rfl) (show Wp m_X11_leavesOf _ 0 _ 0 [.ref 59, .int (nI h)] [] _ from S_X11_leavesOf_0 _ _ _ ?_)
  simp +decide (disch := omega) only [↓EQA, CEA, LIA, NIA, Nat.lt_irrefl, Option.toList_some, Option.toList_none, List.cons_append, List.nil_append, true_and, and_true, Nat.reduceAdd, Nat.reduceLeDiff, not_true_eq_false, not_false_eq_true, if_true, if_false, ite_true, ite_false, Int32.reduceLT, ite_not, eq_self, or_true, true_or, ite_self, reduceIte, B_X11_leavesOf_0, B_X11_leavesOf_J1, h33, hh4, e]
  generalize wthF p n h = a at hQ ⊢
  generalize nI (cnt p n) - a = b at hQ ⊢
  by_cases q1 : b < a
  · rw [if_pos q1]
    rw [if_neg (fun z => Int32.lt_irrefl (Int32.lt_trans q1 z))] at hQ
    exact hQ
  · rw [if_neg q1]
    by_cases q2 : a < b
    · rw [if_pos q2] at hQ; exact hQ
    · rw [if_neg q2] at hQ
      have : a = b := Int32.le_antisymm (Int32.not_lt.mp q1) (Int32.not_lt.mp q2)
      rw [← this]; exact hQ
theorem u_askOf (hP : PU T D F) (hM : ToldM w T) (hR : MR w 64 D) (hQ : ∀ w', Ag SfP w w' → w'.1 59 22 = 0 → w'.1 59 33 = nI (cnt (fsP T (RS D)) (2 ^ nH T)) → (∀ h, h < nH T → w'.1 71 h = wthF (fsP T (RS D)) (2 ^ nH T) h) → Q (some (.int (if cnt (fsP T (RS D)) (2 ^ nH T) = 0 then -2 else nI (baF (fsP T (RS D)) (2 ^ nH T) (nH T))))) w') : Cl (d + 8) m_X11_askOf [.ref 59] w Q := by
  obtain ⟨hZ, hO, hD, hDH, h0, h7, hFr⟩ := id hP
  have hz := hZ.2
  have hH : 1 ≤ nH T := hO.2.2.2.2.2.2.2.2.2.2
  have hp16 := p4 hz.2.1
  have hc := cnt_le (fsP T (RS D)) (2 ^ nH T)
  refine Cl_of k_X11_askOf.1 (Nat.le_of_ble_eq_true rfl) (show Wp m_X11_askOf _ 0 _ 0 [.ref 59, .null, .null] [] _ from S_X11_askOf_0 _ _ _ ?_)
  simp +decide (disch := omega) only [↓EQA, CEA, LIA, NIA, Nat.lt_irrefl, Option.toList_some, Option.toList_none, List.cons_append, List.nil_append, true_and, and_true, Nat.reduceAdd, Nat.reduceLeDiff, not_true_eq_false, not_false_eq_true, if_true, if_false, ite_true, ite_false, Int32.reduceLT, ite_not, eq_self, or_true, true_or, ite_self, reduceIte, B_X11_askOf_0]
  refine u_seekFires hP hM hR fun w1 ha h22 h33 _ _ h71 => ?_
  have hQ' := hQ w1 ha h22 h33 h71
  have hM1 := hM.ag ha (fun i z => by omega)
  generalize fsP T (RS D) = p at *
  generalize 2 ^ nH T = N at *
  simp +decide (disch := omega) only [↓EQA, CEA, LIA, NIA, Nat.lt_irrefl, Option.toList_some, Option.toList_none, List.cons_append, List.nil_append, true_and, and_true, Nat.reduceAdd, Nat.reduceLeDiff, not_true_eq_false, not_false_eq_true, if_true, if_false, ite_true, ite_false, Int32.reduceLT, ite_not, eq_self, or_true, true_or, ite_self, reduceIte]
  by_cases q : cnt p N = 0
  · rw [if_pos q] at hQ'
    have e0 : (0 < nI (cnt p N)) = False := by rw [q]; exact eq_false (by decide)
    refine S_X11_askOf_L1 _ _ _ ?_
    simp +decide (disch := omega) only [↓EQA, CEA, LIA, NIA, Nat.lt_irrefl, Option.toList_some, Option.toList_none, List.cons_append, List.nil_append, true_and, and_true, Nat.reduceAdd, Nat.reduceLeDiff, not_true_eq_false, not_false_eq_true, if_true, if_false, ite_true, ite_false, Int32.reduceLT, ite_not, eq_self, or_true, true_or, ite_self, reduceIte, B_X11_askOf_L1, hM1.1, hZ.1, hH, h33, e0, B_X11_askOf_J3, ite_self]
    exact hQ'
  · rw [if_neg q] at hQ'
    have e0 : (0 < nI (cnt p N)) = True := eq_true (nI_lt (a := 0) (by omega) (by omega))
    have hn0 : 0 < nH T := hH
    refine S_X11_askOf_L1 _ _ _ ?_
    simp +decide (disch := omega) only [↓EQA, CEA, LIA, NIA, Nat.lt_irrefl, Option.toList_some, Option.toList_none, List.cons_append, List.nil_append, true_and, and_true, Nat.reduceAdd, Nat.reduceLeDiff, not_true_eq_false, not_false_eq_true, if_true, if_false, ite_true, ite_false, Int32.reduceLT, ite_not, eq_self, or_true, true_or, ite_self, reduceIte, B_X11_askOf_L1, hM1.1, hZ.1, hn0, h33, e0, B_X11_askOf_J1, B_X11_askOf_J2]
    have e1 : fld (fun h f => if lbF p N h < lbF p N f then h else f) 1 0 = 0 := by show (if lbF p N 0 < lbF p N 0 then 0 else 0) = 0; split <;> rfl
    suffices hh : Wp m_X11_askOf (d + 7) 0 Q 11 [.ref 59, .int (nI (fld (fun h f => if lbF p N h < lbF p N f then h else f) 1 0)), .int (nI 1)] [] w1 by rw [e1] at hh; exact hh
    refine fld_loopS (f := fun h f => if lbF p N h < lbF p N f then h else f) (s := 1) (n := nH T) (a := 0) hH (fun j f => Wp m_X11_askOf (d + 7) 0 Q 11 [.ref 59, .int (nI f), .int (nI j)] [] w1) (fun j hj1 hj hd => ?_) ?_
    · have hf : fld (fun h f => if lbF p N h < lbF p N f then h else f) j 0 < j := fsX_lt (lbF p N) j hj1
      generalize fld (fun h f => if lbF p N h < lbF p N f then h else f) j 0 = f at hd hf ⊢
      have ef : (nI f < 0) = False := neg_f (by omega)
      refine S_X11_askOf_L1 _ _ _ ?_
      simp +decide (disch := omega) only [↓EQA, CEA, LIA, NIA, Nat.lt_irrefl, Option.toList_some, Option.toList_none, List.cons_append, List.nil_append, true_and, and_true, Nat.reduceAdd, Nat.reduceLeDiff, not_true_eq_false, not_false_eq_true, if_true, if_false, ite_true, ite_false, Int32.reduceLT, ite_not, eq_self, or_true, true_or, ite_self, reduceIte, B_X11_askOf_L1, hM1.1, hZ.1, hj, h33, e0, ef]
      refine u_leavesOf hz.2.1 hj h33 h71 ?_
      simp +decide (disch := omega) only [↓EQA, CEA, LIA, NIA, Nat.lt_irrefl, Option.toList_some, Option.toList_none, List.cons_append, List.nil_append, true_and, and_true, Nat.reduceAdd, Nat.reduceLeDiff, not_true_eq_false, not_false_eq_true, if_true, if_false, ite_true, ite_false, Int32.reduceLT, ite_not, eq_self, or_true, true_or, ite_self, reduceIte]
      refine u_leavesOf hz.2.1 (show f < nH T by omega) h33 h71 ?_
      simp +decide (disch := omega) only [↓EQA, CEA, LIA, NIA, Nat.lt_irrefl, Option.toList_some, Option.toList_none, List.cons_append, List.nil_append, true_and, and_true, Nat.reduceAdd, Nat.reduceLeDiff, not_true_eq_false, not_false_eq_true, if_true, if_false, ite_true, ite_false, Int32.reduceLT, ite_not, eq_self, or_true, true_or, ite_self, reduceIte, B_X11_askOf_J1, B_X11_askOf_J2]
      (try dsimp only at hd); split <;> rename_i hb <;> simp only [hb, decide_true, decide_false, if_true, if_false, Bool.false_eq_true, decide_not, Bool.not_true, Bool.not_false] at hd <;> exact hd
    · refine S_X11_askOf_L1 _ _ _ ?_
      simp +decide (disch := omega) only [↓EQA, CEA, LIA, NIA, Nat.lt_irrefl, Option.toList_some, Option.toList_none, List.cons_append, List.nil_append, true_and, and_true, Nat.reduceAdd, Nat.reduceLeDiff, not_true_eq_false, not_false_eq_true, if_true, if_false, ite_true, ite_false, Int32.reduceLT, ite_not, eq_self, or_true, true_or, ite_self, reduceIte, B_X11_askOf_L1, hM1.1, hZ.1, B_X11_askOf_J3]
      exact hQ'
theorem u_lowest {u l : Nat} {b : Bool} (bu : u < 2 ^ 52) (bl : l < 2 ^ 27) (l1 : 1 ≤ l) (hQ : Q (some (.long (lN ((if b then l else u) / Nat.gcd l u)))) w) : Cl (d + 1) m_X11_lowest [.long (lN u), .long (lN l), .int (bI (b = true))] w Q := by
  have hg1 : 1 ≤ Nat.gcd l u := Nat.gcd_pos_of_pos_left _ l1
  have hg2 : Nat.gcd l u ≤ l := Nat.gcd_le_left _ l1
  have g0 : (lN (Nat.gcd l u) = 0) = (Nat.gcd l u = 0) := lN_eqN (b := 0) (by omega) (by decide)
  have gn : ¬ Nat.gcd l u = 0 := by omega
  refine Cl_of k_X11_lowest.1 (Nat.le_of_ble_eq_true rfl) (show Wp m_X11_lowest _ 0 _ 0 [.long (lN u), .null, .long (lN l), .null, .int (bI (b = true)), .null, .null, .null, .null, .null, .null] [] _ from S_X11_lowest_0 _ _ _ ?_)
  simp +decide (disch := omega) only [↓EQA, CEA, LIA, NIA, Nat.lt_irrefl, Option.toList_some, Option.toList_none, List.cons_append, List.nil_append, true_and, and_true, Nat.reduceAdd, Nat.reduceLeDiff, not_true_eq_false, not_false_eq_true, if_true, if_false, ite_true, ite_false, Int32.reduceLT, ite_not, eq_self, or_true, true_or, ite_self, reduceIte, B_X11_lowest_0]
  have key : ∀ y x, y < 2 ^ 60 → x < 2 ^ 60 → Nat.gcd x y = Nat.gcd l u → ∀ v : Value, Wp m_X11_lowest d 0 Q 6 [.long (lN u), .null, .long (lN l), .null, .int (bI (b = true)), .long (lN x), .null, .long (lN y), .null, v, .null] [] w := by
    intro y
    induction y using Nat.strongRecOn with
    | ind y ih =>
      intro x hy hx hg v
      have c0 : (lg_cmp (lN y) 0 = 0) = (y = 0) := lce (b := 0) (by omega) (by decide)
      have y0 : (lN y = 0) = (y = 0) := lN_eqN (b := 0) (by omega) (by decide)
      refine S_X11_lowest_L1 _ _ _ ?_
      by_cases q : y = 0
      · subst q
        rw [Nat.gcd_zero_right] at hg
        subst hg
        simp +decide (disch := omega) only [↓EQA, CEA, LIA, NIA, Nat.lt_irrefl, Option.toList_some, Option.toList_none, List.cons_append, List.nil_append, true_and, and_true, Nat.reduceAdd, Nat.reduceLeDiff, not_true_eq_false, not_false_eq_true, if_true, if_false, ite_true, ite_false, Int32.reduceLT, ite_not, eq_self, or_true, true_or, ite_self, reduceIte, B_X11_lowest_L1, c0, B_X11_lowest_J1, g0, gn, lN_div]
        cases b <;> simpa using hQ
      · simp +decide (disch := omega) only [↓EQA, CEA, LIA, NIA, Nat.lt_irrefl, Option.toList_some, Option.toList_none, List.cons_append, List.nil_append, true_and, and_true, Nat.reduceAdd, Nat.reduceLeDiff, not_true_eq_false, not_false_eq_true, if_true, if_false, ite_true, ite_false, Int32.reduceLT, ite_not, eq_self, or_true, true_or, ite_self, reduceIte, B_X11_lowest_L1, c0, q, y0, lN_rem]
        have hm := Nat.mod_lt x (show y > 0 by omega)
        refine ih (x % y) hm y (by omega) hy ?_ _
        rw [← hg, Nat.gcd_comm x y, Nat.gcd_rec y x, Nat.gcd_comm]
  exact key u l (by omega) (by omega) rfl .null
end MRain
