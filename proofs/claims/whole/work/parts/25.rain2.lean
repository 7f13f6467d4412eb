/-! ===== numbers within bounds; longs ===== -/
theorem lN_toI {n : Nat} (h : n < 2 ^ 63) : (lN n).toInt = (n : Int) := lg_ofNat_toInt (by omega)
theorem bm64 {z : Nat} (h : z < 2 ^ 63) : ((z : Nat) : Int).bmod (2 ^ 64) = (z : Int) := by
  apply Int.bmod_eq_of_le <;> omega
theorem bm32 {z : Nat} (h : z < 2 ^ 31) : ((z : Nat) : Int).bmod (2 ^ 32) = (z : Int) := by
  apply Int.bmod_eq_of_le <;> omega
theorem lN_div {a b : Nat} (ha : a < 2 ^ 63) (hb : b < 2 ^ 63) : lN a / lN b = lN (a / b) := Int64.toInt_inj.mp (by
  have hd := Nat.div_le_self a b
  rw [Int64.toInt_div, lN_toI ha, lN_toI hb, lN_toI (by omega), ← Int.ofNat_tdiv]
  exact bm64 (by omega))
theorem nI_div {a b : Nat} (ha : a < 2 ^ 31) (hb : b < 2 ^ 31) : nI a / nI b = nI (a / b) := Int32.toInt_inj.mp (by
  have hd := Nat.div_le_self a b
  rw [Int32.toInt_div, nI_toInt ha, nI_toInt hb, nI_toInt (by omega), ← Int.ofNat_tdiv]
  exact bm32 (by omega))
theorem nI_sub {a b : Nat} (h : b ≤ a) : nI a - nI b = nI (a - b) := by
  have e : nI a = nI (a - b) + nI b := by rw [nI_add, Nat.sub_add_cancel h]
  rw [e]
  exact Int32.add_sub_cancel _ _
theorem modE (a b : Nat) : a - a / b * b = a % b := by
  have h := Nat.div_add_mod a b
  have e : a / b * b = b * (a / b) := Nat.mul_comm _ _
  omega
theorem lN_rem {a b : Nat} (ha : a < 2 ^ 63) (hb : b < 2 ^ 63) : lN a - lN a / lN b * lN b = lN (a % b) := by
  rw [lN_div ha hb, lN_mul, lN_sub (Nat.div_mul_le_self a b), modE]
theorem nI_rem {a b : Nat} (ha : a < 2 ^ 31) (hb : b < 2 ^ 31) : nI a - nI a / nI b * nI b = nI (a % b) := by
  rw [nI_div ha hb, nI_mul, nI_sub (Nat.div_mul_le_self a b), modE]
theorem lN_ltN {a b : Nat} (ha : a < 2 ^ 63) (hb : b < 2 ^ 63) : (lN a < lN b) = (a < b) := propext (by rw [Int64.lt_iff_toInt_lt, lN_toI ha, lN_toI hb]; omega)
theorem lN_eqN {a b : Nat} (ha : a < 2 ^ 63) (hb : b < 2 ^ 63) : (lN a = lN b) = (a = b) := propext (by rw [← Int64.toInt_inj, lN_toI ha, lN_toI hb]; omega)
theorem lcg {a b : Nat} (ha : a < 2 ^ 63) (hb : b < 2 ^ 63) : (0 < lg_cmp (lN a) (lN b)) = (b < a) := by rw [← lN_ltN hb ha]; exact propext (lg_cmp_gt _ _)
theorem lce {a b : Nat} (ha : a < 2 ^ 63) (hb : b < 2 ^ 63) : (lg_cmp (lN a) (lN b) = 0) = (a = b) := by rw [← lN_eqN ha hb]; exact propext (lg_cmp_eq _ _)
theorem wn.add {x y : Int32} {a b a' b' : Nat} (h : wn x a b) (h' : wn y a' b') : wn (x + y) (a + a') (b + b') := by
  obtain ⟨n, rfl, h1, h2⟩ := h
  obtain ⟨m, rfl, h3, h4⟩ := h'
  exact ⟨n + m, nI_add n m, by omega, by omega⟩
theorem wn.mul {x y : Int32} {a b a' b' : Nat} (h : wn x a b) (h' : wn y a' b') : wn (x * y) 0 (b * b') := by
  obtain ⟨n, rfl, h1, h2⟩ := h
  obtain ⟨m, rfl, h3, h4⟩ := h'
  exact ⟨n * m, nI_mul n m, Nat.zero_le _, Nat.mul_le_mul h2 h4⟩
theorem wn.wk {x : Int32} {a b a' b' : Nat} (h : wn x a b) (h1 : a' ≤ a) (h2 : b ≤ b') : wn x a' b' := by
  obtain ⟨n, rfl, h3, h4⟩ := h
  exact ⟨n, rfl, by omega, by omega⟩
theorem wn.fld {f : Nat → Int32 → Int32} {x : Int32} {n b c : Nat} (h : wn x 0 b) (hf : ∀ j a, j < n → ∀ m, wn a 0 m → wn (f j a) 0 (m + c)) : wn (fld f n x) 0 (b + n * c) := by
  induction n with
  | zero => exact h.wk (Nat.le_refl _) (by omega)
  | succ n ih =>
    have := hf n _ (by omega) _ (ih fun j a hj => hf j a (by omega))
    exact this.wk (Nat.le_refl _) (by rw [Nat.succ_mul]; omega)
theorem wn0 : wn 0 0 0 := ⟨0, rfl, Nat.le_refl _, Nat.le_refl _⟩
section Bnd
variable {T : Tv} {R : Rc} {h j : Nat}
theorem WT_b (hZ : SZ T) (hO : TOK T) (V : Vw) (hh : h < nH T) : wn (WT T V h) 0 200 := by
  have hz := hZ.2
  obtain ⟨-, -, -, -, -, -, hH, hL, -⟩ := hO
  have h4 := (hH h hh).2.1
  have h0 : wn (if T 3 h = 2 then T 4 h / 2 else T 4 h) 0 50 := by
    split
    · obtain ⟨n, e, -, hn⟩ := h4
      rw [e]
      exact ⟨n / 2, nI_div (b := 2) (by omega) (by decide), Nat.zero_le _, by omega⟩
    · exact h4
  refine (wn.fld h0 (c := 30) fun l a hl m hm => ?_).wk (Nat.le_refl _) (by omega)
  split
  · exact (hm.add (hL l hl).1).wk (by omega) (by omega)
  · exact hm.wk (Nat.le_refl _) (by omega)
theorem RW_b (hZ : SZ T) (hO : TOK T) (V : Vw) : wn (RW T V h) 0 45 := by
  have hz := hZ.2
  obtain ⟨-, -, -, -, -, -, hH, hL, -⟩ := hO
  refine (wn.fld wn0 (c := 9) fun l a hl m hm => ?_).wk (Nat.le_refl _) (by omega)
  split
  · exact (hm.add (hL l hl).2).wk (by omega) (by omega)
  · exact hm.wk (Nat.le_refl _) (by omega)
theorem PW_b {a : Nat} (hZ : SZ T) (hO : TOK T) {V : Vw} (hV : wn V.2.1 a 20) : wn (PW T V h) a 110 := by
  have h1 := RW_b (h := h) hZ hO V
  have h2 : wn (2 * RW T V h) 0 90 := (wn.mul ⟨2, rfl, Nat.le_refl _, Nat.le_refl _⟩ h1).wk (Nat.le_refl _) (by omega)
  unfold PW
  refine (hV.add (a' := 0) (b' := 90) ?_).wk (by omega) (by omega)
  split
  · split
    · exact h1.wk (Nat.le_refl _) (by omega)
    · exact h2
  · exact h1.wk (Nat.le_refl _) (by omega)
theorem PR_b {a : Nat} (hO : TOK T) {V : Vw} {po : Int32} (hp : wn po a 110) : wn (PR T V j po) a 119 := by
  unfold PR
  refine (hp.add (a' := 0) (b' := 9) ?_).wk (by omega) (by omega)
  split
  · exact hO.2.2.2.2.1
  · exact wn0.wk (Nat.le_refl _) (by omega)
theorem POS_of (hZ : SZ T) (hO : TOK T) {V : Vw} (hV : wn V.2.1 1 20) : POS T V := by
  intro h j hh hj
  obtain ⟨n, e, h1, h2⟩ := PR_b (j := j) hO (PW_b (h := h) hZ hO hV)
  rw [e]
  exact nI_nlt (b := 1) h1 (by omega)
theorem TM_b (hZ : SZ T) (hO : TOK T) {V : Vw} (hV : wn V.2.1 0 20) (hh : h < nH T) (hj : j < nB T) : wn (TM T V h j) 0 7000 := by
  unfold TM TB
  obtain ⟨p, e, h1, h2⟩ := PR_b (j := j) hO (PW_b (h := h) hZ hO hV)
  rw [e]
  split
  · exact wn0.wk (Nat.le_refl _) (by omega)
  · next q =>
    have hp : 1 ≤ p := by
      rcases Nat.eq_zero_or_pos p with z | z
      · subst z; exact absurd (by decide) q
      · exact z
    have hu : wn ((T 1 j + OU T V h j) * (WT T V h + 10)) 0 6720 := by
      have ho : wn (OU T V h j) 0 2 := by
        unfold OU
        split
        · exact wn0.wk (Nat.le_refl _) (by omega)
        · split
          · exact wn0.wk (Nat.le_refl _) (by omega)
          · exact ⟨2, rfl, by omega, by omega⟩
      have h10 : wn 10 0 10 := ⟨10, rfl, by omega, by omega⟩
      exact (((hO.2.2.2.2.2.1 j hj).1.add ho).mul ((WT_b hZ hO V hh).add h10)).wk (Nat.le_refl _) (by omega)
    obtain ⟨u, e2, -, hu2⟩ := hu
    have e3 : nI u + nI p - 1 = nI (u + p - 1) := by rw [nI_add]; exact nI_sub (b := 1) (by omega)
    rw [e2, e3, nI_div (by omega) (by omega)]
    have hq : (u + p - 1) / p ≤ 7000 := Nat.le_trans (Nat.div_le_self _ _) (by omega)
    split
    · have e4 : nI ((u + p - 1) / p) / 10 = nI ((u + p - 1) / p / 10) := nI_div (b := 10) (by omega) (by decide)
      rw [e4, nI_sub (Nat.div_le_self _ _)]
      exact ⟨_, rfl, Nat.zero_le _, by omega⟩
    · exact ⟨_, rfl, Nat.zero_le _, hq⟩
theorem LO_b (hO : TOK T) (hh : h < nH T) : wn (LO T h) 0 6 := by
  obtain ⟨s, e1, a1, b1⟩ := (hO.2.2.2.2.2.2.1 h hh).2.2
  obtain ⟨b, e2, a2, b2⟩ := hO.2.1
  unfold LO
  rw [e1, e2]
  split
  · split
    · next q =>
      have := (nI_ltI (a := b) (b := s) (by omega) (by omega)).mp q
      exact ⟨s - b, nI_sub (by omega), Nat.zero_le _, by omega⟩
    · exact wn0.wk (Nat.le_refl _) (by omega)
  · exact wn0.wk (Nat.le_refl _) (by omega)
theorem TO_b (hZ : SZ T) (hO : TOK T) {V : Vw} (hV : wn V.2.1 0 20) (hh : h < nH T) : wn (TO T V h) 0 30000 := by
  have hz := hZ.2
  unfold TO SF
  have h0 : wn (LO T h * T 0 2) 0 180 := ((LO_b hO hh).mul hO.2.2.1).wk (Nat.le_refl _) (by omega)
  exact (wn.fld h0 (c := 7000) fun k a hk m hm => (hm.add (TM_b hZ hO hV hh hk)).wk (by omega) (by omega)).wk (Nat.le_refl _) (by omega)
end Bnd
/-! ===== odds by rain ===== -/
section Rain2
variable {d : Nat} {w : Mem} {Q : Option Value → Mem → Prop} {T : Tv} {R : Rc} {n h r : Nat}
theorem t_reduce {u l : Nat} (hu : w.2 55 4 = lN u) (hl : w.2 55 5 = lN l) (bu : u < 2 ^ 52) (bl : l < 2 ^ 27) (l1 : 1 ≤ l) (hQ : ∀ w', Ag (fun j i => j = 55 ∧ (i = 4 ∨ i = 5)) w w' → w'.2 55 4 = lN (u / Nat.gcd l u) → w'.2 55 5 = lN (l / Nat.gcd l u) → Q none w') : Cl (d + 1) m_X5_reduce [.ref 55] w Q := by
  have hg1 : 1 ≤ Nat.gcd l u := Nat.gcd_pos_of_pos_left _ l1
  have hg2 : Nat.gcd l u ≤ l := Nat.gcd_le_left _ l1
  have fin : ∀ (b i : Int32) (v : Value) (y : Int64), B_X5_reduce_J1 d 0 Q [.ref 55, .long (lN (Nat.gcd l u)), .null, .long y, .null, .int i, v, .null] [] w := by
    intro _ i v y
    generalize hge : Nat.gcd l u = g at hg1 hg2 hQ ⊢
    have c1 : (0 < lg_cmp (lN g) 1) = (1 < g) := lcg (b := 1) (by omega) (by decide)
    have r5 : (wL w 55 4 (lN (u / g))).2 55 5 = lN l := by rw [← hl]; simp [wL]
    have g0 : (lN g = 0) = (g = 0) := lN_eqN (b := 0) (by omega) (by decide)
    by_cases q : 1 < g
    · have g1 : ¬ g = 0 := by omega
      simp +decide (disch := omega) only [↓EQA, CEA, LIA, NIA, Nat.lt_irrefl, Option.toList_some, Option.toList_none, List.cons_append, List.nil_append, true_and, and_true, Nat.reduceAdd, Nat.reduceLeDiff, not_true_eq_false, not_false_eq_true, if_true, if_false, ite_true, ite_false, Int32.reduceLT, ite_not, eq_self, or_true, true_or, ite_self, reduceIte, B_X5_reduce_J1, B_X5_reduce_J2, c1, q, hu, hl, g0, g1, lN_div, r5]
      exact hQ _ ((Ag.rf.wL ⟨rfl, Or.inl rfl⟩).wL ⟨rfl, Or.inr rfl⟩) (by simp [wL]) (by simp [wL])
    · have g1 : g = 1 := by omega
      simp +decide (disch := omega) only [↓EQA, CEA, LIA, NIA, Nat.lt_irrefl, Option.toList_some, Option.toList_none, List.cons_append, List.nil_append, true_and, and_true, Nat.reduceAdd, Nat.reduceLeDiff, not_true_eq_false, not_false_eq_true, if_true, if_false, ite_true, ite_false, Int32.reduceLT, ite_not, eq_self, or_true, true_or, ite_self, reduceIte, B_X5_reduce_J1, B_X5_reduce_J2, c1, q]
      refine hQ _ Ag.rf ?_ ?_
      · rw [g1, Nat.div_one]; exact hu
      · rw [g1, Nat.div_one]; exact hl
  have key : ∀ m i a b, i + m ≤ 100 → a < 2 ^ 60 → b ≤ a → a * b < 2 ^ m → Nat.gcd a b = Nat.gcd l u → ∀ v, Wp m_X5_reduce d 0 Q 13 [.ref 55, .long (lN a), .null, .long (lN b), .null, .int (nI i), v, .null] [] w := by
    intro m
    induction m with
    | zero =>
      intro i a b him ha hb hab hg v
      have hb0 : b = 0 := by
        rcases Nat.eq_zero_or_pos b with z | z
        · exact z
        · have := Nat.mul_pos (show 0 < a by omega) z; omega
      subst hb0
      have ea : a = Nat.gcd l u := by rw [← hg, Nat.gcd_zero_right]
      have c0 : (lg_cmp (lN 0) 0 = 0) = True := by decide
      refine S_X5_reduce_L1 _ _ _ ?_
      rw [ea]
      simp +decide (disch := omega) only [↓EQA, CEA, LIA, NIA, Nat.lt_irrefl, Option.toList_some, Option.toList_none, List.cons_append, List.nil_append, true_and, and_true, Nat.reduceAdd, Nat.reduceLeDiff, not_true_eq_false, not_false_eq_true, if_true, if_false, ite_true, ite_false, Int32.reduceLT, ite_not, eq_self, or_true, true_or, ite_self, reduceIte, B_X5_reduce_L1, c0, ite_self]
      exact fin 0 _ _ _
    | succ m ih =>
      intro i a b him ha hb hab hg v
      have hi : i < 100 := by omega
      have c1 : (nI i < 100) = True := eq_true (nI_lt (b := 100) hi (by decide))
      have c0 : (lg_cmp (lN b) 0 = 0) = (b = 0) := lce (b := 0) (by omega) (by decide)
      have g0 : (lN b = 0) = (b = 0) := lN_eqN (b := 0) (by omega) (by decide)
      by_cases q : b = 0
      · subst q
        have ea : a = Nat.gcd l u := by rw [← hg, Nat.gcd_zero_right]
        refine S_X5_reduce_L1 _ _ _ ?_
        rw [ea]
        simp +decide (disch := omega) only [↓EQA, CEA, LIA, NIA, Nat.lt_irrefl, Option.toList_some, Option.toList_none, List.cons_append, List.nil_append, true_and, and_true, Nat.reduceAdd, Nat.reduceLeDiff, not_true_eq_false, not_false_eq_true, if_true, if_false, ite_true, ite_false, Int32.reduceLT, ite_not, eq_self, or_true, true_or, ite_self, reduceIte, B_X5_reduce_L1, c0, c1]
        exact fin 0 _ _ _
      · refine S_X5_reduce_L1 _ _ _ ?_
        simp +decide (disch := omega) only [↓EQA, CEA, LIA, NIA, Nat.lt_irrefl, Option.toList_some, Option.toList_none, List.cons_append, List.nil_append, true_and, and_true, Nat.reduceAdd, Nat.reduceLeDiff, not_true_eq_false, not_false_eq_true, if_true, if_false, ite_true, ite_false, Int32.reduceLT, ite_not, eq_self, or_true, true_or, ite_self, reduceIte, B_X5_reduce_L1, c0, c1, q, g0, lN_rem]
        have hm := Nat.mod_lt a (show b > 0 by omega)
        refine ih (i + 1) b (a % b) (by omega) (by omega) (by omega) ?_ ?_ _
        · have e1 : a % b + b ≤ a := by
            have h1 := Nat.div_add_mod a b
            have h2 : 1 ≤ a / b := (Nat.one_le_div_iff (by omega)).mpr hb
            have h3 : b * 1 ≤ b * (a / b) := Nat.mul_le_mul_left b h2
            omega
          have e2 : b * (2 * (a % b)) ≤ b * a := Nat.mul_le_mul_left b (by omega)
          have e3 : b * (2 * (a % b)) = 2 * (b * (a % b)) := by rw [Nat.mul_left_comm]
          have e4 : b * a = a * b := Nat.mul_comm _ _
          rw [Nat.pow_succ] at hab
          omega
        · rw [← hg, Nat.gcd_comm a b, Nat.gcd_rec b a, Nat.gcd_comm]
  have bp : l * u < 2 ^ 79 := by
    have h1 : l * u ≤ 2 ^ 27 * u := Nat.mul_le_mul_right u (by omega)
    omega
  refine Cl_of k_X5_reduce.1 (Nat.le_of_ble_eq_true rfl) (show Wp m_X5_reduce _ 0 _ 0 [.ref 55, .null, .null, .null, .null, .null, .null, .null] [] _ from S_X5_reduce_0 _ _ _ ?_)
  simp +decide (disch := omega) only [↓EQA, CEA, LIA, NIA, Nat.lt_irrefl, Option.toList_some, Option.toList_none, List.cons_append, List.nil_append, true_and, and_true, Nat.reduceAdd, Nat.reduceLeDiff, not_true_eq_false, not_false_eq_true, if_true, if_false, ite_true, ite_false, Int32.reduceLT, ite_not, eq_self, or_true, true_or, ite_self, reduceIte, B_X5_reduce_0, hu, hl]
  by_cases q : u ≤ l
  · exact key 100 0 l u (by omega) (by omega) q (Nat.lt_of_lt_of_le bp (Nat.pow_le_pow_right (by decide) (by decide))) rfl _
  · have c0 : (lg_cmp (lN u) 0 = 0) = (u = 0) := lce (b := 0) (by omega) (by decide)
    have g0 : (lN u = 0) = (u = 0) := lN_eqN (b := 0) (by omega) (by decide)
    have u0 : ¬ u = 0 := by omega
    have em : l % u = l := Nat.mod_eq_of_lt (by omega)
    refine S_X5_reduce_L1 _ _ _ ?_
    simp +decide (disch := omega) only [↓EQA, CEA, LIA, NIA, Nat.lt_irrefl, Option.toList_some, Option.toList_none, List.cons_append, List.nil_append, true_and, and_true, Nat.reduceAdd, Nat.reduceLeDiff, not_true_eq_false, not_false_eq_true, if_true, if_false, ite_true, ite_false, Int32.reduceLT, ite_not, eq_self, or_true, true_or, ite_self, reduceIte, B_X5_reduce_L1, c0, u0, g0, lN_rem, em]
    exact key 99 1 u l (by omega) (by omega) (by omega) (by rw [Nat.mul_comm]; exact Nat.lt_of_lt_of_le bp (Nat.pow_le_pow_right (by decide) (by decide))) (Nat.gcd_comm _ _) _
end Rain2
