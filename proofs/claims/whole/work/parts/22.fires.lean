/-! ===== fires ===== -/
theorem sh2_6 : ∀ h : Fin 6, (1 : Int32) <<< (nI h.val &&& 31) = nI (2 ^ h.val) := by decide +kernel
theorem sh2 {h : Nat} (hh : h < 6) : (1 : Int32) <<< (nI h &&& 31) = nI (2 ^ h) := sh2_6 ⟨h, hh⟩
abbrev RLit (R : Rc) (s : Nat) : Rc := (R.1, R.2.1, R.2.2.1, s, R.2.2.2.2)
def fsP (T : Tv) (R : Rc) (s : Nat) : Bool := decide (¬ frst (fun i => !SWs T (VC (RLit R s)) i) (nS T) < nS T)
/-- the sets found: their number in 53, the sets in 54 -/
abbrev FSET (w : Mem) (p : Nat → Bool) (n : Nat) : Prop := w.1 53 3 = nI (cnt p n) ∧ ∀ s, s < n → p s = true → w.1 54 (cnt p s) = nI s
theorem fset_fld {α : Type} {w : Mem} {p : Nat → Bool} {g : Int32 → α → α} {a : α} : ∀ n, (∀ s, s < n → p s = true → w.1 54 (cnt p s) = nI s) → fld (fun i a => g (w.1 54 i) a) (cnt p n) a = fld (fun s a => if p s then g (nI s) a else a) n a
  | 0, _ => rfl
  | n + 1, h => by
    have ih := fset_fld (g := g) (a := a) n (fun s hs => h s (by omega))
    show fld _ (cnt p (n + 1)) a = (if p n then g (nI n) (fld _ n a) else fld _ n a)
    unfold cnt
    by_cases q : p n = true
    · rw [if_pos q, if_pos q]
      show g (w.1 54 (cnt p n)) (fld _ (cnt p n) a) = _
      rw [ih, h n (by omega) q]
    · rw [if_neg q, if_neg q]; exact ih
theorem cnt_mono {p : Nat → Bool} {s : Nat} : ∀ {j : Nat}, s < j → p s = true → cnt p s < cnt p j
  | 0, h, _ => absurd h (Nat.not_lt_zero _)
  | j + 1, h, hp => by
    show cnt p s < (if p j then cnt p j + 1 else cnt p j)
    by_cases e : s = j
    · subst e; rw [if_pos hp]; omega
    · have := cnt_mono (p := p) (s := s) (j := j) (by omega) hp
      split <;> omega
section Fires
variable {d : Nat} {w : Mem} {Q : Option Value → Mem → Prop} {T : Tv} {R : Rc} {p : Nat → Bool} {n h : Nat}
theorem cnt_lt {p : Nat → Bool} {j : Nat} : cnt p j ≤ j := cnt_le p j
theorem t_find (hT : Told w T) (hZ : SZ T) (hO : TOK T) (hC : RC w 16 17 R) (hR : ROK R) (hQ : ∀ w', Ag (fun j i => j = 18 ∨ j = 19 ∨ j = 54 ∨ (j = 53 ∧ i = 3)) w w' → FSET w' (fsP T R) (2 ^ nH T) → Q none w') : Cl (d + 6) m_X0_find [.ref 53] w Q := by
  have hz := hZ.2
  have hH : 2 ^ nH T ≤ 2 ^ 4 := Nat.pow_le_pow_right (by decide) (by omega)
  have e2 : (1 : Int32) <<< (nI (nH T) &&& 31) = nI (2 ^ nH T) := sh2 (by omega)
  refine Cl_of k_X0_find.1 (Nat.le_of_ble_eq_true rfl) (show Wp m_X0_find _ 0 _ 0 [.ref 53, .null] [] _ from S_X0_find_0 _ _ _ ?_)
  simp +decide (disch := omega) only [↓EQA, CEA, LIA, NIA, Nat.lt_irrefl, Option.toList_some, Option.toList_none, List.cons_append, List.nil_append, true_and, and_true, Nat.reduceAdd, Nat.reduceLeDiff, not_true_eq_false, not_false_eq_true, if_true, if_false, ite_true, ite_false, Int32.reduceLT, ite_not, eq_self, or_true, true_or, ite_self, reduceIte, B_X0_find_0]
  refine t_become RK_trial RK_now (by decide) hC fun w0 ha0 hC0 => ?_
  simp +decide (disch := omega) only [↓EQA, CEA, LIA, NIA, Nat.lt_irrefl, Option.toList_some, Option.toList_none, List.cons_append, List.nil_append, true_and, and_true, Nat.reduceAdd, Nat.reduceLeDiff, not_true_eq_false, not_false_eq_true, if_true, if_false, ite_true, ite_false, Int32.reduceLT, ite_not, eq_self, or_true, true_or, ite_self, reduceIte]
  have key : ∀ m j, j + m = 2 ^ nH T → ∀ w1 li, Ag (fun j i => j = 18 ∨ j = 19 ∨ j = 54 ∨ (j = 53 ∧ i = 3)) w w1 → RC w1 18 19 (RLit R li) → FSET w1 (fsP T R) j → Wp m_X0_find (d + 5) 0 Q 18 [.ref 53, .int (nI j)] [] w1 := by
    intro m
    induction m with
    | zero =>
      intro j hj w1 li ha hC1 hF
      have : j = 2 ^ nH T := by omega
      subst this
      have hT1 : Told w1 T := hT.ag ha (fun a b p q z => by omega)
      refine S_X0_find_L1 _ _ _ ?_
      simp +decide (disch := omega) only [↓EQA, CEA, LIA, NIA, Nat.lt_irrefl, Option.toList_some, Option.toList_none, List.cons_append, List.nil_append, true_and, and_true, Nat.reduceAdd, Nat.reduceLeDiff, not_true_eq_false, not_false_eq_true, if_true, if_false, ite_true, ite_false, Int32.reduceLT, ite_not, eq_self, or_true, true_or, ite_self, reduceIte, B_X0_find_L1, hT1, hZ.1, e2]
      exact hQ w1 ha hF
    | succ m ih =>
      intro j hj w1 li ha hC1 hF
      have hj1 : j < 2 ^ nH T := by omega
      have hT1 : Told w1 T := hT.ag ha (fun a b p q z => by omega)
      have ha2 := ha.wI (k := 18) (p := 4) (v := nI j) (Or.inl rfl)
      have hT2 : Told (wI w1 18 4 (nI j)) T := hT.ag ha2 (fun a b p q z => by omega)
      have hC2 : RC (wI w1 18 4 (nI j)) 18 19 (RLit R j) := by
        obtain ⟨c1, c2, c3, c4, c5⟩ := hC1
        exact ⟨fun a b => by rw [wI_ne (by decide)]; exact c1 a b, by rw [← c2]; simp [wI], by rw [← c3]; simp [wI], by simp [wI], by rw [← c5]; simp [wI]⟩
      have hR2 : ROK (RLit R j) := ⟨hR.1, hR.2.1, hR.2.2.1, show j < 16 by omega, hR.2.2.2.2⟩
      have hc := cnt_le (fsP T R) j
      have f3 : (wI w1 18 4 (nI j)).1 53 3 = nI (cnt (fsP T R) j) := by rw [wI_ne (by decide)]; exact hF.1
      have hF2 : ∀ s, s < j → fsP T R s = true → (wI w1 18 4 (nI j)).1 54 (cnt (fsP T R) s) = nI s := fun s a b => by rw [wI_ne (by decide)]; exact hF.2 s a b
      refine S_X0_find_L1 _ _ _ ?_
      simp +decide (disch := omega) only [↓EQA, CEA, LIA, NIA, Nat.lt_irrefl, Option.toList_some, Option.toList_none, List.cons_append, List.nil_append, true_and, and_true, Nat.reduceAdd, Nat.reduceLeDiff, not_true_eq_false, not_false_eq_true, if_true, if_false, ite_true, ite_false, Int32.reduceLT, ite_not, eq_self, or_true, true_or, ite_self, reduceIte, B_X0_find_L1, hT1, hZ.1, e2, hj1]
      refine t_firstNotSo RK_trial hT2 hZ hO (hC2.rv hR2) ?_
      by_cases q : frst (fun i => !SWs T (VC (RLit R j)) i) (nS T) < nS T
      · have e3 : (FNi T (VC (RLit R j)) = -2) = False := eq_false (by
          unfold FNi
          rw [if_pos q]
          intro z
          have := nI_pos (n := frst (fun i => !SWs T (VC (RLit R j)) i) (nS T)) (by omega)
          rw [z] at this
          exact this (by decide))
        have e4 : fsP T R j = false := by simp [fsP, q]
        simp +decide (disch := omega) only [↓EQA, CEA, LIA, NIA, Nat.lt_irrefl, Option.toList_some, Option.toList_none, List.cons_append, List.nil_append, true_and, and_true, Nat.reduceAdd, Nat.reduceLeDiff, not_true_eq_false, not_false_eq_true, if_true, if_false, ite_true, ite_false, Int32.reduceLT, ite_not, eq_self, or_true, true_or, ite_self, reduceIte, e3, B_X0_find_J1]
        refine ih (j + 1) (by omega) _ j ha2 hC2 ⟨?_, fun s hs hp => ?_⟩
        · unfold cnt; rw [e4]; exact f3
        · by_cases es : s = j
          · subst es; rw [e4] at hp; cases hp
          · exact hF2 s (by omega) hp
      · have e3 : (FNi T (VC (RLit R j)) = -2) = True := eq_true (by unfold FNi; rw [if_neg q])
        have e4 : fsP T R j = true := by simp [fsP, q]
        have hcj : cnt (fsP T R) j < 16 := by omega
        simp +decide (disch := omega) only [↓EQA, CEA, LIA, NIA, Nat.lt_irrefl, Option.toList_some, Option.toList_none, List.cons_append, List.nil_append, true_and, and_true, Nat.reduceAdd, Nat.reduceLeDiff, not_true_eq_false, not_false_eq_true, if_true, if_false, ite_true, ite_false, Int32.reduceLT, ite_not, eq_self, or_true, true_or, ite_self, reduceIte, e3, B_X0_find_J1, f3, hcj]
        have f4 : (wI (wI w1 18 4 (nI j)) 54 (cnt (fsP T R) j) (nI j)).1 53 3 = nI (cnt (fsP T R) j) := by rw [wI_ne (by decide)]; exact f3
        simp +decide (disch := omega) only [↓EQA, CEA, LIA, NIA, Nat.lt_irrefl, Option.toList_some, Option.toList_none, List.cons_append, List.nil_append, true_and, and_true, Nat.reduceAdd, Nat.reduceLeDiff, not_true_eq_false, not_false_eq_true, if_true, if_false, ite_true, ite_false, Int32.reduceLT, ite_not, eq_self, or_true, true_or, ite_self, reduceIte, f4, nI_1]
        refine ih (j + 1) (by omega) _ j ((ha2.wI (Or.inr (Or.inr (Or.inl rfl)))).wI (Or.inr (Or.inr (Or.inr ⟨rfl, rfl⟩)))) ?_ ⟨?_, fun s hs hp => ?_⟩
        · exact hC2
        · rw [show cnt (fsP T R) (j + 1) = cnt (fsP T R) j + 1 from if_pos e4, wI_get, if_pos ⟨rfl, rfl⟩]
        · rw [wI_ne (by decide), wI_get]
          by_cases es : s = j
          · subst es; rw [if_pos ⟨rfl, rfl⟩]
          · have hmono : cnt (fsP T R) s < cnt (fsP T R) j := cnt_mono (by omega) hp
            rw [if_neg (fun z => by omega)]
            exact hF2 s (by omega) hp
  refine key (2 ^ nH T) 0 (by omega) _ R.2.2.2.1 ((ha0.wk fun j i z => z.elim Or.inl fun z => Or.inr (Or.inl z)).wI (Or.inr (Or.inr (Or.inr ⟨rfl, rfl⟩)))) hC0 ⟨by simp [wI]; rfl, fun s hs => absurd hs (Nat.not_lt_zero _)⟩
def someF (p : Nat → Bool) (n : Nat) : Int32 := fld (fun s a => if p s then a ||| nI s else a) n 0
theorem t_inSome (hF : FSET w p n) (hn : n ≤ 16) (hQ : Q (some (.int (someF p n))) w) : Cl (d + 1) m_X0_inSome [.ref 53] w Q := by
  have hc := cnt_le p n
  refine Cl_of k_X0_inSome.1 (Nat.le_of_ble_eq_true rfl) (show Wp m_X0_inSome _ 0 _ 0 [.ref 53, .null, .null] [] _ from S_X0_inSome_0 _ _ _ ?_)
  simp +decide (disch := omega) only [↓EQA, CEA, LIA, NIA, Nat.lt_irrefl, Option.toList_some, Option.toList_none, List.cons_append, List.nil_append, true_and, and_true, Nat.reduceAdd, Nat.reduceLeDiff, not_true_eq_false, not_false_eq_true, if_true, if_false, ite_true, ite_false, Int32.reduceLT, ite_not, eq_self, or_true, true_or, ite_self, reduceIte, B_X0_inSome_0]
  refine fld_loop (f := fun i a => a ||| w.1 54 i) (n := cnt p n) (fun j a => Wp m_X0_inSome _ 0 Q 4 [.ref 53, .int a, .int (nI j)] [] w) (fun j hj hd => ?_) ?_
  · have hj16 : j < 16 := by omega
    refine S_X0_inSome_L1 _ _ _ ?_
    simp +decide (disch := omega) only [↓EQA, CEA, LIA, NIA, Nat.lt_irrefl, Option.toList_some, Option.toList_none, List.cons_append, List.nil_append, true_and, and_true, Nat.reduceAdd, Nat.reduceLeDiff, not_true_eq_false, not_false_eq_true, if_true, if_false, ite_true, ite_false, Int32.reduceLT, ite_not, eq_self, or_true, true_or, ite_self, reduceIte, B_X0_inSome_L1, hF.1, hj, hj16]
    exact hd
  · refine S_X0_inSome_L1 _ _ _ ?_
    simp +decide (disch := omega) only [↓EQA, CEA, LIA, NIA, Nat.lt_irrefl, Option.toList_some, Option.toList_none, List.cons_append, List.nil_append, true_and, and_true, Nat.reduceAdd, Nat.reduceLeDiff, not_true_eq_false, not_false_eq_true, if_true, if_false, ite_true, ite_false, Int32.reduceLT, ite_not, eq_self, or_true, true_or, ite_self, reduceIte, B_X0_inSome_L1, hF.1]
    rw [fset_fld (g := fun x a => a ||| x) n hF.2]
    exact hQ
def allF (p : Nat → Bool) (n : Nat) : Int32 := fld (fun s a => if p s then a &&& nI s else a) n (if cnt p n = 0 then 0 else 15)
theorem t_inAll (hF : FSET w p n) (hn : n ≤ 16) (hQ : Q (some (.int (allF p n))) w) : Cl (d + 1) m_X0_inAll [.ref 53] w Q := by
  have hc := cnt_le p n
  have e0 : (nI (cnt p n) = 0) = (cnt p n = 0) := eq_n (b := 0) (by omega) (by decide)
  refine Cl_of k_X0_inAll.1 (Nat.le_of_ble_eq_true rfl) (show Wp m_X0_inAll _ 0 _ 0 [.ref 53, .null, .null] [] _ from S_X0_inAll_0 _ _ _ ?_)
  have key : ∀ a0 : Int32, a0 = (if cnt p n = 0 then 0 else 15) → Wp m_X0_inAll d 0 Q 16 [.ref 53, .int a0, .int (nI 0)] [] w := by
    intro a0 ha0
    refine fld_loop (f := fun i a => a &&& w.1 54 i) (n := cnt p n) (a := a0) (fun j a => Wp m_X0_inAll _ 0 Q 16 [.ref 53, .int a, .int (nI j)] [] w) (fun j hj hd => ?_) ?_
    · have hj16 : j < 16 := by omega
      refine S_X0_inAll_L1 _ _ _ ?_
      simp +decide (disch := omega) only [↓EQA, CEA, LIA, NIA, Nat.lt_irrefl, Option.toList_some, Option.toList_none, List.cons_append, List.nil_append, true_and, and_true, Nat.reduceAdd, Nat.reduceLeDiff, not_true_eq_false, not_false_eq_true, if_true, if_false, ite_true, ite_false, Int32.reduceLT, ite_not, eq_self, or_true, true_or, ite_self, reduceIte, B_X0_inAll_L1, hF.1, hj, hj16]
      exact hd
    · refine S_X0_inAll_L1 _ _ _ ?_
      simp +decide (disch := omega) only [↓EQA, CEA, LIA, NIA, Nat.lt_irrefl, Option.toList_some, Option.toList_none, List.cons_append, List.nil_append, true_and, and_true, Nat.reduceAdd, Nat.reduceLeDiff, not_true_eq_false, not_false_eq_true, if_true, if_false, ite_true, ite_false, Int32.reduceLT, ite_not, eq_self, or_true, true_or, ite_self, reduceIte, B_X0_inAll_L1, hF.1]
      rw [fset_fld (g := fun x a => a &&& x) n hF.2, ha0]
      exact hQ
  simp +decide (disch := omega) only [↓EQA, CEA, LIA, NIA, Nat.lt_irrefl, Option.toList_some, Option.toList_none, List.cons_append, List.nil_append, true_and, and_true, Nat.reduceAdd, Nat.reduceLeDiff, not_true_eq_false, not_false_eq_true, if_true, if_false, ite_true, ite_false, Int32.reduceLT, ite_not, eq_self, or_true, true_or, ite_self, reduceIte, B_X0_inAll_0, B_X0_inAll_J1, hF.1, e0]
  by_cases q : cnt p n = 0
  · simp only [q, if_true, not_true, if_false]; exact key 0 (by rw [if_pos q])
  · simp only [q, if_true, not_false_eq_true, if_false]; exact key 15 (by rw [if_neg q])
def wthF (p : Nat → Bool) (n h : Nat) : Int32 := fld (fun s a => if p s then a + ((nI s >>> (nI h &&& 31)) &&& 1) else a) n 0
def lbF (p : Nat → Bool) (n h : Nat) : Int32 := if wthF p n h < nI (cnt p n) - wthF p n h then nI (cnt p n) - wthF p n h else wthF p n h
theorem t_leftBy (hF : FSET w p n) (hn : n ≤ 16) (hQ : Q (some (.int (lbF p n h))) w) : Cl (d + 1) m_X0_leftBy [.ref 53, .int (nI h)] w Q := by
  have hc := cnt_le p n
  refine Cl_of k_X0_leftBy.1 (Nat.le_of_ble_eq_true rfl) (show Wp m_X0_leftBy _ 0 _ 0 [.ref 53, .int (nI h), .null, .null] [] _ from S_X0_leftBy_0 _ _ _ ?_)
  simp +decide (disch := omega) only [↓EQA, CEA, LIA, NIA, Nat.lt_irrefl, Option.toList_some, Option.toList_none, List.cons_append, List.nil_append, true_and, and_true, Nat.reduceAdd, Nat.reduceLeDiff, not_true_eq_false, not_false_eq_true, if_true, if_false, ite_true, ite_false, Int32.reduceLT, ite_not, eq_self, or_true, true_or, ite_self, reduceIte, B_X0_leftBy_0]
  refine fld_loop (f := fun i a => a + ((w.1 54 i >>> (nI h &&& 31)) &&& 1)) (n := cnt p n) (fun j a => Wp m_X0_leftBy _ 0 Q 4 [.ref 53, .int (nI h), .int a, .int (nI j)] [] w) (fun j hj hd => ?_) ?_
  · have hj16 : j < 16 := by omega
    refine S_X0_leftBy_L1 _ _ _ ?_
    simp +decide (disch := omega) only [↓EQA, CEA, LIA, NIA, Nat.lt_irrefl, Option.toList_some, Option.toList_none, List.cons_append, List.nil_append, true_and, and_true, Nat.reduceAdd, Nat.reduceLeDiff, not_true_eq_false, not_false_eq_true, if_true, if_false, ite_true, ite_false, Int32.reduceLT, ite_not, eq_self, or_true, true_or, ite_self, reduceIte, B_X0_leftBy_L1, hF.1, hj, hj16]
    exact hd
  · refine S_X0_leftBy_L1 _ _ _ ?_
    rw [fset_fld (g := fun x a => a + ((x >>> (nI h &&& 31)) &&& 1)) n hF.2]
    simp +decide (disch := omega) only [↓EQA, CEA, LIA, NIA, Nat.lt_irrefl, Option.toList_some, Option.toList_none, List.cons_append, List.nil_append, true_and, and_true, Nat.reduceAdd, Nat.reduceLeDiff, not_true_eq_false, not_false_eq_true, if_true, if_false, ite_true, ite_false, Int32.reduceLT, ite_not, eq_self, or_true, true_or, ite_self, reduceIte, B_X0_leftBy_L1, hF.1]
    exact hQ
def baF (p : Nat → Bool) (n m : Nat) : Nat := fld (fun h f => if lbF p n h < lbF p n f then h else f) m 0
theorem baF_lt {p : Nat → Bool} {n : Nat} (m : Nat) (h : 1 ≤ m) : baF p n m < m := fsX_lt (lbF p n) m h
theorem t_bestToAsk (hT : Told w T) (hZ : SZ T) (hH : 1 ≤ nH T) (hF : FSET w p n) (hn : n ≤ 16) (hQ : Q (some (.int (nI (baF p n (nH T))))) w) : Cl (d + 2) m_X0_bestToAsk [.ref 53] w Q := by
  have hz := hZ.2
  refine Cl_of k_X0_bestToAsk.1 (Nat.le_of_ble_eq_true rfl) (show Wp m_X0_bestToAsk _ 0 _ 0 [.ref 53, .null, .null] [] _ from S_X0_bestToAsk_0 _ _ _ ?_)
  simp +decide (disch := omega) only [↓EQA, CEA, LIA, NIA, Nat.lt_irrefl, Option.toList_some, Option.toList_none, List.cons_append, List.nil_append, true_and, and_true, Nat.reduceAdd, Nat.reduceLeDiff, not_true_eq_false, not_false_eq_true, if_true, if_false, ite_true, ite_false, Int32.reduceLT, ite_not, eq_self, or_true, true_or, ite_self, reduceIte, B_X0_bestToAsk_0]
  have e1 : fld (fun h f => if lbF p n h < lbF p n f then h else f) 1 0 = 0 := by show (if lbF p n 0 < lbF p n 0 then 0 else 0) = 0; split <;> rfl
  suffices hh : Wp m_X0_bestToAsk (d + 1) 0 Q 4 [.ref 53, .int (nI (fld (fun h f => if lbF p n h < lbF p n f then h else f) 1 0)), .int (nI 1)] [] w by rw [e1] at hh; exact hh
  refine fld_loopS (f := fun h f => if lbF p n h < lbF p n f then h else f) (s := 1) (n := nH T) (a := 0) hH (fun j f => Wp m_X0_bestToAsk _ 0 Q 4 [.ref 53, .int (nI f), .int (nI j)] [] w) (fun j hj1 hj hd => ?_) ?_
  · generalize fld (fun h f => if lbF p n h < lbF p n f then h else f) j 0 = f at hd ⊢
    refine S_X0_bestToAsk_L1 _ _ _ ?_
    simp +decide (disch := omega) only [↓EQA, CEA, LIA, NIA, Nat.lt_irrefl, Option.toList_some, Option.toList_none, List.cons_append, List.nil_append, true_and, and_true, Nat.reduceAdd, Nat.reduceLeDiff, not_true_eq_false, not_false_eq_true, if_true, if_false, ite_true, ite_false, Int32.reduceLT, ite_not, eq_self, or_true, true_or, ite_self, reduceIte, B_X0_bestToAsk_L1, B_X0_bestToAsk_J1, hT, hZ.1, hj]
    refine t_leftBy hF hn ?_
    simp +decide (disch := omega) only [↓EQA, CEA, LIA, NIA, Nat.lt_irrefl, Option.toList_some, Option.toList_none, List.cons_append, List.nil_append, true_and, and_true, Nat.reduceAdd, Nat.reduceLeDiff, not_true_eq_false, not_false_eq_true, if_true, if_false, ite_true, ite_false, Int32.reduceLT, ite_not, eq_self, or_true, true_or, ite_self, reduceIte]
    refine t_leftBy hF hn ?_
    simp +decide (disch := omega) only [↓EQA, CEA, LIA, NIA, Nat.lt_irrefl, Option.toList_some, Option.toList_none, List.cons_append, List.nil_append, true_and, and_true, Nat.reduceAdd, Nat.reduceLeDiff, not_true_eq_false, not_false_eq_true, if_true, if_false, ite_true, ite_false, Int32.reduceLT, ite_not, eq_self, or_true, true_or, ite_self, reduceIte, B_X0_bestToAsk_J1]
    (try dsimp only at hd); split <;> rename_i hb <;> simp only [hb, decide_true, decide_false, if_true, if_false, Bool.false_eq_true, decide_not, Bool.not_true, Bool.not_false] at hd <;> exact hd
  · refine S_X0_bestToAsk_L1 _ _ _ ?_
    simp +decide (disch := omega) only [↓EQA, CEA, LIA, NIA, Nat.lt_irrefl, Option.toList_some, Option.toList_none, List.cons_append, List.nil_append, true_and, and_true, Nat.reduceAdd, Nat.reduceLeDiff, not_true_eq_false, not_false_eq_true, if_true, if_false, ite_true, ite_false, Int32.reduceLT, ite_not, eq_self, or_true, true_or, ite_self, reduceIte, B_X0_bestToAsk_L1, hT, hZ.1]
    exact hQ
end Fires
