/-! ===== the reference's fires ===== -/
theorem RS_lit {D : Nat → Nat} {s : Nat} : RS (updD D 6 s) = RLit (RS D) s := by
  have e : cw (updD D 6 s) = cw D := funext fun h => cw_congr fun l hl => by unfold updD; rw [if_neg (by omega)]
  show (cw (updD D 6 s), updD D 6 s 7, 0, updD D 6 s 6, updD D 6 s 5) = (cw D, D 7, 0, s, D 5)
  rw [e]
  rfl
theorem lit_ok {D : Nat → Nat} {s : Nat} (hD : DOK D) (hs : s < 16) : DOK (updD D 6 s) := ⟨fun l hl => by unfold updD; rw [if_neg (by omega)]; exact hD.1 l hl, hD.2.1, hs, hD.2.2.2⟩
theorem FNi_p {T : Tv} {R : Rc} {s : Nat} (hZ : SZ T) : (FNi T (VC (RLit R s)) = -2) = (fsP T R s = true) := by
  have hz := hZ.2
  unfold FNi fsP
  by_cases q : frst (fun i => !SWs T (VC (RLit R s)) i) (nS T) < nS T
  · rw [if_pos q, ngNe (by omega) (by decide)]
    simp [q]
  · rw [if_neg q]
    simp [q]
section MFire
variable {d : Nat} {w : Mem} {Q : Option Value → Mem → Prop} {T : Tv} {D F : Nat → Nat} {i h l r s : Nat}
theorem u_wrongSeen (hP : PU T D F) (hM : ToldM w T) (hR : MR w 64 D) (hdry : w.1 59 22 = 0) (hs : s < 16) (hQ : ∀ w', Ag (fun j _ => j = 69) w w' → Q (some (.int (FNi T (VC (RLit (RS D) s))))) w') : Cl (d + 6) m_X11_wrongSeen [.ref 59, .int (nI s)] w Q := by
  obtain ⟨hZ, hO, hD, hDH, h0, h7, hFr⟩ := id hP
  have hz := hZ.2
  obtain ⟨-, -, -, -, -, -, -, -, -, hS, -⟩ := id hO
  refine Cl_of k_X11_wrongSeen.1 (Nat.le_of_ble_eq_true rfl) (show Wp m_X11_wrongSeen _ 0 _ 0 [.ref 59, .int (nI s), .null] [] _ from S_X11_wrongSeen_0 _ _ _ ?_)
  simp +decide (disch := omega) only [↓EQA, CEA, LIA, NIA, Nat.lt_irrefl, Option.toList_some, Option.toList_none, List.cons_append, List.nil_append, true_and, and_true, Nat.reduceAdd, Nat.reduceLeDiff, not_true_eq_false, not_false_eq_true, if_true, if_false, ite_true, ite_false, Int32.reduceLT, ite_not, eq_self, or_true, true_or, ite_self, reduceIte, B_X11_wrongSeen_0]
  refine u_copy (a := 64) (b := 69) (p := 0) (q := 0) (n := 8) (na := 8) (nb := 8) rfl rfl (by decide) (by decide) (by decide) (by decide) (by decide) fun w1 ha1 hc1 => ?_
  simp +decide (disch := omega) only [↓EQA, CEA, LIA, NIA, Nat.lt_irrefl, Option.toList_some, Option.toList_none, List.cons_append, List.nil_append, true_and, and_true, Nat.reduceAdd, Nat.reduceLeDiff, not_true_eq_false, not_false_eq_true, if_true, if_false, ite_true, ite_false, Int32.reduceLT, ite_not, eq_self, or_true, true_or, ite_self, reduceIte]
  have ha2 : Ag (fun j _ => j = 69) w (wI w1 69 6 (nI s)) := (ha1.wk fun j i z => z.1).wI rfl
  have hR2 : MR (wI w1 69 6 (nI s)) 69 (updD D 6 s) := fun q hq => by
    rw [wI_get]
    unfold updD
    by_cases e : q = 6
    · rw [if_pos ⟨rfl, e⟩, if_pos e]
    · rw [if_neg (fun y => e y.2), if_neg e]
      have := hc1 q hq
      rw [Nat.zero_add, hR q hq] at this
      exact this
  have hM2 := hM.ag ha2 (fun i z => by omega)
  have hd2 : (wI w1 69 6 (nI s)).1 59 22 = 0 := by rw [(ha2 59 22 (by omega)).1]; exact hdry
  have hV : RM (wI w1 69 6 (nI s)) 69 (VC (RLit (RS D) s)) := by
    have := RM_of (s := 0) hR2 (lit_ok hD hs) (by decide) hd2
    rw [RS_lit] at this
    exact this
  have hpos : POS T (VC (RLit (RS D) s)) := POS_of hZ hO ⟨D 7, rfl, h7, hD.2.2.2⟩
  have hQ' := hQ _ ha2
  generalize wI w1 69 6 (nI s) = w2 at *
  unfold FNi at hQ'
  refine frst_loop (p := fun i => !SWs T (VC (RLit (RS D) s)) i) (n := nS T) (fun j => Wp m_X11_wrongSeen (d + 5) 0 Q 25 [.ref 59, .int (nI s), .int (nI j)] [] w2) ?_ ?_ ?_
  · intro i hi hp he
    obtain ⟨a, b, j, e1, e2, e3, ha, hb, hj⟩ := hS i hi
    obtain ⟨m1, m2, m3⟩ := hM2.2.2.2.2.2 i hi
    have hp2 : AH T (VC (RLit (RS D) s)) a b j = false := by
      have : SWs T (VC (RLit (RS D) s)) i = false := by simpa using hp
      unfold SWs at this
      rw [e1, e2, e3, tn (by omega), tn (by omega), tn (by omega)] at this
      exact this
    refine S_X11_wrongSeen_L1 _ _ _ ?_
    simp +decide (disch := omega) only [↓EQA, CEA, LIA, NIA, Nat.lt_irrefl, Option.toList_some, Option.toList_none, List.cons_append, List.nil_append, true_and, and_true, Nat.reduceAdd, Nat.reduceLeDiff, not_true_eq_false, not_false_eq_true, if_true, if_false, ite_true, ite_false, Int32.reduceLT, ite_not, eq_self, or_true, true_or, ite_self, reduceIte, B_X11_wrongSeen_L1, hM2.1, hZ.1, hi, m1, m2, m3, e1, e2, e3]
    refine u_isAhead hM2 hZ hO hV rfl hpos ha hb hj ?_
    simp +decide (disch := omega) only [↓EQA, CEA, LIA, NIA, Nat.lt_irrefl, Option.toList_some, Option.toList_none, List.cons_append, List.nil_append, true_and, and_true, Nat.reduceAdd, Nat.reduceLeDiff, not_true_eq_false, not_false_eq_true, if_true, if_false, ite_true, ite_false, Int32.reduceLT, ite_not, eq_self, or_true, true_or, ite_self, reduceIte, hp2]
    rw [he, if_pos hi] at hQ'
    exact hQ'
  · intro i hi hp hd
    obtain ⟨a, b, j, e1, e2, e3, ha, hb, hj⟩ := hS i hi
    obtain ⟨m1, m2, m3⟩ := hM2.2.2.2.2.2 i hi
    have hp2 : AH T (VC (RLit (RS D) s)) a b j = true := by
      have : SWs T (VC (RLit (RS D) s)) i = true := by simpa using hp
      unfold SWs at this
      rw [e1, e2, e3, tn (by omega), tn (by omega), tn (by omega)] at this
      exact this
    refine S_X11_wrongSeen_L1 _ _ _ ?_
    simp +decide (disch := omega) only [↓EQA, CEA, LIA, NIA, Nat.lt_irrefl, Option.toList_some, Option.toList_none, List.cons_append, List.nil_append, true_and, and_true, Nat.reduceAdd, Nat.reduceLeDiff, not_true_eq_false, not_false_eq_true, if_true, if_false, ite_true, ite_false, Int32.reduceLT, ite_not, eq_self, or_true, true_or, ite_self, reduceIte, B_X11_wrongSeen_L1, hM2.1, hZ.1, hi, m1, m2, m3, e1, e2, e3]
    refine u_isAhead hM2 hZ hO hV rfl hpos ha hb hj ?_
    simp +decide (disch := omega) only [↓EQA, CEA, LIA, NIA, Nat.lt_irrefl, Option.toList_some, Option.toList_none, List.cons_append, List.nil_append, true_and, and_true, Nat.reduceAdd, Nat.reduceLeDiff, not_true_eq_false, not_false_eq_true, if_true, if_false, ite_true, ite_false, Int32.reduceLT, ite_not, eq_self, or_true, true_or, ite_self, reduceIte, hp2]
    exact hd
  · intro he
    refine S_X11_wrongSeen_L1 _ _ _ ?_
    simp +decide (disch := omega) only [↓EQA, CEA, LIA, NIA, Nat.lt_irrefl, Option.toList_some, Option.toList_none, List.cons_append, List.nil_append, true_and, and_true, Nat.reduceAdd, Nat.reduceLeDiff, not_true_eq_false, not_false_eq_true, if_true, if_false, ite_true, ite_false, Int32.reduceLT, ite_not, eq_self, or_true, true_or, ite_self, reduceIte, B_X11_wrongSeen_L1, hM2.1, hZ.1]
    rw [he, if_neg (Nat.lt_irrefl _)] at hQ'
    exact hQ'
def fdF (p : Nat → Bool) (x : Int32) (n : Nat) : Int32 := fld (fun s a => if p s = true ∧ nI (cnt p s) = x then nI s else a) n (-1)
def alM (p : Nat → Bool) (m n : Nat) : Int32 := fld (fun s a => if p s then a &&& nI s else a) n (nI (2 ^ m) - 1)
abbrev FSM (w : Mem) (p : Nat → Bool) (m n : Nat) : Prop := w.1 59 33 = nI (cnt p n) ∧ w.1 59 34 = someF p n ∧ w.1 59 35 = alM p m n ∧ ∀ h, h < m → w.1 71 h = wthF p n h
abbrev SfP : Nat → Nat → Prop := fun j i => j = 69 ∨ j = 71 ∨ (j = 59 ∧ (i = 22 ∨ (33 ≤ i ∧ i ≤ 35)))
theorem u_seekFires {x : Int32} (hP : PU T D F) (hM : ToldM w T) (hR : MR w 64 D) (hQ : ∀ w', Ag SfP w w' → w'.1 59 22 = 0 → w'.1 59 33 = nI (cnt (fsP T (RS D)) (2 ^ nH T)) → w'.1 59 34 = someF (fsP T (RS D)) (2 ^ nH T) → w'.1 59 35 = (if cnt (fsP T (RS D)) (2 ^ nH T) = 0 then 0 else alM (fsP T (RS D)) (nH T) (2 ^ nH T)) → (∀ h, h < nH T → w'.1 71 h = wthF (fsP T (RS D)) (2 ^ nH T) h) → Q (some (.int (fdF (fsP T (RS D)) x (2 ^ nH T)))) w') : Cl (d + 7) m_X11_seekFires [.ref 59, .int x] w Q := by
  obtain ⟨hZ, hO, hD, hDH, h0, h7, hFr⟩ := id hP
  have hz := hZ.2
  have hp16 := p4 hz.2.1
  have e2 := sh2' hz.2.1
  generalize hp : fsP T (RS D) = p at hQ
  refine Cl_of k_X11_seekFires.1 (Nat.le_of_ble_eq_true rfl) (show Wp m_X11_seekFires _ 0 _ 0 [.ref 59, .int x, .null, .null, .null] [] _ from S_X11_seekFires_0 _ _ _ ?_)
  simp +decide (disch := omega) only [↓EQA, CEA, LIA, NIA, Nat.lt_irrefl, Option.toList_some, Option.toList_none, List.cons_append, List.nil_append, true_and, and_true, Nat.reduceAdd, Nat.reduceLeDiff, not_true_eq_false, not_false_eq_true, if_true, if_false, ite_true, ite_false, Int32.reduceLT, ite_not, eq_self, or_true, true_or, ite_self, reduceIte, B_X11_seekFires_0]
  refine u_dry ?_
  have hMd : ToldM (wI (wI (wI w 59 22 0) 59 33 0) 59 34 0) T := hM
  simp +decide (disch := omega) only [↓EQA, CEA, LIA, NIA, Nat.lt_irrefl, Option.toList_some, Option.toList_none, List.cons_append, List.nil_append, true_and, and_true, Nat.reduceAdd, Nat.reduceLeDiff, not_true_eq_false, not_false_eq_true, if_true, if_false, ite_true, ite_false, Int32.reduceLT, ite_not, eq_self, or_true, true_or, ite_self, reduceIte, hMd.1, hZ.1, e2]
  generalize hw0 : wI (wI (wI (wI w 59 22 0) 59 33 0) 59 34 0) 59 35 (nI (2 ^ nH T) - 1) = w0
  have hb0 : Ag SfP w w0 := by
    rw [← hw0]
    exact (((Ag.rf.wI (Or.inr (Or.inr ⟨rfl, Or.inl rfl⟩))).wI (Or.inr (Or.inr ⟨rfl, Or.inr ⟨by decide, by decide⟩⟩))).wI (Or.inr (Or.inr ⟨rfl, Or.inr ⟨by decide, by decide⟩⟩))).wI (Or.inr (Or.inr ⟨rfl, Or.inr ⟨by decide, by decide⟩⟩))
  have f22 : w0.1 59 22 = 0 := by rw [← hw0]; simp [wI]
  have f33 : w0.1 59 33 = nI (cnt p 0) := by rw [← hw0]; simp [wI]; rfl
  have f34 : w0.1 59 34 = someF p 0 := by rw [← hw0]; simp [wI]; rfl
  have f35 : w0.1 59 35 = alM p (nH T) 0 := by rw [← hw0]; simp [wI]; rfl
  -- the sets
  have sets : ∀ m s, s + m = 2 ^ nH T → ∀ w1 (v : Value), Ag SfP w w1 → w1.1 59 22 = 0 → FSM w1 p (nH T) s → Wp m_X11_seekFires (d + 6) 0 Q 53 [.ref 59, .int x, .int (fdF p x s), .int (nI s), v] [] w1 := by
    intro m
    induction m with
    | zero =>
      intro s hs w1 v ha h22 hF
      have : s = 2 ^ nH T := by omega
      subst this
      have hM1 := hM.ag ha (fun i z => by omega)
      have hc := cnt_le p (2 ^ nH T)
      refine S_X11_seekFires_L2 _ _ _ ?_
      by_cases q : cnt p (2 ^ nH T) = 0
      · simp +decide (disch := omega) only [↓EQA, CEA, LIA, NIA, Nat.lt_irrefl, Option.toList_some, Option.toList_none, List.cons_append, List.nil_append, true_and, and_true, Nat.reduceAdd, Nat.reduceLeDiff, not_true_eq_false, not_false_eq_true, if_true, if_false, ite_true, ite_false, Int32.reduceLT, ite_not, eq_self, or_true, true_or, ite_self, reduceIte, B_X11_seekFires_L2, hM1.1, hZ.1, e2, hF.1, q, B_X11_seekFires_J3]
        refine hQ _ (ha.wI (Or.inr (Or.inr ⟨rfl, Or.inr ⟨by decide, by decide⟩⟩))) ?_ ?_ ?_ ?_ ?_
        · rw [← h22]; simp [wI]
        · rw [← hF.1]; simp [wI]
        · rw [← hF.2.1]; simp [wI]
        · rw [if_pos q]; simp [wI]
        · intro h hh; rw [wI_ne (by decide)]; exact hF.2.2.2 h hh
      · simp +decide (disch := omega) only [↓EQA, CEA, LIA, NIA, Nat.lt_irrefl, Option.toList_some, Option.toList_none, List.cons_append, List.nil_append, true_and, and_true, Nat.reduceAdd, Nat.reduceLeDiff, not_true_eq_false, not_false_eq_true, if_true, if_false, ite_true, ite_false, Int32.reduceLT, ite_not, eq_self, or_true, true_or, ite_self, reduceIte, B_X11_seekFires_L2, hM1.1, hZ.1, e2, hF.1, q, B_X11_seekFires_J3]
        exact hQ w1 ha h22 hF.1 hF.2.1 (by rw [if_neg q]; exact hF.2.2.1) hF.2.2.2
    | succ m ih =>
      intro s hs w1 v ha h22 hF
      have hs1 : s < 2 ^ nH T := by omega
      have hs16 : s < 16 := by omega
      have hM1 := hM.ag ha (fun i z => by omega)
      have hR1 := hR.ag ha (fun i z => by omega)
      have hcs := cnt_le p s
      refine S_X11_seekFires_L2 _ _ _ ?_
      simp +decide (disch := omega) only [↓EQA, CEA, LIA, NIA, Nat.lt_irrefl, Option.toList_some, Option.toList_none, List.cons_append, List.nil_append, true_and, and_true, Nat.reduceAdd, Nat.reduceLeDiff, not_true_eq_false, not_false_eq_true, if_true, if_false, ite_true, ite_false, Int32.reduceLT, ite_not, eq_self, or_true, true_or, ite_self, reduceIte, B_X11_seekFires_L2, hM1.1, hZ.1, e2, hs1]
      refine u_wrongSeen hP hM1 hR1 h22 hs16 fun w2 ha2 => ?_
      have hb2 : Ag SfP w w2 := ha.tr (ha2.wk fun j i z => Or.inl z)
      have hM2 := hM.ag hb2 (fun i z => by omega)
      have g22 : w2.1 59 22 = 0 := by rw [(ha2 59 22 (by omega)).1]; exact h22
      have g33 : w2.1 59 33 = nI (cnt p s) := by rw [(ha2 59 33 (by omega)).1]; exact hF.1
      have g34 : w2.1 59 34 = someF p s := by rw [(ha2 59 34 (by omega)).1]; exact hF.2.1
      have g35 : w2.1 59 35 = alM p (nH T) s := by rw [(ha2 59 35 (by omega)).1]; exact hF.2.2.1
      have g71 : ∀ h, h < nH T → w2.1 71 h = wthF p s h := fun h hh => by rw [(ha2 71 h (by omega)).1]; exact hF.2.2.2 h hh
      have ef : fdF p x (s + 1) = if p s = true ∧ nI (cnt p s) = x then nI s else fdF p x s := rfl
      have e33 : cnt p (s + 1) = if p s = true then cnt p s + 1 else cnt p s := rfl
      have e34 : someF p (s + 1) = if p s = true then someF p s ||| nI s else someF p s := rfl
      have e35 : alM p (nH T) (s + 1) = if p s = true then alM p (nH T) s &&& nI s else alM p (nH T) s := rfl
      have e71 : ∀ h, wthF p (s + 1) h = if p s = true then wthF p s h + ((nI s >>> (nI h &&& 31)) &&& 1) else wthF p s h := fun h => rfl
      by_cases q : p s = true
      · have q9 : (FNi T (VC (RLit (RS D) s)) = -2) = True := by rw [FNi_p hZ, hp]; exact eq_true q
        -- behind the choice: all is counted
        have cntd : B_X11_seekFires_J1 (d + 6) 0 Q [.ref 59, .int x, .int (fdF p x (s + 1)), .int (nI s), v] [] w2 := by
          have r33 : (wI w2 59 33 (nI (cnt p s + 1))).1 59 34 = someF p s := by rw [← g34]; simp [wI]
          have r34 : (wI (wI w2 59 33 (nI (cnt p s + 1))) 59 34 (someF p s ||| nI s)).1 59 35 = alM p (nH T) s := by rw [← g35]; simp [wI]
          simp +decide (disch := omega) only [↓EQA, CEA, LIA, NIA, Nat.lt_irrefl, Option.toList_some, Option.toList_none, List.cons_append, List.nil_append, true_and, and_true, Nat.reduceAdd, Nat.reduceLeDiff, not_true_eq_false, not_false_eq_true, if_true, if_false, ite_true, ite_false, Int32.reduceLT, ite_not, eq_self, or_true, true_or, ite_self, reduceIte, B_X11_seekFires_J1, g33, nI_1, r33, r34]
          generalize hw3 : wI (wI (wI w2 59 33 (nI (cnt p s + 1))) 59 34 (someF p s ||| nI s)) 59 35 (alM p (nH T) s &&& nI s) = w3
          have hb3 : Ag SfP w w3 := by
            rw [← hw3]
            exact ((hb2.wI (Or.inr (Or.inr ⟨rfl, Or.inr ⟨by decide, by decide⟩⟩))).wI (Or.inr (Or.inr ⟨rfl, Or.inr ⟨by decide, by decide⟩⟩))).wI (Or.inr (Or.inr ⟨rfl, Or.inr ⟨by decide, by decide⟩⟩))
          have inner : ∀ m' h, h + m' = nH T → ∀ w4, Ag SfP w w4 → w4.1 59 22 = 0 → w4.1 59 33 = nI (cnt p (s + 1)) → w4.1 59 34 = someF p (s + 1) → w4.1 59 35 = alM p (nH T) (s + 1) → (∀ g, g < nH T → w4.1 71 g = if g < h then wthF p (s + 1) g else wthF p s g) → Wp m_X11_seekFires (d + 6) 0 Q 122 [.ref 59, .int x, .int (fdF p x (s + 1)), .int (nI s), .int (nI h)] [] w4 := by
            intro m'
            induction m' with
            | zero =>
              intro h hh w4 ha4 k22 k33 k34 k35 k71
              have : h = nH T := by omega
              subst this
              have hM4 := hM.ag ha4 (fun i z => by omega)
              refine S_X11_seekFires_L3 _ _ _ ?_
              simp +decide (disch := omega) only [↓EQA, CEA, LIA, NIA, Nat.lt_irrefl, Option.toList_some, Option.toList_none, List.cons_append, List.nil_append, true_and, and_true, Nat.reduceAdd, Nat.reduceLeDiff, not_true_eq_false, not_false_eq_true, if_true, if_false, ite_true, ite_false, Int32.reduceLT, ite_not, eq_self, or_true, true_or, ite_self, reduceIte, B_X11_seekFires_L3, hM4.1, hZ.1, B_X11_seekFires_J2]
              exact ih (s + 1) (by omega) w4 _ ha4 k22 ⟨k33, k34, k35, fun g hg => by rw [k71 g hg, if_pos hg]⟩
            | succ m' ihm =>
              intro h hh w4 ha4 k22 k33 k34 k35 k71
              have hh1 : h < nH T := by omega
              have hh4 : h < 4 := by omega
              have hM4 := hM.ag ha4 (fun i z => by omega)
              have k7 := k71 h hh1
              rw [if_neg (Nat.lt_irrefl _)] at k7
              refine S_X11_seekFires_L3 _ _ _ ?_
              simp +decide (disch := omega) only [↓EQA, CEA, LIA, NIA, Nat.lt_irrefl, Option.toList_some, Option.toList_none, List.cons_append, List.nil_append, true_and, and_true, Nat.reduceAdd, Nat.reduceLeDiff, not_true_eq_false, not_false_eq_true, if_true, if_false, ite_true, ite_false, Int32.reduceLT, ite_not, eq_self, or_true, true_or, ite_self, reduceIte, B_X11_seekFires_L3, hM4.1, hZ.1, hh1, hh4, k7]
              refine ihm (h + 1) (by omega) _ (ha4.wI (Or.inr (Or.inl rfl))) k22 k33 k34 k35 fun g hg => ?_
              rw [wI_get]
              by_cases e : g = h
              · subst e; rw [if_pos ⟨rfl, rfl⟩, if_pos (by omega), e71, if_pos q]
              · rw [if_neg (fun z => e z.2), k71 g hg]
                by_cases z : g < h
                · rw [if_pos z, if_pos (by omega)]
                · rw [if_neg z, if_neg (by omega)]
          refine inner (nH T) 0 (by omega) w3 hb3 ?_ ?_ ?_ ?_ fun g hg => ?_
          · rw [← hw3, ← g22]; simp [wI]
          · rw [← hw3, e33, if_pos q]; simp [wI]
          · rw [← hw3, e34, if_pos q]; simp [wI]
          · rw [← hw3, e35, if_pos q]; simp [wI]
          · rw [if_neg (Nat.not_lt_zero _), ← hw3, wI_ne (by decide), wI_ne (by decide), wI_ne (by decide)]; exact g71 g hg
        simp +decide (disch := omega) only [↓EQA, CEA, LIA, NIA, Nat.lt_irrefl, Option.toList_some, Option.toList_none, List.cons_append, List.nil_append, true_and, and_true, Nat.reduceAdd, Nat.reduceLeDiff, not_true_eq_false, not_false_eq_true, if_true, if_false, ite_true, ite_false, Int32.reduceLT, ite_not, eq_self, or_true, true_or, ite_self, reduceIte, q9, g33]
        by_cases q2 : nI (cnt p s) = x
        · rw [if_pos q2]
          rw [ef, if_pos ⟨q, q2⟩] at cntd
          exact cntd
        · rw [if_neg q2]
          rw [ef, if_neg (fun z => q2 z.2)] at cntd
          exact cntd
      · have q9 : (FNi T (VC (RLit (RS D) s)) = -2) = False := by rw [FNi_p hZ, hp]; exact eq_false q
        simp +decide (disch := omega) only [↓EQA, CEA, LIA, NIA, Nat.lt_irrefl, Option.toList_some, Option.toList_none, List.cons_append, List.nil_append, true_and, and_true, Nat.reduceAdd, Nat.reduceLeDiff, not_true_eq_false, not_false_eq_true, if_true, if_false, ite_true, ite_false, Int32.reduceLT, ite_not, eq_self, or_true, true_or, ite_self, reduceIte, q9, B_X11_seekFires_J2]
        have := ih (s + 1) (by omega) w2 v hb2 g22 ⟨by rw [e33, if_neg q]; exact g33, by rw [e34, if_neg q]; exact g34, by rw [e35, if_neg q]; exact g35, fun h hh => by rw [e71, if_neg q]; exact g71 h hh⟩
        rw [ef, if_neg (fun z => q z.1)] at this
        exact this
  -- litMany is cleared
  have clr : ∀ m h, h + m = 4 → ∀ w1, Ag SfP w w1 → w1.1 59 22 = 0 → w1.1 59 33 = nI (cnt p 0) → w1.1 59 34 = someF p 0 → w1.1 59 35 = alM p (nH T) 0 → (∀ g, g < h → w1.1 71 g = 0) → Wp m_X11_seekFires (d + 6) 0 Q 33 [.ref 59, .int x, .int (-1), .int (nI h), .null] [] w1 := by
    intro m
    induction m with
    | zero =>
      intro h hh w1 ha k22 k33 k34 k35 k71
      have : h = 4 := by omega
      subst this
      refine S_X11_seekFires_L1 _ _ _ ?_
      simp +decide (disch := omega) only [↓EQA, CEA, LIA, NIA, Nat.lt_irrefl, Option.toList_some, Option.toList_none, List.cons_append, List.nil_append, true_and, and_true, Nat.reduceAdd, Nat.reduceLeDiff, not_true_eq_false, not_false_eq_true, if_true, if_false, ite_true, ite_false, Int32.reduceLT, ite_not, eq_self, or_true, true_or, ite_self, reduceIte, B_X11_seekFires_L1]
      exact sets (2 ^ nH T) 0 (by omega) w1 .null ha k22 ⟨k33, k34, k35, fun g hg => k71 g (by omega)⟩
    | succ m ih =>
      intro h hh w1 ha k22 k33 k34 k35 k71
      have hh4 : h < 4 := by omega
      refine S_X11_seekFires_L1 _ _ _ ?_
      simp +decide (disch := omega) only [↓EQA, CEA, LIA, NIA, Nat.lt_irrefl, Option.toList_some, Option.toList_none, List.cons_append, List.nil_append, true_and, and_true, Nat.reduceAdd, Nat.reduceLeDiff, not_true_eq_false, not_false_eq_true, if_true, if_false, ite_true, ite_false, Int32.reduceLT, ite_not, eq_self, or_true, true_or, ite_self, reduceIte, B_X11_seekFires_L1, hh4]
      refine ih (h + 1) (by omega) _ (ha.wI (Or.inr (Or.inl rfl))) k22 k33 k34 k35 fun g hg => ?_
      rw [wI_get]
      by_cases e : g = h
      · subst e; rw [if_pos ⟨rfl, rfl⟩]
      · rw [if_neg (fun z => e z.2)]; exact k71 g (by omega)
  exact clr 4 0 (by omega) w0 hb0 f22 f33 f34 f35 fun g hg => absurd hg (Nat.not_lt_zero _)
end MFire
