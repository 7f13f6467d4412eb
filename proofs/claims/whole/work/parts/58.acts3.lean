/-! ===== light, cross, raise ===== -/
theorem RC.nlit {w : Mem} {E : Nat → Nat} {v : Nat} (h : RC w 16 17 (RS E)) : RC (wI w 16 4 (nI v)) 16 17 (RS (updD E 6 v)) := by
  rw [RS_lit]
  obtain ⟨a1, a2, a3, a4, a5⟩ := h
  have r : ∀ i, i ≠ 4 → (wI w 16 4 (nI v)).1 16 i = w.1 16 i := fun i hi => by rw [wI_get, if_neg (fun z => hi z.2)]
  exact ⟨fun a b => by rw [wI_ne (by decide)]; exact a1 a b, by rw [r 2 (by decide)]; exact a2, by rw [r 3 (by decide)]; exact a3, by simp [wI], by rw [r 5 (by decide)]; exact a5⟩
theorem RC.nlan {w : Mem} {E : Nat → Nat} {v : Nat} (h : RC w 16 17 (RS E)) : RC (wI w 16 5 (nI v)) 16 17 (RS (updD E 5 v)) := by
  rw [RS_lan]
  obtain ⟨a1, a2, a3, a4, a5⟩ := h
  have r : ∀ i, i ≠ 5 → (wI w 16 5 (nI v)).1 16 i = w.1 16 i := fun i hi => by rw [wI_get, if_neg (fun z => hi z.2)]
  exact ⟨fun a b => by rw [wI_ne (by decide)]; exact a1 a b, by rw [r 2 (by decide)]; exact a2, by rw [r 3 (by decide)]; exact a3, by rw [r 4 (by decide)]; exact a4, by simp [wI]⟩
theorem RC.nwat {w : Mem} {E : Nat → Nat} {v : Nat} (h : RC w 16 17 (RS E)) : RC (wI w 16 2 (nI v)) 16 17 (RS (updD E 7 v)) := by
  rw [RS_wat]
  obtain ⟨a1, a2, a3, a4, a5⟩ := h
  have r : ∀ i, i ≠ 2 → (wI w 16 2 (nI v)).1 16 i = w.1 16 i := fun i hi => by rw [wI_get, if_neg (fun z => hi z.2)]
  exact ⟨fun a b => by rw [wI_ne (by decide)]; exact a1 a b, by simp [wI], by rw [r 3 (by decide)]; exact a3, by rw [r 4 (by decide)]; exact a4, by rw [r 5 (by decide)]; exact a5⟩
theorem DOKT.u5 {T : Tv} {D F : Nat → Nat} {v : Nat} (hU : PU T D F) (hv : v < 16) : DOKT T (updD D 5 v) := ⟨lan_ok hU.2.2.1 hv, fun i hi => by unfold updD; rw [if_neg (by omega)]; exact hU.2.2.2.1 i hi, fun i hi h5 => by unfold updD; rw [if_neg (by omega)]; exact hU.2.2.2.2.1 i hi h5, hU.2.2.2.2.2.1⟩
theorem DOKT.u6 {T : Tv} {D F : Nat → Nat} {v : Nat} (hU : PU T D F) (hv : v < 16) : DOKT T (updD D 6 v) := ⟨lit_ok hU.2.2.1 hv, fun i hi => by unfold updD; rw [if_neg (by omega)]; exact hU.2.2.2.1 i hi, fun i hi h5 => by unfold updD; rw [if_neg (by omega)]; exact hU.2.2.2.2.1 i hi h5, hU.2.2.2.2.2.1⟩
theorem DOKT.u7 {T : Tv} {D F : Nat → Nat} {v : Nat} (hU : PU T D F) (hv : 1 ≤ v) (hv2 : v ≤ 20) : DOKT T (updD D 7 v) := ⟨wat_ok hU.2.2.1 hv2, fun i hi => by unfold updD; rw [if_neg (by omega)]; exact hU.2.2.2.1 i hi, fun i hi h5 => by unfold updD; rw [if_neg (by omega)]; exact hU.2.2.2.2.1 i hi h5, hv⟩
section Acts2
variable {d : Nat} {w : Mem} {T : Tv} {D F : Nat → Nat} {x y : Int32}
theorem p_light {b : Bool} (hI : IV w T D F) : PRI (d + 20) m_X10_light m_X11_light [.ref 0, .int x, .int (bI (b = true))] [.ref 59, .int x, .int (bI (b = true))] w := by
  obtain ⟨hZ, hP, ⟨c1, c2, c3⟩, hM0, ⟨n, m, A, B, hn, hm, i3, i4, i20, i21, hA, hB, hnm⟩, -⟩ := id hI
  have hz := hZ.2
  by_cases g0 : inR x (nH T)
  · obtain ⟨k, hk, rfl⟩ := inR_k g0 (by omega)
    have hH : 1 ≤ nH T := by omega
    have hU := hP.pu hH
    obtain ⟨-, hO, hD, hDH, h0, h7, hFr⟩ := id hU
    have hk4 : k < 4 := by omega
    have h6 := hD.2.2.1
    have hx16 : D 6 ^^^ 2 ^ k < 16 := Nat.xor_lt_two_pow (n := 4) h6 (Nat.pow_lt_pow_right (by decide) hk4)
    have h2k : 2 ^ k ≤ 32 := (sh5 (n := k) (by omega)).2
    have eb : ∀ a c : Bool, (bI (a = true) = bI (c = true)) = (a = c) := fun a c => by cases a <;> cases c <;> decide
    have ev : (VC (RS D)).2.2.2.1 k = (D 6).testBit k := rfl
    have ebb : bb (nI (D 6)) (nI k) = (D 6).testBit k := bbN (by omega) (by omega)
    by_cases q : (D 6).testBit k = b
    · have q9 : ((D 6).testBit k = b) = True := eq_true q
      refine askI (v := 0) (tr := 5) hI (by decide) (fun Q hQ => ?_) (fun w1 K hM hK => ?_)
      · refine Cl_of k_X10_light.1 (Nat.le_of_ble_eq_true rfl) (show Wp m_X10_light _ 0 _ 0 [.ref 0, .int (nI k), .int (bI (b = true))] [] _ from S_X10_light_0 _ _ _ ?_)
        simp +decide (disch := omega) only [↓EQA, CEA, LIA, NIA, Nat.lt_irrefl, Option.toList_some, Option.toList_none, List.cons_append, List.nil_append, true_and, and_true, Nat.reduceAdd, Nat.reduceLeDiff, not_true_eq_false, not_false_eq_true, if_true, if_false, ite_true, ite_false, Int32.reduceLT, ite_not, eq_self, or_true, true_or, ite_self, reduceIte, B_X10_light_0]
        refine t_isHouse c1 hZ ?_
        rw [show bI (inR _ (nH T)) = 1 from if_pos g0]
        simp +decide (disch := omega) only [↓EQA, CEA, LIA, NIA, Nat.lt_irrefl, Option.toList_some, Option.toList_none, List.cons_append, List.nil_append, true_and, and_true, Nat.reduceAdd, Nat.reduceLeDiff, not_true_eq_false, not_false_eq_true, if_true, if_false, ite_true, ite_false, Int32.reduceLT, ite_not, eq_self, or_true, true_or, ite_self, reduceIte]
        refine t_isLit RK_now (c2.rv hD.rok) hk4 ?_
        simp +decide (disch := omega) only [↓EQA, CEA, LIA, NIA, Nat.lt_irrefl, Option.toList_some, Option.toList_none, List.cons_append, List.nil_append, true_and, and_true, Nat.reduceAdd, Nat.reduceLeDiff, not_true_eq_false, not_false_eq_true, if_true, if_false, ite_true, ite_false, Int32.reduceLT, ite_not, eq_self, or_true, true_or, ite_self, reduceIte, ev, eb, q9]
        refine t_doneG Ag.rf c3 fun w9 h9 => ?_
        rw [show bI ((5 : Int32) = 0) = 0 by decide]
        simp +decide (disch := omega) only [↓EQA, CEA, LIA, NIA, Nat.lt_irrefl, Option.toList_some, Option.toList_none, List.cons_append, List.nil_append, true_and, and_true, Nat.reduceAdd, Nat.reduceLeDiff, not_true_eq_false, not_false_eq_true, if_true, if_false, ite_true, ite_false, Int32.reduceLT, ite_not, eq_self, or_true, true_or, ite_self, reduceIte, mrg]
        exact hQ _ h9
      · refine Cl_of k_X11_light.1 (Nat.le_of_ble_eq_true rfl) (show Wp m_X11_light _ 0 _ 0 [.ref 59, .int (nI k), .int (bI (b = true))] [] _ from S_X11_light_0 _ _ _ ?_)
        simp +decide (disch := omega) only [↓EQA, CEA, LIA, NIA, Nat.lt_irrefl, Option.toList_some, Option.toList_none, List.cons_append, List.nil_append, true_and, and_true, Nat.reduceAdd, Nat.reduceLeDiff, not_true_eq_false, not_false_eq_true, if_true, if_false, ite_true, ite_false, Int32.reduceLT, ite_not, eq_self, or_true, true_or, ite_self, reduceIte, B_X11_light_0]
        refine u_goodG hM fun wg hMg hA h11 => ?_
        simp +decide (disch := omega) only [↓EQA, CEA, LIA, NIA, Nat.lt_irrefl, Option.toList_some, Option.toList_none, List.cons_append, List.nil_append, true_and, and_true, Nat.reduceAdd, Nat.reduceLeDiff, not_true_eq_false, not_false_eq_true, if_true, if_false, ite_true, ite_false, Int32.reduceLT, ite_not, eq_self, or_true, true_or, ite_self, reduceIte]
        refine u_isHouse hMg hZ hP ?_
        rw [show bI (inR _ (nH T)) = 1 from if_pos g0]
        have e64 := hMg.2.2.1 6 (by decide)
        simp +decide (disch := omega) only [↓EQA, CEA, LIA, NIA, Nat.lt_irrefl, Option.toList_some, Option.toList_none, List.cons_append, List.nil_append, true_and, and_true, Nat.reduceAdd, Nat.reduceLeDiff, not_true_eq_false, not_false_eq_true, if_true, if_false, ite_true, ite_false, Int32.reduceLT, ite_not, eq_self, or_true, true_or, ite_self, reduceIte, e64]
        refine u_hasBit ?_
        simp +decide (disch := omega) only [↓EQA, CEA, LIA, NIA, Nat.lt_irrefl, Option.toList_some, Option.toList_none, List.cons_append, List.nil_append, true_and, and_true, Nat.reduceAdd, Nat.reduceLeDiff, not_true_eq_false, not_false_eq_true, if_true, if_false, ite_true, ite_false, Int32.reduceLT, ite_not, eq_self, or_true, true_or, ite_self, reduceIte, ebb, eb, q9]
        refine u_isNotG hMg hA fun w9 h9 => ?_
        simp +decide (disch := omega) only [↓EQA, CEA, LIA, NIA, Nat.lt_irrefl, Option.toList_some, Option.toList_none, List.cons_append, List.nil_append, true_and, and_true, Nat.reduceAdd, Nat.reduceLeDiff, not_true_eq_false, not_false_eq_true, if_true, if_false, ite_true, ite_false, Int32.reduceLT, ite_not, eq_self, or_true, true_or, ite_self, reduceIte, mrg]
        exact hK _ h9
    · have q9 : ((D 6).testBit k = b) = False := eq_false q
      have hD9 : DOKT T (updD D 6 (D 6 ^^^ 2 ^ k)) := DOKT.u6 hU hx16
      intro Q hQ
      refine Cl_of k_X10_light.1 (Nat.le_of_ble_eq_true rfl) (show Wp m_X10_light _ 0 _ 0 [.ref 0, .int (nI k), .int (bI (b = true))] [] _ from S_X10_light_0 _ _ _ ?_)
      simp +decide (disch := omega) only [↓EQA, CEA, LIA, NIA, Nat.lt_irrefl, Option.toList_some, Option.toList_none, List.cons_append, List.nil_append, true_and, and_true, Nat.reduceAdd, Nat.reduceLeDiff, not_true_eq_false, not_false_eq_true, if_true, if_false, ite_true, ite_false, Int32.reduceLT, ite_not, eq_self, or_true, true_or, ite_self, reduceIte, B_X10_light_0]
      refine t_isHouse c1 hZ ?_
      rw [show bI (inR _ (nH T)) = 1 from if_pos g0]
      simp +decide (disch := omega) only [↓EQA, CEA, LIA, NIA, Nat.lt_irrefl, Option.toList_some, Option.toList_none, List.cons_append, List.nil_append, true_and, and_true, Nat.reduceAdd, Nat.reduceLeDiff, not_true_eq_false, not_false_eq_true, if_true, if_false, ite_true, ite_false, Int32.reduceLT, ite_not, eq_self, or_true, true_or, ite_self, reduceIte]
      refine t_isLit RK_now (c2.rv hD.rok) hk4 ?_
      simp +decide (disch := omega) only [↓EQA, CEA, LIA, NIA, Nat.lt_irrefl, Option.toList_some, Option.toList_none, List.cons_append, List.nil_append, true_and, and_true, Nat.reduceAdd, Nat.reduceLeDiff, not_true_eq_false, not_false_eq_true, if_true, if_false, ite_true, ite_false, Int32.reduceLT, ite_not, eq_self, or_true, true_or, ite_self, reduceIte, ev, eb, q9]
      refine t_keepG hn i3 (fun i hi => (hA i hi).2.1) c2 hD fun wk hak ka1 ka5 => ?_
      have hCk : RC wk 16 17 (RS D) := c2.ag hak (fun i z => by omega) (fun i z => by omega)
      have e2 := (sh5 (n := k) (by omega)).1
      have r9 : wk.1 16 4 = nI (D 6) := hCk.2.2.2.1
      simp +decide (disch := omega) only [↓EQA, CEA, LIA, NIA, Nat.lt_irrefl, Option.toList_some, Option.toList_none, List.cons_append, List.nil_append, true_and, and_true, Nat.reduceAdd, Nat.reduceLeDiff, not_true_eq_false, not_false_eq_true, if_true, if_false, ite_true, ite_false, Int32.reduceLT, ite_not, eq_self, or_true, true_or, ite_self, reduceIte, r9, e2, nI_xor]
      obtain ⟨wc, hwc⟩ : ∃ wc, wc = wI wk 16 4 (nI (D 6 ^^^ 2 ^ k)) := ⟨_, rfl⟩
      rw [← hwc]
      have hac : Ag (fun j _ => j = 16) wk wc := by rw [hwc]; exact Ag.rf.wI rfl
      have hCc : RC wc 16 17 (RS (updD D 6 (D 6 ^^^ 2 ^ k))) := by rw [hwc]; exact RC.nlit hCk
      refine t_done ?_
      rw [show bI ((0 : Int32) = 0) = 1 by decide]
      have h1 : Ag (fun j i => (j = 0 ∧ i = 13) ∨ j = 16 ∨ j = 17 ∨ j = 57 ∨ (j = 56 ∧ i = 3)) w (wI wc 0 13 0) := ((hak.wk fun j i z => by omega).tr (hac.wk fun j i z => by omega)).wI (Or.inl ⟨rfl, rfl⟩)
      have ht1 : (wI wc 0 13 0).1 0 13 = 0 := by simp [wI]
      have hC1 : RC (wI wc 0 13 0) 16 17 (RS (updD D 6 (D 6 ^^^ 2 ^ k))) := hCc
      have a1 : (wI wc 0 13 0).1 56 3 = nI (nxN n) := by rw [wI_ne (by decide), (hac 56 3 (by omega)).1]; exact ka1
      have a5 : ∀ i, i < nxN n → (wI wc 0 13 0).2 57 i = lN (pkN (RS (nxA n A D i))) := fun i hi => by show wc.2 57 i = _; rw [(hac 57 i (by omega)).2]; exact ka5 i hi
      simp +decide (disch := omega) only [↓EQA, CEA, LIA, NIA, Nat.lt_irrefl, Option.toList_some, Option.toList_none, List.cons_append, List.nil_append, true_and, and_true, Nat.reduceAdd, Nat.reduceLeDiff, not_true_eq_false, not_false_eq_true, if_true, if_false, ite_true, ite_false, Int32.reduceLT, ite_not, eq_self, or_true, true_or, ite_self, reduceIte]
      generalize wI wc 0 13 0 = w1 at h1 ht1 hC1 a1 a5 ⊢
      refine hQ 1 w1 fun K hK => ?_
      have hM1 : IMd w1 T D F := hM0.ag h1 (fun i z => by omega) (fun i z => by omega) (by omega) (by rw [(h1 59 22 (by omega)).1]; exact hM0.2.2.2.1)
      refine Cl_of k_X11_light.1 (Nat.le_of_ble_eq_true rfl) (show Wp m_X11_light _ 0 _ 0 [.ref 59, .int (nI k), .int (bI (b = true))] [] _ from S_X11_light_0 _ _ _ ?_)
      simp +decide (disch := omega) only [↓EQA, CEA, LIA, NIA, Nat.lt_irrefl, Option.toList_some, Option.toList_none, List.cons_append, List.nil_append, true_and, and_true, Nat.reduceAdd, Nat.reduceLeDiff, not_true_eq_false, not_false_eq_true, if_true, if_false, ite_true, ite_false, Int32.reduceLT, ite_not, eq_self, or_true, true_or, ite_self, reduceIte, B_X11_light_0]
      refine u_goodH hM1 fun wg hMg hg h11 => ?_
      simp +decide (disch := omega) only [↓EQA, CEA, LIA, NIA, Nat.lt_irrefl, Option.toList_some, Option.toList_none, List.cons_append, List.nil_append, true_and, and_true, Nat.reduceAdd, Nat.reduceLeDiff, not_true_eq_false, not_false_eq_true, if_true, if_false, ite_true, ite_false, Int32.reduceLT, ite_not, eq_self, or_true, true_or, ite_self, reduceIte]
      refine u_isHouse hMg hZ hP ?_
      rw [show bI (inR _ (nH T)) = 1 from if_pos g0]
      have e64 := hMg.2.2.1 6 (by decide)
      simp +decide (disch := omega) only [↓EQA, CEA, LIA, NIA, Nat.lt_irrefl, Option.toList_some, Option.toList_none, List.cons_append, List.nil_append, true_and, and_true, Nat.reduceAdd, Nat.reduceLeDiff, not_true_eq_false, not_false_eq_true, if_true, if_false, ite_true, ite_false, Int32.reduceLT, ite_not, eq_self, or_true, true_or, ite_self, reduceIte, e64]
      refine u_hasBit ?_
      simp +decide (disch := omega) only [↓EQA, CEA, LIA, NIA, Nat.lt_irrefl, Option.toList_some, Option.toList_none, List.cons_append, List.nil_append, true_and, and_true, Nat.reduceAdd, Nat.reduceLeDiff, not_true_eq_false, not_false_eq_true, if_true, if_false, ite_true, ite_false, Int32.reduceLT, ite_not, eq_self, or_true, true_or, ite_self, reduceIte, ebb, eb, q9]
      refine u_noteG (A := A) hn (by rw [(hg 59 20 (by omega)).1, (h1 59 20 (by omega)).1]; exact i20) (fun i hi q hq => by rw [(hg 65 _ (by omega)).1, (h1 65 _ (by omega)).1]; exact (hA i hi).2.2 q hq) hMg.2.2.1 fun w2 h2 a3 a6 => ?_
      have hR2 : MR w2 64 D := hMg.2.2.1.ag h2 (fun i z => by omega)
      have hIN : INV (wI w2 64 6 (nI ((D 6 ^^^ 2 ^ k)))) := hI.act (tr := 0) hH (by omega) hD9 hn hm hA hB i4 i21 h1 ht1 hC1 a1 a5 hg h11 h2 a3 a6
      have e64b := hR2 6 (by decide)
      have e2b := (sh5 (n := k) (by omega)).1
      simp +decide (disch := omega) only [↓EQA, CEA, LIA, NIA, Nat.lt_irrefl, Option.toList_some, Option.toList_none, List.cons_append, List.nil_append, true_and, and_true, Nat.reduceAdd, Nat.reduceLeDiff, not_true_eq_false, not_false_eq_true, if_true, if_false, ite_true, ite_false, Int32.reduceLT, ite_not, eq_self, or_true, true_or, ite_self, reduceIte, e64b, e2b, nI_xor]
      exact hK _ hIN
  · refine askI (v := 0) (tr := 1) hI (by decide) (fun Q hQ => ?_) (fun w1 K hM hK => ?_)
    · refine Cl_of k_X10_light.1 (Nat.le_of_ble_eq_true rfl) (show Wp m_X10_light _ 0 _ 0 [.ref 0, .int x, .int (bI (b = true))] [] _ from S_X10_light_0 _ _ _ ?_)
      simp +decide (disch := omega) only [↓EQA, CEA, LIA, NIA, Nat.lt_irrefl, Option.toList_some, Option.toList_none, List.cons_append, List.nil_append, true_and, and_true, Nat.reduceAdd, Nat.reduceLeDiff, not_true_eq_false, not_false_eq_true, if_true, if_false, ite_true, ite_false, Int32.reduceLT, ite_not, eq_self, or_true, true_or, ite_self, reduceIte, B_X10_light_0]
      refine t_isHouse c1 hZ ?_
      rw [show bI (inR _ (nH T)) = 0 from if_neg g0]
      simp +decide (disch := omega) only [↓EQA, CEA, LIA, NIA, Nat.lt_irrefl, Option.toList_some, Option.toList_none, List.cons_append, List.nil_append, true_and, and_true, Nat.reduceAdd, Nat.reduceLeDiff, not_true_eq_false, not_false_eq_true, if_true, if_false, ite_true, ite_false, Int32.reduceLT, ite_not, eq_self, or_true, true_or, ite_self, reduceIte]
      refine t_doneG Ag.rf c3 fun w9 h9 => ?_
      rw [show bI ((1 : Int32) = 0) = 0 by decide]
      simp +decide (disch := omega) only [↓EQA, CEA, LIA, NIA, Nat.lt_irrefl, Option.toList_some, Option.toList_none, List.cons_append, List.nil_append, true_and, and_true, Nat.reduceAdd, Nat.reduceLeDiff, not_true_eq_false, not_false_eq_true, if_true, if_false, ite_true, ite_false, Int32.reduceLT, ite_not, eq_self, or_true, true_or, ite_self, reduceIte, mrg]
      exact hQ _ h9
    · refine Cl_of k_X11_light.1 (Nat.le_of_ble_eq_true rfl) (show Wp m_X11_light _ 0 _ 0 [.ref 59, .int x, .int (bI (b = true))] [] _ from S_X11_light_0 _ _ _ ?_)
      simp +decide (disch := omega) only [↓EQA, CEA, LIA, NIA, Nat.lt_irrefl, Option.toList_some, Option.toList_none, List.cons_append, List.nil_append, true_and, and_true, Nat.reduceAdd, Nat.reduceLeDiff, not_true_eq_false, not_false_eq_true, if_true, if_false, ite_true, ite_false, Int32.reduceLT, ite_not, eq_self, or_true, true_or, ite_self, reduceIte, B_X11_light_0]
      refine u_goodG hM fun wg hMg hA h11 => ?_
      simp +decide (disch := omega) only [↓EQA, CEA, LIA, NIA, Nat.lt_irrefl, Option.toList_some, Option.toList_none, List.cons_append, List.nil_append, true_and, and_true, Nat.reduceAdd, Nat.reduceLeDiff, not_true_eq_false, not_false_eq_true, if_true, if_false, ite_true, ite_false, Int32.reduceLT, ite_not, eq_self, or_true, true_or, ite_self, reduceIte]
      refine u_isHouse hMg hZ hP ?_
      rw [show bI (inR _ (nH T)) = 0 from if_neg g0]
      simp +decide (disch := omega) only [↓EQA, CEA, LIA, NIA, Nat.lt_irrefl, Option.toList_some, Option.toList_none, List.cons_append, List.nil_append, true_and, and_true, Nat.reduceAdd, Nat.reduceLeDiff, not_true_eq_false, not_false_eq_true, if_true, if_false, ite_true, ite_false, Int32.reduceLT, ite_not, eq_self, or_true, true_or, ite_self, reduceIte]
      refine u_isNotG hMg hA fun w9 h9 => ?_
      simp +decide (disch := omega) only [↓EQA, CEA, LIA, NIA, Nat.lt_irrefl, Option.toList_some, Option.toList_none, List.cons_append, List.nil_append, true_and, and_true, Nat.reduceAdd, Nat.reduceLeDiff, not_true_eq_false, not_false_eq_true, if_true, if_false, ite_true, ite_false, Int32.reduceLT, ite_not, eq_self, or_true, true_or, ite_self, reduceIte, mrg]
      exact hK _ h9
theorem p_cross (hI : IV w T D F) : PRI (d + 20) m_X10_cross m_X11_cross [.ref 0, .int x] [.ref 59, .int x] w := by
  obtain ⟨hZ, hP, ⟨c1, c2, c3⟩, hM0, ⟨n, m, A, B, hn, hm, i3, i4, i20, i21, hA, hB, hnm⟩, -⟩ := id hI
  have hz := hZ.2
  by_cases g0 : inR x (nH T)
  · obtain ⟨k, hk, rfl⟩ := inR_k g0 (by omega)
    have hH : 1 ≤ nH T := by omega
    have hU := hP.pu hH
    obtain ⟨-, hO, hD, hDH, h0, h7, hFr⟩ := id hU
    have hk4 : k < 4 := by omega
    have h5 := hD.2.1
    have hx16 : D 5 ^^^ 2 ^ k < 16 := Nat.xor_lt_two_pow (n := 4) h5 (Nat.pow_lt_pow_right (by decide) hk4)
    have h2k : 2 ^ k ≤ 32 := (sh5 (n := k) (by omega)).2
    have hD9 : DOKT T (updD D 5 (D 5 ^^^ 2 ^ k)) := DOKT.u5 hU hx16
    intro Q hQ
    refine Cl_of k_X10_cross.1 (Nat.le_of_ble_eq_true rfl) (show Wp m_X10_cross _ 0 _ 0 [.ref 0, .int (nI k)] [] _ from S_X10_cross_0 _ _ _ ?_)
    simp +decide (disch := omega) only [↓EQA, CEA, LIA, NIA, Nat.lt_irrefl, Option.toList_some, Option.toList_none, List.cons_append, List.nil_append, true_and, and_true, Nat.reduceAdd, Nat.reduceLeDiff, not_true_eq_false, not_false_eq_true, if_true, if_false, ite_true, ite_false, Int32.reduceLT, ite_not, eq_self, or_true, true_or, ite_self, reduceIte, B_X10_cross_0]
    refine t_isHouse c1 hZ ?_
    rw [show bI (inR _ (nH T)) = 1 from if_pos g0]
    simp +decide (disch := omega) only [↓EQA, CEA, LIA, NIA, Nat.lt_irrefl, Option.toList_some, Option.toList_none, List.cons_append, List.nil_append, true_and, and_true, Nat.reduceAdd, Nat.reduceLeDiff, not_true_eq_false, not_false_eq_true, if_true, if_false, ite_true, ite_false, Int32.reduceLT, ite_not, eq_self, or_true, true_or, ite_self, reduceIte]
    refine t_keepG hn i3 (fun i hi => (hA i hi).2.1) c2 hD fun wk hak ka1 ka5 => ?_
    have hCk : RC wk 16 17 (RS D) := c2.ag hak (fun i z => by omega) (fun i z => by omega)
    have e2 := (sh5 (n := k) (by omega)).1
    have r9 : wk.1 16 5 = nI (D 5) := hCk.2.2.2.2
    simp +decide (disch := omega) only [↓EQA, CEA, LIA, NIA, Nat.lt_irrefl, Option.toList_some, Option.toList_none, List.cons_append, List.nil_append, true_and, and_true, Nat.reduceAdd, Nat.reduceLeDiff, not_true_eq_false, not_false_eq_true, if_true, if_false, ite_true, ite_false, Int32.reduceLT, ite_not, eq_self, or_true, true_or, ite_self, reduceIte, r9, e2, nI_xor]
    obtain ⟨wc, hwc⟩ : ∃ wc, wc = wI wk 16 5 (nI (D 5 ^^^ 2 ^ k)) := ⟨_, rfl⟩
    rw [← hwc]
    have hac : Ag (fun j _ => j = 16) wk wc := by rw [hwc]; exact Ag.rf.wI rfl
    have hCc : RC wc 16 17 (RS (updD D 5 (D 5 ^^^ 2 ^ k))) := by rw [hwc]; exact RC.nlan hCk
    refine t_laneOf RK_now (hCc.rv (DOKT.u5 hU hx16).1.rok) hk4 ?_
    simp +decide (disch := omega) only [↓EQA, CEA, LIA, NIA, Nat.lt_irrefl, Option.toList_some, Option.toList_none, List.cons_append, List.nil_append, true_and, and_true, Nat.reduceAdd, Nat.reduceLeDiff, not_true_eq_false, not_false_eq_true, if_true, if_false, ite_true, ite_false, Int32.reduceLT, ite_not, eq_self, or_true, true_or, ite_self, reduceIte]
    refine t_granted ?_
    have h1 : Ag (fun j i => (j = 0 ∧ i = 13) ∨ j = 16 ∨ j = 17 ∨ j = 57 ∨ (j = 56 ∧ i = 3)) w (wI wc 0 13 0) := ((hak.wk fun j i z => by omega).tr (hac.wk fun j i z => by omega)).wI (Or.inl ⟨rfl, rfl⟩)
    have ht1 : (wI wc 0 13 0).1 0 13 = 0 := by simp [wI]
    have hC1 : RC (wI wc 0 13 0) 16 17 (RS (updD D 5 (D 5 ^^^ 2 ^ k))) := hCc
    have a1 : (wI wc 0 13 0).1 56 3 = nI (nxN n) := by rw [wI_ne (by decide), (hac 56 3 (by omega)).1]; exact ka1
    have a5 : ∀ i, i < nxN n → (wI wc 0 13 0).2 57 i = lN (pkN (RS (nxA n A D i))) := fun i hi => by show wc.2 57 i = _; rw [(hac 57 i (by omega)).2]; exact ka5 i hi
    simp +decide (disch := omega) only [↓EQA, CEA, LIA, NIA, Nat.lt_irrefl, Option.toList_some, Option.toList_none, List.cons_append, List.nil_append, true_and, and_true, Nat.reduceAdd, Nat.reduceLeDiff, not_true_eq_false, not_false_eq_true, if_true, if_false, ite_true, ite_false, Int32.reduceLT, ite_not, eq_self, or_true, true_or, ite_self, reduceIte]
    generalize wI wc 0 13 0 = w1 at h1 ht1 hC1 a1 a5 ⊢
    refine hQ ((VC (RS (updD D 5 (D 5 ^^^ 2 ^ k)))).2.2.1 k) w1 fun K hK => ?_
    have hM1 : IMd w1 T D F := hM0.ag h1 (fun i z => by omega) (fun i z => by omega) (by omega) (by rw [(h1 59 22 (by omega)).1]; exact hM0.2.2.2.1)
    refine Cl_of k_X11_cross.1 (Nat.le_of_ble_eq_true rfl) (show Wp m_X11_cross _ 0 _ 0 [.ref 59, .int (nI k)] [] _ from S_X11_cross_0 _ _ _ ?_)
    simp +decide (disch := omega) only [↓EQA, CEA, LIA, NIA, Nat.lt_irrefl, Option.toList_some, Option.toList_none, List.cons_append, List.nil_append, true_and, and_true, Nat.reduceAdd, Nat.reduceLeDiff, not_true_eq_false, not_false_eq_true, if_true, if_false, ite_true, ite_false, Int32.reduceLT, ite_not, eq_self, or_true, true_or, ite_self, reduceIte, B_X11_cross_0]
    refine u_goodH hM1 fun wg hMg hg h11 => ?_
    simp +decide (disch := omega) only [↓EQA, CEA, LIA, NIA, Nat.lt_irrefl, Option.toList_some, Option.toList_none, List.cons_append, List.nil_append, true_and, and_true, Nat.reduceAdd, Nat.reduceLeDiff, not_true_eq_false, not_false_eq_true, if_true, if_false, ite_true, ite_false, Int32.reduceLT, ite_not, eq_self, or_true, true_or, ite_self, reduceIte]
    refine u_isHouse hMg hZ hP ?_
    rw [show bI (inR _ (nH T)) = 1 from if_pos g0]
    simp +decide (disch := omega) only [↓EQA, CEA, LIA, NIA, Nat.lt_irrefl, Option.toList_some, Option.toList_none, List.cons_append, List.nil_append, true_and, and_true, Nat.reduceAdd, Nat.reduceLeDiff, not_true_eq_false, not_false_eq_true, if_true, if_false, ite_true, ite_false, Int32.reduceLT, ite_not, eq_self, or_true, true_or, ite_self, reduceIte]
    refine u_noteG (A := A) hn (by rw [(hg 59 20 (by omega)).1, (h1 59 20 (by omega)).1]; exact i20) (fun i hi q hq => by rw [(hg 65 _ (by omega)).1, (h1 65 _ (by omega)).1]; exact (hA i hi).2.2 q hq) hMg.2.2.1 fun w2 h2 a3 a6 => ?_
    have hR2 : MR w2 64 D := hMg.2.2.1.ag h2 (fun i z => by omega)
    have hIN : INV (wI w2 64 5 (nI ((D 5 ^^^ 2 ^ k)))) := hI.act (tr := 0) hH (by omega) hD9 hn hm hA hB i4 i21 h1 ht1 hC1 a1 a5 hg h11 h2 a3 a6
    have e64b := hR2 5 (by decide)
    have e2b := (sh5 (n := k) (by omega)).1
    have e9 : (wI w2 64 5 (nI (D 5 ^^^ 2 ^ k))).1 64 5 = nI (D 5 ^^^ 2 ^ k) := by simp [wI]
    simp +decide (disch := omega) only [↓EQA, CEA, LIA, NIA, Nat.lt_irrefl, Option.toList_some, Option.toList_none, List.cons_append, List.nil_append, true_and, and_true, Nat.reduceAdd, Nat.reduceLeDiff, not_true_eq_false, not_false_eq_true, if_true, if_false, ite_true, ite_false, Int32.reduceLT, ite_not, eq_self, or_true, true_or, ite_self, reduceIte, e64b, e2b, nI_xor, e9]
    rw [lnN hx16 hk4]
    exact hK _ hIN
  · refine askI (v := -1) (tr := 1) hI (by decide) (fun Q hQ => ?_) (fun w1 K hM hK => ?_)
    · refine Cl_of k_X10_cross.1 (Nat.le_of_ble_eq_true rfl) (show Wp m_X10_cross _ 0 _ 0 [.ref 0, .int x] [] _ from S_X10_cross_0 _ _ _ ?_)
      simp +decide (disch := omega) only [↓EQA, CEA, LIA, NIA, Nat.lt_irrefl, Option.toList_some, Option.toList_none, List.cons_append, List.nil_append, true_and, and_true, Nat.reduceAdd, Nat.reduceLeDiff, not_true_eq_false, not_false_eq_true, if_true, if_false, ite_true, ite_false, Int32.reduceLT, ite_not, eq_self, or_true, true_or, ite_self, reduceIte, B_X10_cross_0]
      refine t_isHouse c1 hZ ?_
      rw [show bI (inR _ (nH T)) = 0 from if_neg g0]
      simp +decide (disch := omega) only [↓EQA, CEA, LIA, NIA, Nat.lt_irrefl, Option.toList_some, Option.toList_none, List.cons_append, List.nil_append, true_and, and_true, Nat.reduceAdd, Nat.reduceLeDiff, not_true_eq_false, not_false_eq_true, if_true, if_false, ite_true, ite_false, Int32.reduceLT, ite_not, eq_self, or_true, true_or, ite_self, reduceIte]
      refine t_refusedG Ag.rf c3 fun w9 h9 => ?_
      simp +decide (disch := omega) only [↓EQA, CEA, LIA, NIA, Nat.lt_irrefl, Option.toList_some, Option.toList_none, List.cons_append, List.nil_append, true_and, and_true, Nat.reduceAdd, Nat.reduceLeDiff, not_true_eq_false, not_false_eq_true, if_true, if_false, ite_true, ite_false, Int32.reduceLT, ite_not, eq_self, or_true, true_or, ite_self, reduceIte, mrg]
      exact hQ _ h9
    · refine Cl_of k_X11_cross.1 (Nat.le_of_ble_eq_true rfl) (show Wp m_X11_cross _ 0 _ 0 [.ref 59, .int x] [] _ from S_X11_cross_0 _ _ _ ?_)
      simp +decide (disch := omega) only [↓EQA, CEA, LIA, NIA, Nat.lt_irrefl, Option.toList_some, Option.toList_none, List.cons_append, List.nil_append, true_and, and_true, Nat.reduceAdd, Nat.reduceLeDiff, not_true_eq_false, not_false_eq_true, if_true, if_false, ite_true, ite_false, Int32.reduceLT, ite_not, eq_self, or_true, true_or, ite_self, reduceIte, B_X11_cross_0]
      refine u_goodG hM fun wg hMg hA h11 => ?_
      simp +decide (disch := omega) only [↓EQA, CEA, LIA, NIA, Nat.lt_irrefl, Option.toList_some, Option.toList_none, List.cons_append, List.nil_append, true_and, and_true, Nat.reduceAdd, Nat.reduceLeDiff, not_true_eq_false, not_false_eq_true, if_true, if_false, ite_true, ite_false, Int32.reduceLT, ite_not, eq_self, or_true, true_or, ite_self, reduceIte]
      refine u_isHouse hMg hZ hP ?_
      rw [show bI (inR _ (nH T)) = 0 from if_neg g0]
      simp +decide (disch := omega) only [↓EQA, CEA, LIA, NIA, Nat.lt_irrefl, Option.toList_some, Option.toList_none, List.cons_append, List.nil_append, true_and, and_true, Nat.reduceAdd, Nat.reduceLeDiff, not_true_eq_false, not_false_eq_true, if_true, if_false, ite_true, ite_false, Int32.reduceLT, ite_not, eq_self, or_true, true_or, ite_self, reduceIte]
      refine u_noG hMg hA fun w9 h9 => ?_
      simp +decide (disch := omega) only [↓EQA, CEA, LIA, NIA, Nat.lt_irrefl, Option.toList_some, Option.toList_none, List.cons_append, List.nil_append, true_and, and_true, Nat.reduceAdd, Nat.reduceLeDiff, not_true_eq_false, not_false_eq_true, if_true, if_false, ite_true, ite_false, Int32.reduceLT, ite_not, eq_self, or_true, true_or, ite_self, reduceIte, mrg]
      exact hK _ h9
theorem p_raise (hI : IV w T D F) : PRI (d + 20) m_X10_raise m_X11_raise [.ref 0, .int x] [.ref 59, .int x] w := by
  obtain ⟨hZ, hP, ⟨c1, c2, c3⟩, hM0, ⟨n, m, A, B, hn, hm, i3, i4, i20, i21, hA, hB, hnm⟩, -⟩ := id hI
  have hz := hZ.2
  by_cases g0 : 1 ≤ nH T
  · have hH := g0
    have hU := hP.pu hH
    obtain ⟨-, hO, hD, hDH, h0, h7, hFr⟩ := id hU
    by_cases g1 : ¬ x < 1 ∧ ¬ 20 < x
    · obtain ⟨v, hv1, hv2, rfl⟩ : ∃ v, 1 ≤ v ∧ v ≤ 20 ∧ x = nI v := by
        obtain ⟨v, hv, rfl⟩ := nI_of (show ¬ x < 0 from fun z => g1.1 (Int32.lt_trans z (by decide)))
        refine ⟨v, ?_, ?_, rfl⟩
        · rcases Nat.eq_zero_or_pos v with z | z
          · subst z; exact absurd (by decide) g1.1
          · exact z
        · rcases Nat.lt_or_ge 20 v with z | z
          · exact absurd (nI_lt (a := 20) z hv) g1.2
          · exact z
      have h720 := hD.2.2.2
      have r7 : w.1 16 2 = nI (D 7) := c2.2.1
      have h7b : D 7 ≤ 20 := h720
      by_cases q : D 7 = v
      · refine askI (v := 0) (tr := 5) hI (by decide) (fun Q hQ => ?_) (fun w1 K hM hK => ?_)
        · refine Cl_of k_X10_raise.1 (Nat.le_of_ble_eq_true rfl) (show Wp m_X10_raise _ 0 _ 0 [.ref 0, .int (nI v)] [] _ from S_X10_raise_0 _ _ _ ?_)
          simp +decide (disch := omega) only [↓EQA, CEA, LIA, NIA, Nat.lt_irrefl, Option.toList_some, Option.toList_none, List.cons_append, List.nil_append, true_and, and_true, Nat.reduceAdd, Nat.reduceLeDiff, not_true_eq_false, not_false_eq_true, if_true, if_false, ite_true, ite_false, Int32.reduceLT, ite_not, eq_self, or_true, true_or, ite_self, reduceIte, B_X10_raise_0]
          refine t_isTold c1 hZ ?_
          rw [show bI (1 ≤ nH T) = 1 from if_pos g0]
          simp +decide (disch := omega) only [↓EQA, CEA, LIA, NIA, Nat.lt_irrefl, Option.toList_some, Option.toList_none, List.cons_append, List.nil_append, true_and, and_true, Nat.reduceAdd, Nat.reduceLeDiff, not_true_eq_false, not_false_eq_true, if_true, if_false, ite_true, ite_false, Int32.reduceLT, ite_not, eq_self, or_true, true_or, ite_self, reduceIte]
          refine t_isWithin ?_
          rw [show bI (¬ nI v < 1 ∧ ¬ 20 < nI v) = 1 from if_pos g1]
          simp +decide (disch := omega) only [↓EQA, CEA, LIA, NIA, Nat.lt_irrefl, Option.toList_some, Option.toList_none, List.cons_append, List.nil_append, true_and, and_true, Nat.reduceAdd, Nat.reduceLeDiff, not_true_eq_false, not_false_eq_true, if_true, if_false, ite_true, ite_false, Int32.reduceLT, ite_not, eq_self, or_true, true_or, ite_self, reduceIte, r7, q]
          refine t_doneG Ag.rf c3 fun w9 h9 => ?_
          rw [show bI ((5 : Int32) = 0) = 0 by decide]
          simp +decide (disch := omega) only [↓EQA, CEA, LIA, NIA, Nat.lt_irrefl, Option.toList_some, Option.toList_none, List.cons_append, List.nil_append, true_and, and_true, Nat.reduceAdd, Nat.reduceLeDiff, not_true_eq_false, not_false_eq_true, if_true, if_false, ite_true, ite_false, Int32.reduceLT, ite_not, eq_self, or_true, true_or, ite_self, reduceIte, mrg]
          exact hQ _ h9
        · refine Cl_of k_X11_raise.1 (Nat.le_of_ble_eq_true rfl) (show Wp m_X11_raise _ 0 _ 0 [.ref 59, .int (nI v), .null] [] _ from S_X11_raise_0 _ _ _ ?_)
          simp +decide (disch := omega) only [↓EQA, CEA, LIA, NIA, Nat.lt_irrefl, Option.toList_some, Option.toList_none, List.cons_append, List.nil_append, true_and, and_true, Nat.reduceAdd, Nat.reduceLeDiff, not_true_eq_false, not_false_eq_true, if_true, if_false, ite_true, ite_false, Int32.reduceLT, ite_not, eq_self, or_true, true_or, ite_self, reduceIte, B_X11_raise_0]
          refine u_goodG hM fun wg hMg hA h11 => ?_
          simp +decide (disch := omega) only [↓EQA, CEA, LIA, NIA, Nat.lt_irrefl, Option.toList_some, Option.toList_none, List.cons_append, List.nil_append, true_and, and_true, Nat.reduceAdd, Nat.reduceLeDiff, not_true_eq_false, not_false_eq_true, if_true, if_false, ite_true, ite_false, Int32.reduceLT, ite_not, eq_self, or_true, true_or, ite_self, reduceIte, e14 hMg g0]
          refine u_in ?_
          simp +decide (disch := omega) only [↓EQA, CEA, LIA, NIA, Nat.lt_irrefl, Option.toList_some, Option.toList_none, List.cons_append, List.nil_append, true_and, and_true, Nat.reduceAdd, Nat.reduceLeDiff, not_true_eq_false, not_false_eq_true, if_true, if_false, ite_true, ite_false, Int32.reduceLT, ite_not, eq_self, or_true, true_or, ite_self, reduceIte]
          refine u_why1 ?_
          rw [if_pos (show ¬ v < 1 ∧ ¬ 20 < v by omega)]
          simp +decide (disch := omega) only [↓EQA, CEA, LIA, NIA, Nat.lt_irrefl, Option.toList_some, Option.toList_none, List.cons_append, List.nil_append, true_and, and_true, Nat.reduceAdd, Nat.reduceLeDiff, not_true_eq_false, not_false_eq_true, if_true, if_false, ite_true, ite_false, Int32.reduceLT, ite_not, eq_self, or_true, true_or, ite_self, reduceIte]
          have e64 := hMg.2.2.1 7 (by decide)
          simp +decide (disch := omega) only [↓EQA, CEA, LIA, NIA, Nat.lt_irrefl, Option.toList_some, Option.toList_none, List.cons_append, List.nil_append, true_and, and_true, Nat.reduceAdd, Nat.reduceLeDiff, not_true_eq_false, not_false_eq_true, if_true, if_false, ite_true, ite_false, Int32.reduceLT, ite_not, eq_self, or_true, true_or, ite_self, reduceIte, e64, q]
          refine u_isNotG hMg hA fun w9 h9 => ?_
          simp +decide (disch := omega) only [↓EQA, CEA, LIA, NIA, Nat.lt_irrefl, Option.toList_some, Option.toList_none, List.cons_append, List.nil_append, true_and, and_true, Nat.reduceAdd, Nat.reduceLeDiff, not_true_eq_false, not_false_eq_true, if_true, if_false, ite_true, ite_false, Int32.reduceLT, ite_not, eq_self, or_true, true_or, ite_self, reduceIte, mrg]
          exact hK _ h9
      · skip
        have hD9 : DOKT T (updD D 7 v) := DOKT.u7 hU hv1 hv2
        intro Q hQ
        refine Cl_of k_X10_raise.1 (Nat.le_of_ble_eq_true rfl) (show Wp m_X10_raise _ 0 _ 0 [.ref 0, .int (nI v)] [] _ from S_X10_raise_0 _ _ _ ?_)
        simp +decide (disch := omega) only [↓EQA, CEA, LIA, NIA, Nat.lt_irrefl, Option.toList_some, Option.toList_none, List.cons_append, List.nil_append, true_and, and_true, Nat.reduceAdd, Nat.reduceLeDiff, not_true_eq_false, not_false_eq_true, if_true, if_false, ite_true, ite_false, Int32.reduceLT, ite_not, eq_self, or_true, true_or, ite_self, reduceIte, B_X10_raise_0]
        refine t_isTold c1 hZ ?_
        rw [show bI (1 ≤ nH T) = 1 from if_pos g0]
        simp +decide (disch := omega) only [↓EQA, CEA, LIA, NIA, Nat.lt_irrefl, Option.toList_some, Option.toList_none, List.cons_append, List.nil_append, true_and, and_true, Nat.reduceAdd, Nat.reduceLeDiff, not_true_eq_false, not_false_eq_true, if_true, if_false, ite_true, ite_false, Int32.reduceLT, ite_not, eq_self, or_true, true_or, ite_self, reduceIte]
        refine t_isWithin ?_
        rw [show bI (¬ nI v < 1 ∧ ¬ 20 < nI v) = 1 from if_pos g1]
        simp +decide (disch := omega) only [↓EQA, CEA, LIA, NIA, Nat.lt_irrefl, Option.toList_some, Option.toList_none, List.cons_append, List.nil_append, true_and, and_true, Nat.reduceAdd, Nat.reduceLeDiff, not_true_eq_false, not_false_eq_true, if_true, if_false, ite_true, ite_false, Int32.reduceLT, ite_not, eq_self, or_true, true_or, ite_self, reduceIte, r7, q]
        refine t_keepG hn i3 (fun i hi => (hA i hi).2.1) c2 hD fun wk hak ka1 ka5 => ?_
        have hCk : RC wk 16 17 (RS D) := c2.ag hak (fun i z => by omega) (fun i z => by omega)
        simp +decide (disch := omega) only [↓EQA, CEA, LIA, NIA, Nat.lt_irrefl, Option.toList_some, Option.toList_none, List.cons_append, List.nil_append, true_and, and_true, Nat.reduceAdd, Nat.reduceLeDiff, not_true_eq_false, not_false_eq_true, if_true, if_false, ite_true, ite_false, Int32.reduceLT, ite_not, eq_self, or_true, true_or, ite_self, reduceIte]
        obtain ⟨wc, hwc⟩ : ∃ wc, wc = wI wk 16 2 (nI v) := ⟨_, rfl⟩
        rw [← hwc]
        have hac : Ag (fun j _ => j = 16) wk wc := by rw [hwc]; exact Ag.rf.wI rfl
        have hCc : RC wc 16 17 (RS (updD D 7 v)) := by rw [hwc]; exact RC.nwat hCk
        refine t_done ?_
        rw [show bI ((0 : Int32) = 0) = 1 by decide]
        have h1 : Ag (fun j i => (j = 0 ∧ i = 13) ∨ j = 16 ∨ j = 17 ∨ j = 57 ∨ (j = 56 ∧ i = 3)) w (wI wc 0 13 0) := ((hak.wk fun j i z => by omega).tr (hac.wk fun j i z => by omega)).wI (Or.inl ⟨rfl, rfl⟩)
        have ht1 : (wI wc 0 13 0).1 0 13 = 0 := by simp [wI]
        have hC1 : RC (wI wc 0 13 0) 16 17 (RS (updD D 7 v)) := hCc
        have a1 : (wI wc 0 13 0).1 56 3 = nI (nxN n) := by rw [wI_ne (by decide), (hac 56 3 (by omega)).1]; exact ka1
        have a5 : ∀ i, i < nxN n → (wI wc 0 13 0).2 57 i = lN (pkN (RS (nxA n A D i))) := fun i hi => by show wc.2 57 i = _; rw [(hac 57 i (by omega)).2]; exact ka5 i hi
        simp +decide (disch := omega) only [↓EQA, CEA, LIA, NIA, Nat.lt_irrefl, Option.toList_some, Option.toList_none, List.cons_append, List.nil_append, true_and, and_true, Nat.reduceAdd, Nat.reduceLeDiff, not_true_eq_false, not_false_eq_true, if_true, if_false, ite_true, ite_false, Int32.reduceLT, ite_not, eq_self, or_true, true_or, ite_self, reduceIte]
        generalize wI wc 0 13 0 = w1 at h1 ht1 hC1 a1 a5 ⊢
        refine hQ 1 w1 fun K hK => ?_
        have hM1 : IMd w1 T D F := hM0.ag h1 (fun i z => by omega) (fun i z => by omega) (by omega) (by rw [(h1 59 22 (by omega)).1]; exact hM0.2.2.2.1)
        refine Cl_of k_X11_raise.1 (Nat.le_of_ble_eq_true rfl) (show Wp m_X11_raise _ 0 _ 0 [.ref 59, .int (nI v), .null] [] _ from S_X11_raise_0 _ _ _ ?_)
        simp +decide (disch := omega) only [↓EQA, CEA, LIA, NIA, Nat.lt_irrefl, Option.toList_some, Option.toList_none, List.cons_append, List.nil_append, true_and, and_true, Nat.reduceAdd, Nat.reduceLeDiff, not_true_eq_false, not_false_eq_true, if_true, if_false, ite_true, ite_false, Int32.reduceLT, ite_not, eq_self, or_true, true_or, ite_self, reduceIte, B_X11_raise_0]
        refine u_goodH hM1 fun wg hMg hg h11 => ?_
        simp +decide (disch := omega) only [↓EQA, CEA, LIA, NIA, Nat.lt_irrefl, Option.toList_some, Option.toList_none, List.cons_append, List.nil_append, true_and, and_true, Nat.reduceAdd, Nat.reduceLeDiff, not_true_eq_false, not_false_eq_true, if_true, if_false, ite_true, ite_false, Int32.reduceLT, ite_not, eq_self, or_true, true_or, ite_self, reduceIte, e14 hMg g0]
        refine u_in ?_
        simp +decide (disch := omega) only [↓EQA, CEA, LIA, NIA, Nat.lt_irrefl, Option.toList_some, Option.toList_none, List.cons_append, List.nil_append, true_and, and_true, Nat.reduceAdd, Nat.reduceLeDiff, not_true_eq_false, not_false_eq_true, if_true, if_false, ite_true, ite_false, Int32.reduceLT, ite_not, eq_self, or_true, true_or, ite_self, reduceIte]
        refine u_why1 ?_
        rw [if_pos (show ¬ v < 1 ∧ ¬ 20 < v by omega)]
        simp +decide (disch := omega) only [↓EQA, CEA, LIA, NIA, Nat.lt_irrefl, Option.toList_some, Option.toList_none, List.cons_append, List.nil_append, true_and, and_true, Nat.reduceAdd, Nat.reduceLeDiff, not_true_eq_false, not_false_eq_true, if_true, if_false, ite_true, ite_false, Int32.reduceLT, ite_not, eq_self, or_true, true_or, ite_self, reduceIte]
        have e64 := hMg.2.2.1 7 (by decide)
        simp +decide (disch := omega) only [↓EQA, CEA, LIA, NIA, Nat.lt_irrefl, Option.toList_some, Option.toList_none, List.cons_append, List.nil_append, true_and, and_true, Nat.reduceAdd, Nat.reduceLeDiff, not_true_eq_false, not_false_eq_true, if_true, if_false, ite_true, ite_false, Int32.reduceLT, ite_not, eq_self, or_true, true_or, ite_self, reduceIte, e64, q]
        refine u_noteG (A := A) hn (by rw [(hg 59 20 (by omega)).1, (h1 59 20 (by omega)).1]; exact i20) (fun i hi q hq => by rw [(hg 65 _ (by omega)).1, (h1 65 _ (by omega)).1]; exact (hA i hi).2.2 q hq) hMg.2.2.1 fun w2 h2 a3 a6 => ?_
        have hR2 : MR w2 64 D := hMg.2.2.1.ag h2 (fun i z => by omega)
        have hIN : INV (wI w2 64 7 (nI (v))) := hI.act (tr := 0) hH (by omega) hD9 hn hm hA hB i4 i21 h1 ht1 hC1 a1 a5 hg h11 h2 a3 a6
        simp +decide (disch := omega) only [↓EQA, CEA, LIA, NIA, Nat.lt_irrefl, Option.toList_some, Option.toList_none, List.cons_append, List.nil_append, true_and, and_true, Nat.reduceAdd, Nat.reduceLeDiff, not_true_eq_false, not_false_eq_true, if_true, if_false, ite_true, ite_false, Int32.reduceLT, ite_not, eq_self, or_true, true_or, ite_self, reduceIte]
        exact hK _ hIN
    · refine askI (v := 0) (tr := 2) hI (by decide) (fun Q hQ => ?_) (fun w1 K hM hK => ?_)
      · refine Cl_of k_X10_raise.1 (Nat.le_of_ble_eq_true rfl) (show Wp m_X10_raise _ 0 _ 0 [.ref 0, .int x] [] _ from S_X10_raise_0 _ _ _ ?_)
        simp +decide (disch := omega) only [↓EQA, CEA, LIA, NIA, Nat.lt_irrefl, Option.toList_some, Option.toList_none, List.cons_append, List.nil_append, true_and, and_true, Nat.reduceAdd, Nat.reduceLeDiff, not_true_eq_false, not_false_eq_true, if_true, if_false, ite_true, ite_false, Int32.reduceLT, ite_not, eq_self, or_true, true_or, ite_self, reduceIte, B_X10_raise_0]
        refine t_isTold c1 hZ ?_
        rw [show bI (1 ≤ nH T) = 1 from if_pos g0]
        simp +decide (disch := omega) only [↓EQA, CEA, LIA, NIA, Nat.lt_irrefl, Option.toList_some, Option.toList_none, List.cons_append, List.nil_append, true_and, and_true, Nat.reduceAdd, Nat.reduceLeDiff, not_true_eq_false, not_false_eq_true, if_true, if_false, ite_true, ite_false, Int32.reduceLT, ite_not, eq_self, or_true, true_or, ite_self, reduceIte]
        refine t_isWithin ?_
        rw [show bI (¬ x < 1 ∧ ¬ 20 < x) = 0 from if_neg g1]
        simp +decide (disch := omega) only [↓EQA, CEA, LIA, NIA, Nat.lt_irrefl, Option.toList_some, Option.toList_none, List.cons_append, List.nil_append, true_and, and_true, Nat.reduceAdd, Nat.reduceLeDiff, not_true_eq_false, not_false_eq_true, if_true, if_false, ite_true, ite_false, Int32.reduceLT, ite_not, eq_self, or_true, true_or, ite_self, reduceIte]
        refine t_doneG Ag.rf c3 fun w9 h9 => ?_
        rw [show bI ((2 : Int32) = 0) = 0 by decide]
        simp +decide (disch := omega) only [↓EQA, CEA, LIA, NIA, Nat.lt_irrefl, Option.toList_some, Option.toList_none, List.cons_append, List.nil_append, true_and, and_true, Nat.reduceAdd, Nat.reduceLeDiff, not_true_eq_false, not_false_eq_true, if_true, if_false, ite_true, ite_false, Int32.reduceLT, ite_not, eq_self, or_true, true_or, ite_self, reduceIte, mrg]
        exact hQ _ h9
      · refine Cl_of k_X11_raise.1 (Nat.le_of_ble_eq_true rfl) (show Wp m_X11_raise _ 0 _ 0 [.ref 59, .int x, .null] [] _ from S_X11_raise_0 _ _ _ ?_)
        simp +decide (disch := omega) only [↓EQA, CEA, LIA, NIA, Nat.lt_irrefl, Option.toList_some, Option.toList_none, List.cons_append, List.nil_append, true_and, and_true, Nat.reduceAdd, Nat.reduceLeDiff, not_true_eq_false, not_false_eq_true, if_true, if_false, ite_true, ite_false, Int32.reduceLT, ite_not, eq_self, or_true, true_or, ite_self, reduceIte, B_X11_raise_0]
        refine u_goodG hM fun wg hMg hA h11 => ?_
        simp +decide (disch := omega) only [↓EQA, CEA, LIA, NIA, Nat.lt_irrefl, Option.toList_some, Option.toList_none, List.cons_append, List.nil_append, true_and, and_true, Nat.reduceAdd, Nat.reduceLeDiff, not_true_eq_false, not_false_eq_true, if_true, if_false, ite_true, ite_false, Int32.reduceLT, ite_not, eq_self, or_true, true_or, ite_self, reduceIte, e14 hMg g0]
        refine u_in ?_
        simp +decide (disch := omega) only [↓EQA, CEA, LIA, NIA, Nat.lt_irrefl, Option.toList_some, Option.toList_none, List.cons_append, List.nil_append, true_and, and_true, Nat.reduceAdd, Nat.reduceLeDiff, not_true_eq_false, not_false_eq_true, if_true, if_false, ite_true, ite_false, Int32.reduceLT, ite_not, eq_self, or_true, true_or, ite_self, reduceIte]
        refine u_why1 ?_
        rw [if_neg g1]
        simp +decide (disch := omega) only [↓EQA, CEA, LIA, NIA, Nat.lt_irrefl, Option.toList_some, Option.toList_none, List.cons_append, List.nil_append, true_and, and_true, Nat.reduceAdd, Nat.reduceLeDiff, not_true_eq_false, not_false_eq_true, if_true, if_false, ite_true, ite_false, Int32.reduceLT, ite_not, eq_self, or_true, true_or, ite_self, reduceIte]
        refine u_isNotG hMg hA fun w9 h9 => ?_
        simp +decide (disch := omega) only [↓EQA, CEA, LIA, NIA, Nat.lt_irrefl, Option.toList_some, Option.toList_none, List.cons_append, List.nil_append, true_and, and_true, Nat.reduceAdd, Nat.reduceLeDiff, not_true_eq_false, not_false_eq_true, if_true, if_false, ite_true, ite_false, Int32.reduceLT, ite_not, eq_self, or_true, true_or, ite_self, reduceIte, mrg]
        exact hK _ h9
  · refine askI (v := 0) (tr := 1) hI (by decide) (fun Q hQ => ?_) (fun w1 K hM hK => ?_)
    · refine Cl_of k_X10_raise.1 (Nat.le_of_ble_eq_true rfl) (show Wp m_X10_raise _ 0 _ 0 [.ref 0, .int x] [] _ from S_X10_raise_0 _ _ _ ?_)
      simp +decide (disch := omega) only [↓EQA, CEA, LIA, NIA, Nat.lt_irrefl, Option.toList_some, Option.toList_none, List.cons_append, List.nil_append, true_and, and_true, Nat.reduceAdd, Nat.reduceLeDiff, not_true_eq_false, not_false_eq_true, if_true, if_false, ite_true, ite_false, Int32.reduceLT, ite_not, eq_self, or_true, true_or, ite_self, reduceIte, B_X10_raise_0]
      refine t_isTold c1 hZ ?_
      rw [show bI (1 ≤ nH T) = 0 from if_neg g0]
      simp +decide (disch := omega) only [↓EQA, CEA, LIA, NIA, Nat.lt_irrefl, Option.toList_some, Option.toList_none, List.cons_append, List.nil_append, true_and, and_true, Nat.reduceAdd, Nat.reduceLeDiff, not_true_eq_false, not_false_eq_true, if_true, if_false, ite_true, ite_false, Int32.reduceLT, ite_not, eq_self, or_true, true_or, ite_self, reduceIte]
      refine t_doneG Ag.rf c3 fun w9 h9 => ?_
      rw [show bI ((1 : Int32) = 0) = 0 by decide]
      simp +decide (disch := omega) only [↓EQA, CEA, LIA, NIA, Nat.lt_irrefl, Option.toList_some, Option.toList_none, List.cons_append, List.nil_append, true_and, and_true, Nat.reduceAdd, Nat.reduceLeDiff, not_true_eq_false, not_false_eq_true, if_true, if_false, ite_true, ite_false, Int32.reduceLT, ite_not, eq_self, or_true, true_or, ite_self, reduceIte, mrg]
      exact hQ _ h9
    · refine Cl_of k_X11_raise.1 (Nat.le_of_ble_eq_true rfl) (show Wp m_X11_raise _ 0 _ 0 [.ref 59, .int x, .null] [] _ from S_X11_raise_0 _ _ _ ?_)
      simp +decide (disch := omega) only [↓EQA, CEA, LIA, NIA, Nat.lt_irrefl, Option.toList_some, Option.toList_none, List.cons_append, List.nil_append, true_and, and_true, Nat.reduceAdd, Nat.reduceLeDiff, not_true_eq_false, not_false_eq_true, if_true, if_false, ite_true, ite_false, Int32.reduceLT, ite_not, eq_self, or_true, true_or, ite_self, reduceIte, B_X11_raise_0]
      refine u_goodG hM fun wg hMg hA h11 => ?_
      simp +decide (disch := omega) only [↓EQA, CEA, LIA, NIA, Nat.lt_irrefl, Option.toList_some, Option.toList_none, List.cons_append, List.nil_append, true_and, and_true, Nat.reduceAdd, Nat.reduceLeDiff, not_true_eq_false, not_false_eq_true, if_true, if_false, ite_true, ite_false, Int32.reduceLT, ite_not, eq_self, or_true, true_or, ite_self, reduceIte, e14n hMg g0]
      refine u_in ?_
      simp +decide (disch := omega) only [↓EQA, CEA, LIA, NIA, Nat.lt_irrefl, Option.toList_some, Option.toList_none, List.cons_append, List.nil_append, true_and, and_true, Nat.reduceAdd, Nat.reduceLeDiff, not_true_eq_false, not_false_eq_true, if_true, if_false, ite_true, ite_false, Int32.reduceLT, ite_not, eq_self, or_true, true_or, ite_self, reduceIte]
      refine u_why0 ?_
      simp +decide (disch := omega) only [↓EQA, CEA, LIA, NIA, Nat.lt_irrefl, Option.toList_some, Option.toList_none, List.cons_append, List.nil_append, true_and, and_true, Nat.reduceAdd, Nat.reduceLeDiff, not_true_eq_false, not_false_eq_true, if_true, if_false, ite_true, ite_false, Int32.reduceLT, ite_not, eq_self, or_true, true_or, ite_self, reduceIte]
      refine u_isNotG hMg hA fun w9 h9 => ?_
      simp +decide (disch := omega) only [↓EQA, CEA, LIA, NIA, Nat.lt_irrefl, Option.toList_some, Option.toList_none, List.cons_append, List.nil_append, true_and, and_true, Nat.reduceAdd, Nat.reduceLeDiff, not_true_eq_false, not_false_eq_true, if_true, if_false, ite_true, ite_false, Int32.reduceLT, ite_not, eq_self, or_true, true_or, ite_self, reduceIte, mrg]
      exact hK _ h9
end Acts2
