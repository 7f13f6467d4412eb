/-! ===== the public calls, in pairs ===== -/
theorem RS_lan {D : Nat → Nat} {v : Nat} : RS (updD D 5 v) = (cw D, D 7, 0, D 6, v) := by
  have e : cw (updD D 5 v) = cw D := funext fun h => cw_congr fun l hl => by unfold updD; rw [if_neg (by omega)]
  show (cw (updD D 5 v), updD D 5 v 7, 0, updD D 5 v 6, updD D 5 v 5) = _
  rw [e]
  rfl
theorem lan_ok {D : Nat → Nat} {v : Nat} (hD : DOK D) (hv : v < 16) : DOK (updD D 5 v) := ⟨fun l hl => by unfold updD; rw [if_neg (by omega)]; exact hD.1 l hl, hv, hD.2.2.1, hD.2.2.2⟩
theorem updD_2 {D : Nat → Nat} {l a b : Nat} : updD (updD D l a) l b = updD D l b := by
  funext i
  unfold updD
  split <;> rfl
theorem RC.lane {w : Mem} {E : Nat → Nat} {v : Nat} (h : RC w 18 19 (RS E)) : RC (wI w 18 5 (nI v)) 18 19 (RS (updD E 5 v)) := by
  rw [RS_lan]
  obtain ⟨a1, a2, a3, a4, a5⟩ := h
  have r : ∀ i, i ≠ 5 → (wI w 18 5 (nI v)).1 18 i = w.1 18 i := fun i hi => by rw [wI_get, if_neg (fun z => hi z.2)]
  exact ⟨fun a b => by rw [wI_ne (by decide)]; exact a1 a b, by rw [r 2 (by decide)]; exact a2, by rw [r 3 (by decide)]; exact a3, by rw [r 4 (by decide)]; exact a4, by simp [wI]⟩
theorem mv_toC {T : Tv} {D F : Nat → Nat} {k l : Nat} (hU : PU T D F) (hk : k < nH T) (hl : l < nL T) : TO T (VC (RS (updD D l (if D l = k + 1 then 0 else k + 1)))) k = toC T (RS D) k (cw D k ^^^ 2 ^ l) := by
  have hz := hU.1.2
  have hl5 : l < 5 := by omega
  have ec : cw (updD D l (if D l = k + 1 then 0 else k + 1)) k = cw D k ^^^ 2 ^ l := by
    refine eq_bits (cw_lt _ _) (Nat.xor_lt_two_pow (n := 5) (cw_lt _ _) (Nat.pow_lt_pow_right (by decide) hl5)) fun i hi => ?_
    rw [cw_bit _ _ hi, Nat.testBit_xor, cw_bit _ _ hi, Nat.testBit_two_pow]
    unfold updD
    by_cases e : i = l
    · subst e
      rw [if_pos rfl]
      by_cases q : D i = k + 1 <;> simp [q]
    · rw [if_neg e]
      have : ¬ l = i := fun z => e z.symm
      simp [this]
  rw [toC_eq]
  show toC T (RS (updD D l _)) k (cw (updD D l _) k) = _
  rw [ec]
  have e2 : (RS (updD D l (if D l = k + 1 then 0 else k + 1))).2 = (RS D).2 := by
    show (updD D l _ 7, 0, updD D l _ 6, updD D l _ 5) = (D 7, 0, D 6, D 5)
    unfold updD
    rw [if_neg (by omega), if_neg (by omega), if_neg (by omega)]
  unfold toC
  rw [e2]
section Pub
variable {d : Nat} {w : Mem} {T : Tv} {D F : Nat → Nat}
theorem p_toMove {x : Int32} (hI : IV w T D F) : PRI (d + 20) m_X10_toMove m_X11_toMove [.ref 0, .int x] [.ref 59, .int x] w := by
  obtain ⟨hZ, hP, ⟨c1, c2, c3⟩, -⟩ := id hI
  have hz := hZ.2
  by_cases g0 : inR x (nH T)
  · obtain ⟨k, hk, rfl⟩ := inR_k g0 (by omega)
    have hH : 1 ≤ nH T := by omega
    have hU := hP.pu hH
    obtain ⟨-, hO, hD, hDH, h0, h7, hFr⟩ := id hU
    refine askI (v := (fld (omS T (RS D) k) (nL T) (-2, TO T (VC (RS D)) k)).1) (tr := 0) hI (by decide) (fun Q hQ => ?_) (fun w1 K hM hK => ?_)
    · refine Cl_of k_X10_toMove.1 (Nat.le_of_ble_eq_true rfl) (show Wp m_X10_toMove _ 0 _ 0 [.ref 0, .int (nI k)] [] _ from S_X10_toMove_0 _ _ _ ?_)
      simp +decide (disch := omega) only [↓EQA, CEA, LIA, NIA, Nat.lt_irrefl, Option.toList_some, Option.toList_none, List.cons_append, List.nil_append, true_and, and_true, Nat.reduceAdd, Nat.reduceLeDiff, not_true_eq_false, not_false_eq_true, if_true, if_false, ite_true, ite_false, Int32.reduceLT, ite_not, eq_self, or_true, true_or, ite_self, reduceIte, B_X10_toMove_0, B_X10_toMove_J1]
      refine t_isHouse c1 hZ ?_
      rw [show bI (inR _ (nH T)) = 1 from if_pos g0]
      simp +decide (disch := omega) only [↓EQA, CEA, LIA, NIA, Nat.lt_irrefl, Option.toList_some, Option.toList_none, List.cons_append, List.nil_append, true_and, and_true, Nat.reduceAdd, Nat.reduceLeDiff, not_true_eq_false, not_false_eq_true, if_true, if_false, ite_true, ite_false, Int32.reduceLT, ite_not, eq_self, or_true, true_or, ite_self, reduceIte, B_X10_toMove_J1]
      refine t_oneToMove c1 hZ c2 hD.rok (by omega) fun w2 ha2 => ?_
      simp +decide (disch := omega) only [↓EQA, CEA, LIA, NIA, Nat.lt_irrefl, Option.toList_some, Option.toList_none, List.cons_append, List.nil_append, true_and, and_true, Nat.reduceAdd, Nat.reduceLeDiff, not_true_eq_false, not_false_eq_true, if_true, if_false, ite_true, ite_false, Int32.reduceLT, ite_not, eq_self, or_true, true_or, ite_self, reduceIte]
      refine t_grantedG ((ha2.wk fun j i z => by omega)) ((CCHq c3 ha2 (fun i z => by omega) (fun i z => by omega))) fun w9 h9 => ?_
      simp +decide (disch := omega) only [↓EQA, CEA, LIA, NIA, Nat.lt_irrefl, Option.toList_some, Option.toList_none, List.cons_append, List.nil_append, true_and, and_true, Nat.reduceAdd, Nat.reduceLeDiff, not_true_eq_false, not_false_eq_true, if_true, if_false, ite_true, ite_false, Int32.reduceLT, ite_not, eq_self, or_true, true_or, ite_self, reduceIte, B_X10_toMove_J1]
      exact hQ _ h9
    · refine Cl_of k_X11_toMove.1 (Nat.le_of_ble_eq_true rfl) (show Wp m_X11_toMove _ 0 _ 0 [.ref 59, .int (nI k), .null, .null, .null, .null] [] _ from S_X11_toMove_0 _ _ _ ?_)
      simp +decide (disch := omega) only [↓EQA, CEA, LIA, NIA, Nat.lt_irrefl, Option.toList_some, Option.toList_none, List.cons_append, List.nil_append, true_and, and_true, Nat.reduceAdd, Nat.reduceLeDiff, not_true_eq_false, not_false_eq_true, if_true, if_false, ite_true, ite_false, Int32.reduceLT, ite_not, eq_self, or_true, true_or, ite_self, reduceIte, B_X11_toMove_0]
      refine u_goodG hM fun wg hMg hA h11 => ?_
      simp +decide (disch := omega) only [↓EQA, CEA, LIA, NIA, Nat.lt_irrefl, Option.toList_some, Option.toList_none, List.cons_append, List.nil_append, true_and, and_true, Nat.reduceAdd, Nat.reduceLeDiff, not_true_eq_false, not_false_eq_true, if_true, if_false, ite_true, ite_false, Int32.reduceLT, ite_not, eq_self, or_true, true_or, ite_self, reduceIte]
      refine u_dryG hMg hA h11 fun wg hMg hA h11 => ?_
      simp +decide (disch := omega) only [↓EQA, CEA, LIA, NIA, Nat.lt_irrefl, Option.toList_some, Option.toList_none, List.cons_append, List.nil_append, true_and, and_true, Nat.reduceAdd, Nat.reduceLeDiff, not_true_eq_false, not_false_eq_true, if_true, if_false, ite_true, ite_false, Int32.reduceLT, ite_not, eq_self, or_true, true_or, ite_self, reduceIte]
      refine u_isHouse hMg hZ hP ?_
      rw [show bI (inR _ (nH T)) = 1 from if_pos g0]
      simp +decide (disch := omega) only [↓EQA, CEA, LIA, NIA, Nat.lt_irrefl, Option.toList_some, Option.toList_none, List.cons_append, List.nil_append, true_and, and_true, Nat.reduceAdd, Nat.reduceLeDiff, not_true_eq_false, not_false_eq_true, if_true, if_false, ite_true, ite_false, Int32.reduceLT, ite_not, eq_self, or_true, true_or, ite_self, reduceIte, B_X11_toMove_J1, B_X11_toMove_J2, B_X11_toMove_J3, B_X11_toMove_J4]
      refine u_totalOf hMg.1 hZ hO (RM64 hU hMg) rfl (POS0 hU) hk ?_
      simp +decide (disch := omega) only [↓EQA, CEA, LIA, NIA, Nat.lt_irrefl, Option.toList_some, Option.toList_none, List.cons_append, List.nil_append, true_and, and_true, Nat.reduceAdd, Nat.reduceLeDiff, not_true_eq_false, not_false_eq_true, if_true, if_false, ite_true, ite_false, Int32.reduceLT, ite_not, eq_self, or_true, true_or, ite_self, reduceIte]
      suffices key : ∀ w2 (v : Value), Ag (fun j _ => j = 69) wg w2 → Wp m_X11_toMove (d + 19) 0 K 38 [.ref 59, .int (nI k), .int (-2, TO T (VC (RS D)) k).1, .int (-2, TO T (VC (RS D)) k).2, .int (nI 0), v] [] w2 from key wg .null Ag.rf
      refine fld_loop (f := omS T (RS D) k) (n := nL T) (a := (-2, TO T (VC (RS D)) k)) (fun l a => ∀ w2 (v : Value), Ag (fun j _ => j = 69) wg w2 → Wp m_X11_toMove (d + 19) 0 K 38 [.ref 59, .int (nI k), .int a.1, .int a.2, .int (nI l), v] [] w2) (fun l hl hd w2 v ha => ?_) (fun w2 v ha => ?_)
      · generalize fld (omS T (RS D) k) l (-2, TO T (VC (RS D)) k) = a at hd ⊢
        have hl5 : l < 5 := by omega
        have hl8 : l < 8 := by omega
        have hdl := hD.1 l hl5
        have hM2 := hMg.ag ha (fun i z => by omega) (fun i z => by omega) (by omega) (by rw [(ha 59 22 (by omega)).1]; exact hMg.2.2.2.1)
        have ebit : (cw D k).testBit l = decide (D l = k + 1) := cw_bit D k hl5
        -- the move is tried
        have try1 : ∀ (p : Nat) (y : Int32) (b : Bool), b = decide (D l = k + 1) → p = (if D l = k + 1 then 0 else k + 1) → ((cw D k).testBit l = true ∨ nI (pc5 (cw D k)) < T 5 k) → B_X11_toMove_J2 (d + 19) 0 K [.ref 59, .int (nI k), .int a.1, .int a.2, .int (nI l), .int (bI (b = true))] [] w2 := by
          intro p y b hb hp hor
          have eE := mv_toC (T := T) hU hk hl
          rw [← hp] at eE
          have hp4 : p ≤ 4 := by rw [hp]; split <;> omega
          have fin : ∀ w3, Ag (fun j _ => j = 69) w2 w3 → MR w3 69 D → B_X11_toMove_J3 (d + 19) 0 K [.ref 59, .int (nI k), .int a.1, .int a.2, .int (nI l), .int (bI (b = true))] [.int (nI p), .int (nI l), .ref 69] w3 := by
            intro w3 ha3 hE3
            have hb4 : Ag (fun j _ => j = 69) wg (wI w3 69 l (nI p)) := (ha.tr ha3).wI rfl
            have hE4 : MR (wI w3 69 l (nI p)) 69 (updD D l p) := hE3.upd rfl
            have hok : DOK (updD D l p) := updD_ok hD hl5 hp4
            have h77 : 1 ≤ updD D l p 7 := by unfold updD; rw [if_neg (by omega)]; exact h7
            have hM4 := hMg.1.ag hb4 (fun i z => by omega)
            have hd4 : (wI w3 69 l (nI p)).1 59 22 = 0 := by rw [(hb4 59 22 (by omega)).1]; exact hMg.2.2.2.1
            have hd2 := hd _ (.int (bI (b = true))) hb4
            unfold omS at hd2
            rw [if_pos (show ((RS D).1 k).testBit l = true ∨ nI (pc5 ((RS D).1 k)) < T 5 k from hor)] at hd2
            simp +decide (disch := omega) only [↓EQA, CEA, LIA, NIA, Nat.lt_irrefl, Option.toList_some, Option.toList_none, List.cons_append, List.nil_append, true_and, and_true, Nat.reduceAdd, Nat.reduceLeDiff, not_true_eq_false, not_false_eq_true, if_true, if_false, ite_true, ite_false, Int32.reduceLT, ite_not, eq_self, or_true, true_or, ite_self, reduceIte, B_X11_toMove_J3, hl8]
            refine u_tot69 hZ hO hM4 hE4 hok h77 hd4 hk ?_
            rw [eE]
            have er : (RS D).1 k = cw D k := rfl
            rw [er] at hd2
            simp +decide (disch := omega) only [↓EQA, CEA, LIA, NIA, Nat.lt_irrefl, Option.toList_some, Option.toList_none, List.cons_append, List.nil_append, true_and, and_true, Nat.reduceAdd, Nat.reduceLeDiff, not_true_eq_false, not_false_eq_true, if_true, if_false, ite_true, ite_false, Int32.reduceLT, ite_not, eq_self, or_true, true_or, ite_self, reduceIte, B_X11_toMove_J1, B_X11_toMove_J2, B_X11_toMove_J3, B_X11_toMove_J4]
            by_cases q : toC T (RS D) k (cw D k ^^^ 2 ^ l) < a.2
            · rw [if_pos q] at hd2 ⊢
              refine u_tot69 hZ hO hM4 hE4 hok h77 hd4 hk ?_
              rw [eE]
              simp +decide (disch := omega) only [↓EQA, CEA, LIA, NIA, Nat.lt_irrefl, Option.toList_some, Option.toList_none, List.cons_append, List.nil_append, true_and, and_true, Nat.reduceAdd, Nat.reduceLeDiff, not_true_eq_false, not_false_eq_true, if_true, if_false, ite_true, ite_false, Int32.reduceLT, ite_not, eq_self, or_true, true_or, ite_self, reduceIte, B_X11_toMove_J1, B_X11_toMove_J2, B_X11_toMove_J3, B_X11_toMove_J4]
              exact hd2
            · rw [if_neg q] at hd2 ⊢
              exact hd2
          simp +decide (disch := omega) only [↓EQA, CEA, LIA, NIA, Nat.lt_irrefl, Option.toList_some, Option.toList_none, List.cons_append, List.nil_append, true_and, and_true, Nat.reduceAdd, Nat.reduceLeDiff, not_true_eq_false, not_false_eq_true, if_true, if_false, ite_true, ite_false, Int32.reduceLT, ite_not, eq_self, or_true, true_or, ite_self, reduceIte, B_X11_toMove_J2]
          refine u_copyST hM2.2.2.1 fun w3 ha3 hE3 => ?_
          have f3 := fin w3 ha3 hE3
          by_cases q : D l = k + 1
          · rw [if_pos q] at hp
            rw [hb, show decide (D l = k + 1) = true from decide_eq_true q] at f3 ⊢
            rw [hp] at f3
            simp +decide (disch := omega) only [↓EQA, CEA, LIA, NIA, Nat.lt_irrefl, Option.toList_some, Option.toList_none, List.cons_append, List.nil_append, true_and, and_true, Nat.reduceAdd, Nat.reduceLeDiff, not_true_eq_false, not_false_eq_true, if_true, if_false, ite_true, ite_false, Int32.reduceLT, ite_not, eq_self, or_true, true_or, ite_self, reduceIte]
            exact f3
          · rw [if_neg q] at hp
            rw [hb, show decide (D l = k + 1) = false from decide_eq_false q] at f3 ⊢
            rw [hp] at f3
            simp +decide (disch := omega) only [↓EQA, CEA, LIA, NIA, Nat.lt_irrefl, Option.toList_some, Option.toList_none, List.cons_append, List.nil_append, true_and, and_true, Nat.reduceAdd, Nat.reduceLeDiff, not_true_eq_false, not_false_eq_true, if_true, if_false, ite_true, ite_false, Int32.reduceLT, ite_not, eq_self, or_true, true_or, ite_self, reduceIte, nI_1]
            exact f3
        refine S_X11_toMove_L1 _ _ _ ?_
        simp +decide (disch := omega) only [↓EQA, CEA, LIA, NIA, Nat.lt_irrefl, Option.toList_some, Option.toList_none, List.cons_append, List.nil_append, true_and, and_true, Nat.reduceAdd, Nat.reduceLeDiff, not_true_eq_false, not_false_eq_true, if_true, if_false, ite_true, ite_false, Int32.reduceLT, ite_not, eq_self, or_true, true_or, ite_self, reduceIte, B_X11_toMove_L1, hM2.1.1, hZ.1, hl, hl8, hM2.2.2.1 l hl8, nI_1]
        by_cases q : D l = k + 1
        · rw [if_pos q]
          have t1 := try1 0 0 true (by simp [q]) (by rw [if_pos q]) (Or.inl (by rw [ebit]; simp [q]))
          simp +decide (disch := omega) only [↓EQA, CEA, LIA, NIA, Nat.lt_irrefl, Option.toList_some, Option.toList_none, List.cons_append, List.nil_append, true_and, and_true, Nat.reduceAdd, Nat.reduceLeDiff, not_true_eq_false, not_false_eq_true, if_true, if_false, ite_true, ite_false, Int32.reduceLT, ite_not, eq_self, or_true, true_or, ite_self, reduceIte, B_X11_toMove_J1]
          exact t1
        · rw [if_neg q]
          simp +decide (disch := omega) only [↓EQA, CEA, LIA, NIA, Nat.lt_irrefl, Option.toList_some, Option.toList_none, List.cons_append, List.nil_append, true_and, and_true, Nat.reduceAdd, Nat.reduceLeDiff, not_true_eq_false, not_false_eq_true, if_true, if_false, ite_true, ite_false, Int32.reduceLT, ite_not, eq_self, or_true, true_or, ite_self, reduceIte, B_X11_toMove_J1]
          refine u_aboardOf hM2.1 hZ (RM64 hU hM2) rfl (by omega) ?_
          simp +decide (disch := omega) only [↓EQA, CEA, LIA, NIA, Nat.lt_irrefl, Option.toList_some, Option.toList_none, List.cons_append, List.nil_append, true_and, and_true, Nat.reduceAdd, Nat.reduceLeDiff, not_true_eq_false, not_false_eq_true, if_true, if_false, ite_true, ite_false, Int32.reduceLT, ite_not, eq_self, or_true, true_or, ite_self, reduceIte]
          refine u_ones ?_
          simp +decide (disch := omega) only [↓EQA, CEA, LIA, NIA, Nat.lt_irrefl, Option.toList_some, Option.toList_none, List.cons_append, List.nil_append, true_and, and_true, Nat.reduceAdd, Nat.reduceLeDiff, not_true_eq_false, not_false_eq_true, if_true, if_false, ite_true, ite_false, Int32.reduceLT, ite_not, eq_self, or_true, true_or, ite_self, reduceIte]
          refine u_storeysOf hM2.1 hz.2.1 hk ?_
          rw [ones_CN hz.2.2.1, CN_pc5 hU]
          simp +decide (disch := omega) only [↓EQA, CEA, LIA, NIA, Nat.lt_irrefl, Option.toList_some, Option.toList_none, List.cons_append, List.nil_append, true_and, and_true, Nat.reduceAdd, Nat.reduceLeDiff, not_true_eq_false, not_false_eq_true, if_true, if_false, ite_true, ite_false, Int32.reduceLT, ite_not, eq_self, or_true, true_or, ite_self, reduceIte]
          by_cases q2 : nI (pc5 (cw D k)) < T 5 k
          · rw [if_pos q2]
            exact try1 (k + 1) 0 false (by simp [q]) (by rw [if_neg q]) (Or.inr q2)
          · rw [if_neg q2]
            have hd2 := hd w2 (.int 0) ha
            unfold omS at hd2
            rw [if_neg (show ¬ (((RS D).1 k).testBit l = true ∨ nI (pc5 ((RS D).1 k)) < T 5 k) from fun z => z.elim (fun y => by have y2 : (cw D k).testBit l = true := y; rw [ebit] at y2; exact q (of_decide_eq_true y2)) q2)] at hd2
            simp +decide (disch := omega) only [↓EQA, CEA, LIA, NIA, Nat.lt_irrefl, Option.toList_some, Option.toList_none, List.cons_append, List.nil_append, true_and, and_true, Nat.reduceAdd, Nat.reduceLeDiff, not_true_eq_false, not_false_eq_true, if_true, if_false, ite_true, ite_false, Int32.reduceLT, ite_not, eq_self, or_true, true_or, ite_self, reduceIte, B_X11_toMove_J1, B_X11_toMove_J2, B_X11_toMove_J3, B_X11_toMove_J4]
            exact hd2
      · have hM2 := hMg.1.ag ha (fun i z => by omega)
        refine S_X11_toMove_L1 _ _ _ ?_
        simp +decide (disch := omega) only [↓EQA, CEA, LIA, NIA, Nat.lt_irrefl, Option.toList_some, Option.toList_none, List.cons_append, List.nil_append, true_and, and_true, Nat.reduceAdd, Nat.reduceLeDiff, not_true_eq_false, not_false_eq_true, if_true, if_false, ite_true, ite_false, Int32.reduceLT, ite_not, eq_self, or_true, true_or, ite_self, reduceIte, B_X11_toMove_L1, hM2.1, hZ.1]
        exact hK _ (MAfq hA hMg h11 ha (fun j i z => by omega) (by omega) (by omega))
  · refine askI (v := -1) (tr := 1) hI (by decide) (fun Q hQ => ?_) (fun w1 K hM hK => ?_)
    · refine Cl_of k_X10_toMove.1 (Nat.le_of_ble_eq_true rfl) (show Wp m_X10_toMove _ 0 _ 0 [.ref 0, .int x] [] _ from S_X10_toMove_0 _ _ _ ?_)
      simp +decide (disch := omega) only [↓EQA, CEA, LIA, NIA, Nat.lt_irrefl, Option.toList_some, Option.toList_none, List.cons_append, List.nil_append, true_and, and_true, Nat.reduceAdd, Nat.reduceLeDiff, not_true_eq_false, not_false_eq_true, if_true, if_false, ite_true, ite_false, Int32.reduceLT, ite_not, eq_self, or_true, true_or, ite_self, reduceIte, B_X10_toMove_0, B_X10_toMove_J1]
      refine t_isHouse c1 hZ ?_
      rw [show bI (inR _ (nH T)) = 0 from if_neg g0]
      simp +decide (disch := omega) only [↓EQA, CEA, LIA, NIA, Nat.lt_irrefl, Option.toList_some, Option.toList_none, List.cons_append, List.nil_append, true_and, and_true, Nat.reduceAdd, Nat.reduceLeDiff, not_true_eq_false, not_false_eq_true, if_true, if_false, ite_true, ite_false, Int32.reduceLT, ite_not, eq_self, or_true, true_or, ite_self, reduceIte, B_X10_toMove_J1]
      refine t_refusedG Ag.rf c3 fun w9 h9 => ?_
      simp +decide (disch := omega) only [↓EQA, CEA, LIA, NIA, Nat.lt_irrefl, Option.toList_some, Option.toList_none, List.cons_append, List.nil_append, true_and, and_true, Nat.reduceAdd, Nat.reduceLeDiff, not_true_eq_false, not_false_eq_true, if_true, if_false, ite_true, ite_false, Int32.reduceLT, ite_not, eq_self, or_true, true_or, ite_self, reduceIte, B_X10_toMove_J1]
      exact hQ _ h9
    · refine Cl_of k_X11_toMove.1 (Nat.le_of_ble_eq_true rfl) (show Wp m_X11_toMove _ 0 _ 0 [.ref 59, .int x, .null, .null, .null, .null] [] _ from S_X11_toMove_0 _ _ _ ?_)
      simp +decide (disch := omega) only [↓EQA, CEA, LIA, NIA, Nat.lt_irrefl, Option.toList_some, Option.toList_none, List.cons_append, List.nil_append, true_and, and_true, Nat.reduceAdd, Nat.reduceLeDiff, not_true_eq_false, not_false_eq_true, if_true, if_false, ite_true, ite_false, Int32.reduceLT, ite_not, eq_self, or_true, true_or, ite_self, reduceIte, B_X11_toMove_0]
      refine u_goodG hM fun wg hMg hA h11 => ?_
      simp +decide (disch := omega) only [↓EQA, CEA, LIA, NIA, Nat.lt_irrefl, Option.toList_some, Option.toList_none, List.cons_append, List.nil_append, true_and, and_true, Nat.reduceAdd, Nat.reduceLeDiff, not_true_eq_false, not_false_eq_true, if_true, if_false, ite_true, ite_false, Int32.reduceLT, ite_not, eq_self, or_true, true_or, ite_self, reduceIte]
      refine u_dryG hMg hA h11 fun wg hMg hA h11 => ?_
      simp +decide (disch := omega) only [↓EQA, CEA, LIA, NIA, Nat.lt_irrefl, Option.toList_some, Option.toList_none, List.cons_append, List.nil_append, true_and, and_true, Nat.reduceAdd, Nat.reduceLeDiff, not_true_eq_false, not_false_eq_true, if_true, if_false, ite_true, ite_false, Int32.reduceLT, ite_not, eq_self, or_true, true_or, ite_self, reduceIte]
      refine u_isHouse hMg hZ hP ?_
      rw [show bI (inR _ (nH T)) = 0 from if_neg g0]
      simp +decide (disch := omega) only [↓EQA, CEA, LIA, NIA, Nat.lt_irrefl, Option.toList_some, Option.toList_none, List.cons_append, List.nil_append, true_and, and_true, Nat.reduceAdd, Nat.reduceLeDiff, not_true_eq_false, not_false_eq_true, if_true, if_false, ite_true, ite_false, Int32.reduceLT, ite_not, eq_self, or_true, true_or, ite_self, reduceIte, B_X11_toMove_J1, B_X11_toMove_J2, B_X11_toMove_J3, B_X11_toMove_J4]
      refine u_noG hMg hA fun w9 h9 => ?_
      simp +decide (disch := omega) only [↓EQA, CEA, LIA, NIA, Nat.lt_irrefl, Option.toList_some, Option.toList_none, List.cons_append, List.nil_append, true_and, and_true, Nat.reduceAdd, Nat.reduceLeDiff, not_true_eq_false, not_false_eq_true, if_true, if_false, ite_true, ite_false, Int32.reduceLT, ite_not, eq_self, or_true, true_or, ite_self, reduceIte, B_X11_toMove_J1, B_X11_toMove_J2, B_X11_toMove_J3, B_X11_toMove_J4]
      exact hK _ h9
theorem p_bestLane {x : Int32} (hI : IV w T D F) : PRI (d + 20) m_X10_bestLane m_X11_bestLane [.ref 0, .int x] [.ref 59, .int x] w := by
  obtain ⟨hZ, hP, ⟨c1, c2, c3⟩, -⟩ := id hI
  have hz := hZ.2
  by_cases g0 : inR x (nH T)
  · obtain ⟨k, hk, rfl⟩ := inR_k g0 (by omega)
    have hH : 1 ≤ nH T := by omega
    have hU := hP.pu hH
    obtain ⟨-, hO, hD, hDH, h0, h7, hFr⟩ := id hU
    refine askI (v := if TO T (VC (RS (updD D 5 (stb (clb (D 5) k) k)))) k < TO T (VC (RS (updD D 5 (clb (D 5) k)))) k then 1 else 0) (tr := 0) hI (by decide) (fun Q hQ => ?_) (fun w1 K hM hK => ?_)
    · refine Cl_of k_X10_bestLane.1 (Nat.le_of_ble_eq_true rfl) (show Wp m_X10_bestLane _ 0 _ 0 [.ref 0, .int (nI k), .null] [] _ from S_X10_bestLane_0 _ _ _ ?_)
      simp +decide (disch := omega) only [↓EQA, CEA, LIA, NIA, Nat.lt_irrefl, Option.toList_some, Option.toList_none, List.cons_append, List.nil_append, true_and, and_true, Nat.reduceAdd, Nat.reduceLeDiff, not_true_eq_false, not_false_eq_true, if_true, if_false, ite_true, ite_false, Int32.reduceLT, ite_not, eq_self, or_true, true_or, ite_self, reduceIte, B_X10_bestLane_0, B_X10_bestLane_J1]
      refine t_isHouse c1 hZ ?_
      rw [show bI (inR _ (nH T)) = 1 from if_pos g0]
      simp +decide (disch := omega) only [↓EQA, CEA, LIA, NIA, Nat.lt_irrefl, Option.toList_some, Option.toList_none, List.cons_append, List.nil_append, true_and, and_true, Nat.reduceAdd, Nat.reduceLeDiff, not_true_eq_false, not_false_eq_true, if_true, if_false, ite_true, ite_false, Int32.reduceLT, ite_not, eq_self, or_true, true_or, ite_self, reduceIte, B_X10_bestLane_J1]
      have hc16 : clb (D 5) k < 16 := (tl16 ⟨D 5, hD.2.1⟩ ⟨k, by omega⟩).2.2.1
      have hs16 : stb (clb (D 5) k) k < 16 := (tl16 ⟨clb (D 5) k, hc16⟩ ⟨k, by omega⟩).2.2.2
      refine t_become RK_trial RK_now (by decide) c2 fun w0 ha0 hC0 => ?_
      simp +decide (disch := omega) only [↓EQA, CEA, LIA, NIA, Nat.lt_irrefl, Option.toList_some, Option.toList_none, List.cons_append, List.nil_append, true_and, and_true, Nat.reduceAdd, Nat.reduceLeDiff, not_true_eq_false, not_false_eq_true, if_true, if_false, ite_true, ite_false, Int32.reduceLT, ite_not, eq_self, or_true, true_or, ite_self, reduceIte]
      refine t_takeLane0 RK_trial hC0 hD.rok (by omega) ?_
      simp +decide (disch := omega) only [↓EQA, CEA, LIA, NIA, Nat.lt_irrefl, Option.toList_some, Option.toList_none, List.cons_append, List.nil_append, true_and, and_true, Nat.reduceAdd, Nat.reduceLeDiff, not_true_eq_false, not_false_eq_true, if_true, if_false, ite_true, ite_false, Int32.reduceLT, ite_not, eq_self, or_true, true_or, ite_self, reduceIte]
      have ha1 : Ag TrP w (wI w0 18 5 (nI (clb (RS D).2.2.2.2 k))) := ha0.wI (Or.inl rfl)
      have hC1 : RC (wI w0 18 5 (nI (clb (RS D).2.2.2.2 k))) 18 19 (RS (updD D 5 (clb (D 5) k))) := RC.lane hC0
      have ok1 : DOK (updD D 5 (clb (D 5) k)) := lan_ok hD hc16
      generalize wI w0 18 5 (nI (clb (RS D).2.2.2.2 k)) = w1 at ha1 hC1
      refine t_wholeTime RK_trial (c1.ag ha1 (fun a b p q z => by omega)) hZ (hC1.rv ok1.rok) (by omega) ?_
      simp +decide (disch := omega) only [↓EQA, CEA, LIA, NIA, Nat.lt_irrefl, Option.toList_some, Option.toList_none, List.cons_append, List.nil_append, true_and, and_true, Nat.reduceAdd, Nat.reduceLeDiff, not_true_eq_false, not_false_eq_true, if_true, if_false, ite_true, ite_false, Int32.reduceLT, ite_not, eq_self, or_true, true_or, ite_self, reduceIte]
      refine t_takeLane1 RK_trial hC1 ok1.rok (by omega) ?_
      simp +decide (disch := omega) only [↓EQA, CEA, LIA, NIA, Nat.lt_irrefl, Option.toList_some, Option.toList_none, List.cons_append, List.nil_append, true_and, and_true, Nat.reduceAdd, Nat.reduceLeDiff, not_true_eq_false, not_false_eq_true, if_true, if_false, ite_true, ite_false, Int32.reduceLT, ite_not, eq_self, or_true, true_or, ite_self, reduceIte]
      have ha2 : Ag TrP w (wI w1 18 5 (nI (stb (RS (updD D 5 (clb (D 5) k))).2.2.2.2 k))) := ha1.wI (Or.inl rfl)
      have hC2 : RC (wI w1 18 5 (nI (stb (RS (updD D 5 (clb (D 5) k))).2.2.2.2 k))) 18 19 (RS (updD D 5 (stb (clb (D 5) k) k))) := by
        have := RC.lane (v := stb (clb (D 5) k) k) hC1
        rw [updD_2] at this
        exact this
      have ok2 : DOK (updD D 5 (stb (clb (D 5) k) k)) := lan_ok hD hs16
      generalize wI w1 18 5 (nI (stb (RS (updD D 5 (clb (D 5) k))).2.2.2.2 k)) = w2 at ha2 hC2
      refine t_wholeTime RK_trial (c1.ag ha2 (fun a b p q z => by omega)) hZ (hC2.rv ok2.rok) (by omega) ?_
      simp +decide (disch := omega) only [↓EQA, CEA, LIA, NIA, Nat.lt_irrefl, Option.toList_some, Option.toList_none, List.cons_append, List.nil_append, true_and, and_true, Nat.reduceAdd, Nat.reduceLeDiff, not_true_eq_false, not_false_eq_true, if_true, if_false, ite_true, ite_false, Int32.reduceLT, ite_not, eq_self, or_true, true_or, ite_self, reduceIte, B_X10_bestLane_J1]
      by_cases q : TO T (VC (RS (updD D 5 (stb (clb (D 5) k) k)))) k < TO T (VC (RS (updD D 5 (clb (D 5) k)))) k
      · rw [if_pos q] at hQ ⊢
        refine t_grantedG (ha2.wk fun j i z => by omega) (CCHq c3 ha2 (fun i z => by omega) (fun i z => by omega)) fun w9 h9 => ?_
        simp +decide (disch := omega) only [↓EQA, CEA, LIA, NIA, Nat.lt_irrefl, Option.toList_some, Option.toList_none, List.cons_append, List.nil_append, true_and, and_true, Nat.reduceAdd, Nat.reduceLeDiff, not_true_eq_false, not_false_eq_true, if_true, if_false, ite_true, ite_false, Int32.reduceLT, ite_not, eq_self, or_true, true_or, ite_self, reduceIte]
        exact hQ _ h9
      · rw [if_neg q] at hQ ⊢
        refine t_grantedG (ha2.wk fun j i z => by omega) (CCHq c3 ha2 (fun i z => by omega) (fun i z => by omega)) fun w9 h9 => ?_
        simp +decide (disch := omega) only [↓EQA, CEA, LIA, NIA, Nat.lt_irrefl, Option.toList_some, Option.toList_none, List.cons_append, List.nil_append, true_and, and_true, Nat.reduceAdd, Nat.reduceLeDiff, not_true_eq_false, not_false_eq_true, if_true, if_false, ite_true, ite_false, Int32.reduceLT, ite_not, eq_self, or_true, true_or, ite_self, reduceIte]
        exact hQ _ h9
    · refine Cl_of k_X11_bestLane.1 (Nat.le_of_ble_eq_true rfl) (show Wp m_X11_bestLane _ 0 _ 0 [.ref 59, .int (nI k), .null] [] _ from S_X11_bestLane_0 _ _ _ ?_)
      simp +decide (disch := omega) only [↓EQA, CEA, LIA, NIA, Nat.lt_irrefl, Option.toList_some, Option.toList_none, List.cons_append, List.nil_append, true_and, and_true, Nat.reduceAdd, Nat.reduceLeDiff, not_true_eq_false, not_false_eq_true, if_true, if_false, ite_true, ite_false, Int32.reduceLT, ite_not, eq_self, or_true, true_or, ite_self, reduceIte, B_X11_bestLane_0]
      refine u_goodG hM fun wg hMg hA h11 => ?_
      simp +decide (disch := omega) only [↓EQA, CEA, LIA, NIA, Nat.lt_irrefl, Option.toList_some, Option.toList_none, List.cons_append, List.nil_append, true_and, and_true, Nat.reduceAdd, Nat.reduceLeDiff, not_true_eq_false, not_false_eq_true, if_true, if_false, ite_true, ite_false, Int32.reduceLT, ite_not, eq_self, or_true, true_or, ite_self, reduceIte]
      refine u_dryG hMg hA h11 fun wg hMg hA h11 => ?_
      simp +decide (disch := omega) only [↓EQA, CEA, LIA, NIA, Nat.lt_irrefl, Option.toList_some, Option.toList_none, List.cons_append, List.nil_append, true_and, and_true, Nat.reduceAdd, Nat.reduceLeDiff, not_true_eq_false, not_false_eq_true, if_true, if_false, ite_true, ite_false, Int32.reduceLT, ite_not, eq_self, or_true, true_or, ite_self, reduceIte]
      refine u_isHouse hMg hZ hP ?_
      rw [show bI (inR _ (nH T)) = 1 from if_pos g0]
      simp +decide (disch := omega) only [↓EQA, CEA, LIA, NIA, Nat.lt_irrefl, Option.toList_some, Option.toList_none, List.cons_append, List.nil_append, true_and, and_true, Nat.reduceAdd, Nat.reduceLeDiff, not_true_eq_false, not_false_eq_true, if_true, if_false, ite_true, ite_false, Int32.reduceLT, ite_not, eq_self, or_true, true_or, ite_self, reduceIte, B_X11_bestLane_J1]
      have hc16 : clb (D 5) k < 16 := (tl16 ⟨D 5, hD.2.1⟩ ⟨k, by omega⟩).2.2.1
      have hs16 : stb (clb (D 5) k) k < 16 := (tl16 ⟨clb (D 5) k, hc16⟩ ⟨k, by omega⟩).2.2.2
      have ok1 : DOK (updD D 5 (clb (D 5) k)) := lan_ok hD hc16
      have ok2 : DOK (updD D 5 (stb (clb (D 5) k) k)) := lan_ok hD hs16
      refine u_copyST hMg.2.2.1 fun w2 ha2 hE2 => ?_
      have e5 := hE2 5 (by decide)
      simp +decide (disch := omega) only [↓EQA, CEA, LIA, NIA, Nat.lt_irrefl, Option.toList_some, Option.toList_none, List.cons_append, List.nil_append, true_and, and_true, Nat.reduceAdd, Nat.reduceLeDiff, not_true_eq_false, not_false_eq_true, if_true, if_false, ite_true, ite_false, Int32.reduceLT, ite_not, eq_self, or_true, true_or, ite_self, reduceIte, e5, clN (show D 5 < 32 by have := hD.2.1; omega) (show k < 5 by omega)]
      have hE3 : MR (wI w2 69 5 (nI (clb (D 5) k))) 69 (updD D 5 (clb (D 5) k)) := hE2.upd rfl
      have ha3 : Ag (fun j _ => j = 69) wg (wI w2 69 5 (nI (clb (D 5) k))) := ha2.wI rfl
      generalize wI w2 69 5 (nI (clb (D 5) k)) = w3 at hE3 ha3
      refine u_tot69 hZ hO (hMg.1.ag ha3 (fun i z => by omega)) hE3 ok1 h7 (by rw [(ha3 59 22 (by omega)).1]; exact hMg.2.2.2.1) hk ?_
      have e53 : w3.1 69 5 = nI (clb (D 5) k) := hE3 5 (by decide)
      simp +decide (disch := omega) only [↓EQA, CEA, LIA, NIA, Nat.lt_irrefl, Option.toList_some, Option.toList_none, List.cons_append, List.nil_append, true_and, and_true, Nat.reduceAdd, Nat.reduceLeDiff, not_true_eq_false, not_false_eq_true, if_true, if_false, ite_true, ite_false, Int32.reduceLT, ite_not, eq_self, or_true, true_or, ite_self, reduceIte, e53, stN (show clb (D 5) k < 32 by omega) (show k < 5 by omega)]
      have hE4 : MR (wI w3 69 5 (nI (stb (clb (D 5) k) k))) 69 (updD D 5 (stb (clb (D 5) k) k)) := fun q hq => by
        rw [hE3.upd rfl q hq]
        refine congrArg nI ?_
        unfold updD
        split <;> rfl
      have ha4 : Ag (fun j _ => j = 69) wg (wI w3 69 5 (nI (stb (clb (D 5) k) k))) := ha3.wI rfl
      generalize wI w3 69 5 (nI (stb (clb (D 5) k) k)) = w4 at hE4 ha4
      refine u_tot69 hZ hO (hMg.1.ag ha4 (fun i z => by omega)) hE4 ok2 h7 (by rw [(ha4 59 22 (by omega)).1]; exact hMg.2.2.2.1) hk ?_
      have hK9 := hK w4 (MAfq hA hMg h11 ha4 (fun j i z => by omega) (by omega) (by omega))
      simp +decide (disch := omega) only [↓EQA, CEA, LIA, NIA, Nat.lt_irrefl, Option.toList_some, Option.toList_none, List.cons_append, List.nil_append, true_and, and_true, Nat.reduceAdd, Nat.reduceLeDiff, not_true_eq_false, not_false_eq_true, if_true, if_false, ite_true, ite_false, Int32.reduceLT, ite_not, eq_self, or_true, true_or, ite_self, reduceIte, B_X11_bestLane_J1]
      by_cases q : TO T (VC (RS (updD D 5 (stb (clb (D 5) k) k)))) k < TO T (VC (RS (updD D 5 (clb (D 5) k)))) k
      · rw [if_pos q] at hK9 ⊢; exact hK9
      · rw [if_neg q] at hK9 ⊢; exact hK9
  · refine askI (v := -1) (tr := 1) hI (by decide) (fun Q hQ => ?_) (fun w1 K hM hK => ?_)
    · refine Cl_of k_X10_bestLane.1 (Nat.le_of_ble_eq_true rfl) (show Wp m_X10_bestLane _ 0 _ 0 [.ref 0, .int x, .null] [] _ from S_X10_bestLane_0 _ _ _ ?_)
      simp +decide (disch := omega) only [↓EQA, CEA, LIA, NIA, Nat.lt_irrefl, Option.toList_some, Option.toList_none, List.cons_append, List.nil_append, true_and, and_true, Nat.reduceAdd, Nat.reduceLeDiff, not_true_eq_false, not_false_eq_true, if_true, if_false, ite_true, ite_false, Int32.reduceLT, ite_not, eq_self, or_true, true_or, ite_self, reduceIte, B_X10_bestLane_0, B_X10_bestLane_J1]
      refine t_isHouse c1 hZ ?_
      rw [show bI (inR _ (nH T)) = 0 from if_neg g0]
      simp +decide (disch := omega) only [↓EQA, CEA, LIA, NIA, Nat.lt_irrefl, Option.toList_some, Option.toList_none, List.cons_append, List.nil_append, true_and, and_true, Nat.reduceAdd, Nat.reduceLeDiff, not_true_eq_false, not_false_eq_true, if_true, if_false, ite_true, ite_false, Int32.reduceLT, ite_not, eq_self, or_true, true_or, ite_self, reduceIte, B_X10_bestLane_J1]
      refine t_refusedG Ag.rf c3 fun w9 h9 => ?_
      simp +decide (disch := omega) only [↓EQA, CEA, LIA, NIA, Nat.lt_irrefl, Option.toList_some, Option.toList_none, List.cons_append, List.nil_append, true_and, and_true, Nat.reduceAdd, Nat.reduceLeDiff, not_true_eq_false, not_false_eq_true, if_true, if_false, ite_true, ite_false, Int32.reduceLT, ite_not, eq_self, or_true, true_or, ite_self, reduceIte, B_X10_bestLane_J1]
      exact hQ _ h9
    · refine Cl_of k_X11_bestLane.1 (Nat.le_of_ble_eq_true rfl) (show Wp m_X11_bestLane _ 0 _ 0 [.ref 59, .int x, .null] [] _ from S_X11_bestLane_0 _ _ _ ?_)
      simp +decide (disch := omega) only [↓EQA, CEA, LIA, NIA, Nat.lt_irrefl, Option.toList_some, Option.toList_none, List.cons_append, List.nil_append, true_and, and_true, Nat.reduceAdd, Nat.reduceLeDiff, not_true_eq_false, not_false_eq_true, if_true, if_false, ite_true, ite_false, Int32.reduceLT, ite_not, eq_self, or_true, true_or, ite_self, reduceIte, B_X11_bestLane_0]
      refine u_goodG hM fun wg hMg hA h11 => ?_
      simp +decide (disch := omega) only [↓EQA, CEA, LIA, NIA, Nat.lt_irrefl, Option.toList_some, Option.toList_none, List.cons_append, List.nil_append, true_and, and_true, Nat.reduceAdd, Nat.reduceLeDiff, not_true_eq_false, not_false_eq_true, if_true, if_false, ite_true, ite_false, Int32.reduceLT, ite_not, eq_self, or_true, true_or, ite_self, reduceIte]
      refine u_dryG hMg hA h11 fun wg hMg hA h11 => ?_
      simp +decide (disch := omega) only [↓EQA, CEA, LIA, NIA, Nat.lt_irrefl, Option.toList_some, Option.toList_none, List.cons_append, List.nil_append, true_and, and_true, Nat.reduceAdd, Nat.reduceLeDiff, not_true_eq_false, not_false_eq_true, if_true, if_false, ite_true, ite_false, Int32.reduceLT, ite_not, eq_self, or_true, true_or, ite_self, reduceIte]
      refine u_isHouse hMg hZ hP ?_
      rw [show bI (inR _ (nH T)) = 0 from if_neg g0]
      simp +decide (disch := omega) only [↓EQA, CEA, LIA, NIA, Nat.lt_irrefl, Option.toList_some, Option.toList_none, List.cons_append, List.nil_append, true_and, and_true, Nat.reduceAdd, Nat.reduceLeDiff, not_true_eq_false, not_false_eq_true, if_true, if_false, ite_true, ite_false, Int32.reduceLT, ite_not, eq_self, or_true, true_or, ite_self, reduceIte, B_X11_bestLane_J1]
      refine u_noG hMg hA fun w9 h9 => ?_
      simp +decide (disch := omega) only [↓EQA, CEA, LIA, NIA, Nat.lt_irrefl, Option.toList_some, Option.toList_none, List.cons_append, List.nil_append, true_and, and_true, Nat.reduceAdd, Nat.reduceLeDiff, not_true_eq_false, not_false_eq_true, if_true, if_false, ite_true, ite_false, Int32.reduceLT, ite_not, eq_self, or_true, true_or, ite_self, reduceIte, B_X11_bestLane_J1]
      exact hK _ h9
end Pub
