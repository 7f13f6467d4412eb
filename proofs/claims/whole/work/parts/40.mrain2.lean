/-! ===== the reference: weights of rain, races ===== -/
theorem wL_fst {w : Mem} {k i : Nat} {v : Int64} : (wL w k i v).1 = w.1 := rfl
section MRain2
variable {d : Nat} {w : Mem} {Q : Option Value → Mem → Prop} {T : Tv} {D F : Nat → Nat} {i h l r s : Nat}
abbrev RnM : Nat → Nat → Prop := fun j i => j = 67 ∨ j = 68 ∨ (j = 59 ∧ (i = 22 ∨ i = 25 ∨ (36 ≤ i ∧ i ≤ 39)))
theorem RM_rain {w1 : Mem} (hP : PU T D F) (hR : MR w1 64 D) (hs : s < 16) (hw : w1.1 59 22 = nI s) : RM w1 64 (VC (RRain (RS D) s)) := RM_of hR hP.2.2.1 hs hw
theorem POS_rain (hP : PU T D F) (s : Nat) : POS T (VC (RRain (RS D) s)) := POS_of hP.1 hP.2.1 ⟨D 7, rfl, hP.2.2.2.2.2.1, hP.2.2.1.2.2.2⟩
theorem lit_wn {w1 : Mem} (hP : PU T D F) (hR : MR w1 64 D) : wn (w1.1 64 6) 0 15 := ⟨D 6, hR 6 (by decide), Nat.zero_le _, by have := hP.2.2.1.2.2.1; omega⟩
abbrev RWT (w : Mem) (T : Tv) (D : Nat → Nat) (h r s : Nat) : Prop := w.2 59 36 = lN (100 ^ nB T) ∧ w.2 59 37 = lN (usN (odF T (RS D) h r) s) ∧ w.2 59 38 = lN (usN (meF T (RS D) h) s) ∧ w.2 59 39 = lN (usN (hoF T (RS D) h) s)
theorem u_tryRain (hP : PU T D F) (hM : ToldM w T) (hR : MR w 64 D) (hh : h < nH T) (hr : r < 4) (hQ : ∀ w', Ag RnM w w' → w'.1 59 22 = 0 → RWT w' T D h r (2 ^ nB T) → Q none w') : Cl (d + 7) m_X11_tryRain [.ref 59, .int (nI h), .int (nI r)] w Q := by
  obtain ⟨hZ, hO, hD, hDH, h0, h7, hFr⟩ := id hP
  have hz := hZ.2
  have hp16 := p4 hz.1
  have e2 := sh2' hz.1
  have hh4 : h < 4 := by omega
  refine Cl_of k_X11_tryRain.1 (Nat.le_of_ble_eq_true rfl) (show Wp m_X11_tryRain _ 0 _ 0 [.ref 59, .int (nI h), .int (nI r), .null, .null, .null, .null] [] _ from S_X11_tryRain_0 _ _ _ ?_)
  simp +decide (disch := omega) only [↓EQA, CEA, LIA, NIA, Nat.lt_irrefl, Option.toList_some, Option.toList_none, List.cons_append, List.nil_append, true_and, and_true, Nat.reduceAdd, Nat.reduceLeDiff, not_true_eq_false, not_false_eq_true, if_true, if_false, ite_true, ite_false, Int32.reduceLT, ite_not, eq_self, or_true, true_or, ite_self, reduceIte, B_X11_tryRain_0]
  have sets : ∀ m s, s + m = 2 ^ nB T → ∀ w1 (v4 v6 : Value), Ag RnM w w1 → RWT w1 T D h r s → Wp m_X11_tryRain (d + 6) 0 Q 52 [.ref 59, .int (nI h), .int (nI r), .int (nI s), v4, .null, v6] [] w1 := by
    intro m
    induction m with
    | zero =>
      intro s hs w1 v4 v6 ha hW
      have : s = 2 ^ nB T := by omega
      subst this
      have hM1 := hM.ag ha (fun i z => by omega)
      refine S_X11_tryRain_L2 _ _ _ ?_
      simp +decide (disch := omega) only [↓EQA, CEA, LIA, NIA, Nat.lt_irrefl, Option.toList_some, Option.toList_none, List.cons_append, List.nil_append, true_and, and_true, Nat.reduceAdd, Nat.reduceLeDiff, not_true_eq_false, not_false_eq_true, if_true, if_false, ite_true, ite_false, Int32.reduceLT, ite_not, eq_self, or_true, true_or, ite_self, reduceIte, B_X11_tryRain_L2, hM1.1, hZ.1, e2]
      refine u_dry ?_
      simp +decide (disch := omega) only [↓EQA, CEA, LIA, NIA, Nat.lt_irrefl, Option.toList_some, Option.toList_none, List.cons_append, List.nil_append, true_and, and_true, Nat.reduceAdd, Nat.reduceLeDiff, not_true_eq_false, not_false_eq_true, if_true, if_false, ite_true, ite_false, Int32.reduceLT, ite_not, eq_self, or_true, true_or, ite_self, reduceIte]
      exact hQ _ (ha.wI (Or.inr (Or.inr ⟨rfl, Or.inl rfl⟩))) (by simp [wI]) hW
    | succ m ih =>
      intro s hs w1 v4 v6 ha hW
      have hs1 : s < 2 ^ nB T := by omega
      have hs16 : s < 16 := by omega
      have hM1 := hM.ag ha (fun i z => by omega)
      have ha2 := ha.wI (k := 59) (p := 22) (v := nI s) (Or.inr (Or.inr ⟨rfl, Or.inl rfl⟩))
      refine S_X11_tryRain_L2 _ _ _ ?_
      simp +decide (disch := omega) only [↓EQA, CEA, LIA, NIA, Nat.lt_irrefl, Option.toList_some, Option.toList_none, List.cons_append, List.nil_append, true_and, and_true, Nat.reduceAdd, Nat.reduceLeDiff, not_true_eq_false, not_false_eq_true, if_true, if_false, ite_true, ite_false, Int32.reduceLT, ite_not, eq_self, or_true, true_or, ite_self, reduceIte, B_X11_tryRain_L2, hM1.1, hZ.1, e2, hs1]
      have hW2 : RWT (wI w1 59 22 (nI s)) T D h r s := hW
      have f22 : (wI w1 59 22 (nI s)).1 59 22 = nI s := by simp [wI]
      generalize wI w1 59 22 (nI s) = w2 at *
      have hM2 := hM.ag ha2 (fun i z => by omega)
      have hR2 := hR.ag ha2 (fun i z => by omega)
      refine fld_loop (f := fun k a => a * (if bb (nI s) (nI k) then (T 0 3).toInt64 else (100 - T 0 3).toInt64)) (n := nB T) (a := (1 : Int64)) (fun k a => Wp m_X11_tryRain (d + 6) 0 Q 75 [.ref 59, .int (nI h), .int (nI r), .int (nI s), .long a, .null, .int (nI k)] [] w2) (fun k hk hd => ?_) ?_
      · refine S_X11_tryRain_L3 _ _ _ ?_
        simp +decide (disch := omega) only [↓EQA, CEA, LIA, NIA, Nat.lt_irrefl, Option.toList_some, Option.toList_none, List.cons_append, List.nil_append, true_and, and_true, Nat.reduceAdd, Nat.reduceLeDiff, not_true_eq_false, not_false_eq_true, if_true, if_false, ite_true, ite_false, Int32.reduceLT, ite_not, eq_self, or_true, true_or, ite_self, reduceIte, B_X11_tryRain_L3, hM2.1, hZ.1, hk]
        refine u_hasBit ?_
        simp +decide (disch := omega) only [↓EQA, CEA, LIA, NIA, Nat.lt_irrefl, Option.toList_some, Option.toList_none, List.cons_append, List.nil_append, true_and, and_true, Nat.reduceAdd, Nat.reduceLeDiff, not_true_eq_false, not_false_eq_true, if_true, if_false, ite_true, ite_false, Int32.reduceLT, ite_not, eq_self, or_true, true_or, ite_self, reduceIte, B_X11_tryRain_J1, hM2.1, Bool.not_eq_true]
        cases hb : bb (nI s) (nI k) <;> simp only [hb, if_true, if_false, Bool.false_eq_true, Bool.true_eq_false] at hd ⊢ <;> exact hd
      · have ew : fld (fun k a => a * (if bb (nI s) (nI k) then (T 0 3).toInt64 else (100 - T 0 3).toInt64)) (nB T) (1 : Int64) = lN (wrN T s) := (wr_ok hZ hO hs16).1
        rw [ew]
        refine S_X11_tryRain_L3 _ _ _ ?_
        simp +decide (disch := omega) only [↓EQA, CEA, LIA, NIA, Nat.lt_irrefl, Option.toList_some, Option.toList_none, List.cons_append, List.nil_append, true_and, and_true, Nat.reduceAdd, Nat.reduceLeDiff, not_true_eq_false, not_false_eq_true, if_true, if_false, ite_true, ite_false, Int32.reduceLT, ite_not, eq_self, or_true, true_or, ite_self, reduceIte, B_X11_tryRain_L3, hM2.1, hZ.1]
        refine u_layRanks hM2 hZ hO (RM_rain hP hR2 hs16 f22) rfl (POS_rain hP s) (Or.inl rfl) (lit_wn hP hR2) fun w3 ha3 hS3 => ?_
        have ha4 : Ag RnM w w3 := ha2.tr (ha3.wk fun j i z => by omega)
        have hM3 := hM.ag ha4 (fun i z => by omega)
        have eR : w3.1 68 h = nI (rkR T (RS D) s h) := hS3.2 h hh
        have eT := hS3.1.1 h hh
        have eto := toR_ok (s := s) hZ hO hD.rok hh
        rw [eto.1] at eT
        have hrk : rkR T (RS D) s h ≤ 4 := Nat.le_trans (cnt_le _ _) hz.2.1
        have g36 : w3.2 59 36 = lN (100 ^ nB T) := by rw [(ha3 59 36 (by omega)).2]; exact hW2.1
        have g37 : w3.2 59 37 = lN (usN (odF T (RS D) h r) s) := by rw [(ha3 59 37 (by omega)).2]; exact hW2.2.1
        have g38 : w3.2 59 38 = lN (usN (meF T (RS D) h) s) := by rw [(ha3 59 38 (by omega)).2]; exact hW2.2.2.1
        have g39 : w3.2 59 39 = lN (usN (hoF T (RS D) h) s) := by rw [(ha3 59 39 (by omega)).2]; exact hW2.2.2.2
        have epz := PZ_ok (r := rkR T (RS D) s h) hO
        have fin : ∀ x : Nat, x = odF T (RS D) h r s → B_X11_tryRain_J2 (d + 6) 0 Q [.ref 59, .int (nI h), .int (nI r), .int (nI s), .long (lN (wrN T s)), .null, .int (nI (nB T))] [.long (lN x), .long (lN (usN (odF T (RS D) h r) s)), .ref 59] w3 := by
          intro x hx
          have r38 : ∀ u, (wL w3 59 37 u).2 59 38 = lN (usN (meF T (RS D) h) s) := fun u => by rw [← g38]; simp [wL]
          have r39 : ∀ u u', (wL (wL w3 59 37 u) 59 38 u').2 59 39 = lN (usN (hoF T (RS D) h) s) := fun u u' => by rw [← g39]; simp [wL]
          simp +decide (disch := omega) only [↓EQA, CEA, LIA, NIA, Nat.lt_irrefl, Option.toList_some, Option.toList_none, List.cons_append, List.nil_append, true_and, and_true, Nat.reduceAdd, Nat.reduceLeDiff, not_true_eq_false, not_false_eq_true, if_true, if_false, ite_true, ite_false, Int32.reduceLT, ite_not, eq_self, or_true, true_or, ite_self, reduceIte, B_X11_tryRain_J2, lN_add, r38, hh4, wL_fst, eT, nI_l, lN_mul, r39, eR]
          refine u_prizeFor (r := rkR T (RS D) s h) (w := wL (wL w3 59 37 (lN (usN (odF T (RS D) h r) s + x))) 59 38 (lN (usN (meF T (RS D) h) s + wrN T s * toR T (RS D) s h))) hM3 hZ (by omega) ?_
          simp +decide (disch := omega) only [↓EQA, CEA, LIA, NIA, Nat.lt_irrefl, Option.toList_some, Option.toList_none, List.cons_append, List.nil_append, true_and, and_true, Nat.reduceAdd, Nat.reduceLeDiff, not_true_eq_false, not_false_eq_true, if_true, if_false, ite_true, ite_false, Int32.reduceLT, ite_not, eq_self, or_true, true_or, ite_self, reduceIte, epz.1, nI_l, lN_mul, lN_add]
          refine ih (s + 1) (by omega) _ _ _ (((ha4.wL (Or.inr (Or.inr ⟨rfl, Or.inr (Or.inr ⟨by decide, by decide⟩)⟩))).wL (Or.inr (Or.inr ⟨rfl, Or.inr (Or.inr ⟨by decide, by decide⟩)⟩))).wL (Or.inr (Or.inr ⟨rfl, Or.inr (Or.inr ⟨by decide, by decide⟩)⟩))) ⟨?_, ?_, ?_, ?_⟩
          · rw [← g36]; simp [wL]
          · show _ = lN (usN (odF T (RS D) h r) s + odF T (RS D) h r s)
            rw [← hx]; simp [wL]
          · show _ = lN (usN (meF T (RS D) h) s + meF T (RS D) h s)
            simp [wL, meF]
          · show _ = lN (usN (hoF T (RS D) h) s + hoF T (RS D) h s)
            simp [wL, hoF]
        simp +decide (disch := omega) only [↓EQA, CEA, LIA, NIA, Nat.lt_irrefl, Option.toList_some, Option.toList_none, List.cons_append, List.nil_append, true_and, and_true, Nat.reduceAdd, Nat.reduceLeDiff, not_true_eq_false, not_false_eq_true, if_true, if_false, ite_true, ite_false, Int32.reduceLT, ite_not, eq_self, or_true, true_or, ite_self, reduceIte, g37, hh4, eR]
        by_cases q : rkR T (RS D) s h = r
        · rw [if_pos q]
          exact fin (wrN T s) (by unfold odF; rw [if_pos q])
        · rw [if_neg q]
          exact fin 0 (by unfold odF; rw [if_neg q])
  have first : ∀ m k, k + m = nB T → ∀ w1, Ag RnM w w1 → w1.2 59 36 = lN (100 ^ k) → w1.2 59 37 = 0 → w1.2 59 38 = 0 → w1.2 59 39 = 0 → Wp m_X11_tryRain (d + 6) 0 Q 22 [.ref 59, .int (nI h), .int (nI r), .int (nI k), .null, .null, .null] [] w1 := by
    intro m
    induction m with
    | zero =>
      intro k hk w1 ha k36 k37 k38 k39
      have : k = nB T := by omega
      subst this
      have hM1 := hM.ag ha (fun i z => by omega)
      refine S_X11_tryRain_L1 _ _ _ ?_
      simp +decide (disch := omega) only [↓EQA, CEA, LIA, NIA, Nat.lt_irrefl, Option.toList_some, Option.toList_none, List.cons_append, List.nil_append, true_and, and_true, Nat.reduceAdd, Nat.reduceLeDiff, not_true_eq_false, not_false_eq_true, if_true, if_false, ite_true, ite_false, Int32.reduceLT, ite_not, eq_self, or_true, true_or, ite_self, reduceIte, B_X11_tryRain_L1, hM1.1, hZ.1]
      exact sets (2 ^ nB T) 0 (by omega) w1 _ _ ha ⟨k36, k37, k38, k39⟩
    | succ m ih =>
      intro k hk w1 ha k36 k37 k38 k39
      have hk1 : k < nB T := by omega
      have hM1 := hM.ag ha (fun i z => by omega)
      refine S_X11_tryRain_L1 _ _ _ ?_
      simp +decide (disch := omega) only [↓EQA, CEA, LIA, NIA, Nat.lt_irrefl, Option.toList_some, Option.toList_none, List.cons_append, List.nil_append, true_and, and_true, Nat.reduceAdd, Nat.reduceLeDiff, not_true_eq_false, not_false_eq_true, if_true, if_false, ite_true, ite_false, Int32.reduceLT, ite_not, eq_self, or_true, true_or, ite_self, reduceIte, B_X11_tryRain_L1, hM1.1, hZ.1, hk1, k36]
      have e : lN (100 ^ k) * 100 = lN (100 ^ (k + 1)) := by rw [Nat.pow_succ]; exact lN_mul _ 100
      rw [e]
      refine ih (k + 1) (by omega) _ (ha.wL (Or.inr (Or.inr ⟨rfl, Or.inr (Or.inr ⟨by decide, by decide⟩)⟩))) (by simp [wL]) ?_ ?_ ?_
      · rw [← k37]; simp [wL]
      · rw [← k38]; simp [wL]
      · rw [← k39]; simp [wL]
  refine first (nB T) 0 (by omega) _ ((((Ag.rf.wL (Or.inr (Or.inr ⟨rfl, Or.inr (Or.inr ⟨by decide, by decide⟩)⟩))).wL (Or.inr (Or.inr ⟨rfl, Or.inr (Or.inr ⟨by decide, by decide⟩)⟩))).wL (Or.inr (Or.inr ⟨rfl, Or.inr (Or.inr ⟨by decide, by decide⟩)⟩))).wL (Or.inr (Or.inr ⟨rfl, Or.inr (Or.inr ⟨by decide, by decide⟩)⟩))) ?_ ?_ ?_ ?_
  · simp [wL]; rfl
  · simp [wL]
  · simp [wL]
  · simp [wL]
abbrev RaM : Nat → Nat → Prop := fun j i => j = 67 ∨ j = 68 ∨ j = 72 ∨ (j = 59 ∧ (i = 22 ∨ i = 25 ∨ i = 41))
theorem u_racesWhy {x lo : Int32} {N : Nat} (hP : PU T D F) (hM : ToldM w T) (hR : MR w 64 D) (hx1 : ¬ x < 0) (hx2 : ¬ 65536 < x) (hN : N ≤ 60) (hlo : ¬ nI N < lo) (hQ : ∀ w', Ag RaM w w' → w'.1 59 22 = 0 → (∀ h, h < nH T → w'.1 72 h = nI (cnt (wonF T (RS D) x h) N)) → w'.1 59 41 = fld (lsR T (RS D) x) N 1000000 → Q (some (.int 0)) w') : Cl (d + 7) m_X11_racesWhy [.ref 59, .int 1, .int x, .int (nI N), .int lo] w Q := by
  obtain ⟨hZ, hO, hD, hDH, h0, h7, hFr⟩ := id hP
  have hz := hZ.2
  have hN6 : ¬ (60 : Int32) < nI N := nI_nlt (a := 60) (b := N) hN (by decide) |> fun z => by
    have : ¬ nI 60 < nI N := nI_nlt hN (by decide)
    exact this
  refine Cl_of k_X11_racesWhy.1 (Nat.le_of_ble_eq_true rfl) (show Wp m_X11_racesWhy _ 0 _ 0 [.ref 59, .int 1, .int x, .int (nI N), .int lo, .null, .null, .null] [] _ from S_X11_racesWhy_0 _ _ _ ?_)
  simp +decide (disch := omega) only [↓EQA, CEA, LIA, NIA, Nat.lt_irrefl, Option.toList_some, Option.toList_none, List.cons_append, List.nil_append, true_and, and_true, Nat.reduceAdd, Nat.reduceLeDiff, not_true_eq_false, not_false_eq_true, if_true, if_false, ite_true, ite_false, Int32.reduceLT, ite_not, eq_self, or_true, true_or, ite_self, reduceIte, B_X11_racesWhy_0]
  refine u_in ?_
  simp +decide (disch := omega) only [↓EQA, CEA, LIA, NIA, Nat.lt_irrefl, Option.toList_some, Option.toList_none, List.cons_append, List.nil_append, true_and, and_true, Nat.reduceAdd, Nat.reduceLeDiff, not_true_eq_false, not_false_eq_true, if_true, if_false, ite_true, ite_false, Int32.reduceLT, ite_not, eq_self, or_true, true_or, ite_self, reduceIte, hx1, hx2]
  refine u_in ?_
  simp +decide (disch := omega) only [↓EQA, CEA, LIA, NIA, Nat.lt_irrefl, Option.toList_some, Option.toList_none, List.cons_append, List.nil_append, true_and, and_true, Nat.reduceAdd, Nat.reduceLeDiff, not_true_eq_false, not_false_eq_true, if_true, if_false, ite_true, ite_false, Int32.reduceLT, ite_not, eq_self, or_true, true_or, ite_self, reduceIte, hlo, hN6]
  have races : ∀ m j, j + m = N → ∀ w1 (v : Value), Ag RaM w w1 → (∀ h, h < nH T → w1.1 72 h = nI (cnt (wonF T (RS D) x h) j)) → w1.1 59 41 = fld (lsR T (RS D) x) j 1000000 → Wp m_X11_racesWhy (d + 6) 0 Q 66 [.ref 59, .int 1, .int x, .int (nI N), .int lo, .int (sdI T x j), .int (nI j), v] [] w1 := by
    intro m
    induction m with
    | zero =>
      intro j hj w1 v ha h72 h41
      have : j = N := by omega
      subst this
      refine S_X11_racesWhy_L2 _ _ _ ?_
      simp +decide (disch := omega) only [↓EQA, CEA, LIA, NIA, Nat.lt_irrefl, Option.toList_some, Option.toList_none, List.cons_append, List.nil_append, true_and, and_true, Nat.reduceAdd, Nat.reduceLeDiff, not_true_eq_false, not_false_eq_true, if_true, if_false, ite_true, ite_false, Int32.reduceLT, ite_not, eq_self, or_true, true_or, ite_self, reduceIte, B_X11_racesWhy_L2]
      refine u_dry ?_
      simp +decide (disch := omega) only [↓EQA, CEA, LIA, NIA, Nat.lt_irrefl, Option.toList_some, Option.toList_none, List.cons_append, List.nil_append, true_and, and_true, Nat.reduceAdd, Nat.reduceLeDiff, not_true_eq_false, not_false_eq_true, if_true, if_false, ite_true, ite_false, Int32.reduceLT, ite_not, eq_self, or_true, true_or, ite_self, reduceIte]
      refine hQ _ (ha.wI (Or.inr (Or.inr (Or.inr ⟨rfl, Or.inl rfl⟩)))) (by simp [wI]) (fun h hh => by rw [wI_ne (by decide)]; exact h72 h hh) ?_
      rw [← h41]; simp [wI]
    | succ m ih =>
      intro j hj w1 v ha h72 h41
      have hj1 : j < N := by omega
      have ern := rainN_ok hZ x j
      refine S_X11_racesWhy_L2 _ _ _ ?_
      simp +decide (disch := omega) only [↓EQA, CEA, LIA, NIA, Nat.lt_irrefl, Option.toList_some, Option.toList_none, List.cons_append, List.nil_append, true_and, and_true, Nat.reduceAdd, Nat.reduceLeDiff, not_true_eq_false, not_false_eq_true, if_true, if_false, ite_true, ite_false, Int32.reduceLT, ite_not, eq_self, or_true, true_or, ite_self, reduceIte, B_X11_racesWhy_L2, hj1]
      have rain : ∀ m' k, k + m' = nB T → ∀ w2, Ag RaM w w2 → w2.1 72 = w1.1 72 → w2.1 59 41 = w1.1 59 41 → w2.1 59 22 = (drF T (sdI T x j) k).2 → Wp m_X11_racesWhy (d + 6) 0 Q 80 [.ref 59, .int 1, .int x, .int (nI N), .int lo, .int (drF T (sdI T x j) k).1, .int (nI j), .int (nI k)] [] w2 := by
        intro m'
        induction m' with
        | zero =>
          intro k hk w2 ha2 g72 g41 g22
          have : k = nB T := by omega
          subst this
          have hM2 := hM.ag ha2 (fun i z => by omega)
          have hR2 := hR.ag ha2 (fun i z => by omega)
          rw [ern.1] at g22
          refine S_X11_racesWhy_L3 _ _ _ ?_
          simp +decide (disch := omega) only [↓EQA, CEA, LIA, NIA, Nat.lt_irrefl, Option.toList_some, Option.toList_none, List.cons_append, List.nil_append, true_and, and_true, Nat.reduceAdd, Nat.reduceLeDiff, not_true_eq_false, not_false_eq_true, if_true, if_false, ite_true, ite_false, Int32.reduceLT, ite_not, eq_self, or_true, true_or, ite_self, reduceIte, B_X11_racesWhy_L3, hM2.1, hZ.1]
          refine u_layRanks hM2 hZ hO (RM_rain hP hR2 ern.2 g22) rfl (POS_rain hP _) (Or.inl rfl) (lit_wn hP hR2) fun w3 ha3 hS3 => ?_
          have ha4 : Ag RaM w w3 := ha2.tr (ha3.wk fun j i z => by omega)
          simp +decide (disch := omega) only [↓EQA, CEA, LIA, NIA, Nat.lt_irrefl, Option.toList_some, Option.toList_none, List.cons_append, List.nil_append, true_and, and_true, Nat.reduceAdd, Nat.reduceLeDiff, not_true_eq_false, not_false_eq_true, if_true, if_false, ite_true, ite_false, Int32.reduceLT, ite_not, eq_self, or_true, true_or, ite_self, reduceIte]
          have houses : ∀ m9 h, h + m9 = nH T → ∀ w4, Ag RaM w w4 → MST w4 (TO T (VC (RRain (RS D) (rainN T x j)))) (nH T) (VC (RRain (RS D) (rainN T x j))).2.2.2.1 → (∀ g, g < nH T → w4.1 72 g = nI (if g < h then cnt (wonF T (RS D) x g) (j + 1) else cnt (wonF T (RS D) x g) j)) → w4.1 59 41 = fld (fun h a => if TO T (VC (RRain (RS D) (rainN T x j))) h < a then TO T (VC (RRain (RS D) (rainN T x j))) h else a) h (fld (lsR T (RS D) x) j 1000000) → Wp m_X11_racesWhy (d + 6) 0 Q 153 [.ref 59, .int 1, .int x, .int (nI N), .int lo, .int (drF T (sdI T x j) (nB T)).1, .int (nI j), .int (nI h)] [] w4 := by
            intro m9
            induction m9 with
            | zero =>
              intro h hh w4 ha5 hS5 k72 k41
              have : h = nH T := by omega
              subst this
              have hM5 := hM.ag ha5 (fun i z => by omega)
              refine S_X11_racesWhy_L4 _ _ _ ?_
              simp +decide (disch := omega) only [↓EQA, CEA, LIA, NIA, Nat.lt_irrefl, Option.toList_some, Option.toList_none, List.cons_append, List.nil_append, true_and, and_true, Nat.reduceAdd, Nat.reduceLeDiff, not_true_eq_false, not_false_eq_true, if_true, if_false, ite_true, ite_false, Int32.reduceLT, ite_not, eq_self, or_true, true_or, ite_self, reduceIte, B_X11_racesWhy_L4, hM5.1, hZ.1]
              exact ih (j + 1) (by omega) w4 _ ha5 (fun g hg => by rw [k72 g hg, if_pos hg]) k41
            | succ m9 ih9 =>
              intro h hh w4 ha5 hS5 k72 k41
              have hh1 : h < nH T := by omega
              have hh4 : h < 4 := by omega
              have hM5 := hM.ag ha5 (fun i z => by omega)
              have e72 := k72 h hh1
              rw [if_neg (Nat.lt_irrefl _)] at e72
              have eR := hS5.2 h hh1
              have eT := hS5.1.1 h hh1
              have hrk : rkX (TO T (VC (RRain (RS D) (rainN T x j)))) (nH T) (VC (RRain (RS D) (rainN T x j))).2.2.2.1 h ≤ 4 := Nat.le_trans (cnt_le _ _) hz.2.1
              have efl : fld (fun h a => if TO T (VC (RRain (RS D) (rainN T x j))) h < a then TO T (VC (RRain (RS D) (rainN T x j))) h else a) (h + 1) (fld (lsR T (RS D) x) j 1000000) = if TO T (VC (RRain (RS D) (rainN T x j))) h < fld (fun h a => if TO T (VC (RRain (RS D) (rainN T x j))) h < a then TO T (VC (RRain (RS D) (rainN T x j))) h else a) h (fld (lsR T (RS D) x) j 1000000) then TO T (VC (RRain (RS D) (rainN T x j))) h else fld (fun h a => if TO T (VC (RRain (RS D) (rainN T x j))) h < a then TO T (VC (RRain (RS D) (rainN T x j))) h else a) h (fld (lsR T (RS D) x) j 1000000) := rfl
              have nxt : ∀ y : Int32, nI (cnt (wonF T (RS D) x h) j) + y = nI (cnt (wonF T (RS D) x h) (j + 1)) → B_X11_racesWhy_J3 (d + 6) 0 Q [.ref 59, .int 1, .int x, .int (nI N), .int lo, .int (drF T (sdI T x j) (nB T)).1, .int (nI j), .int (nI h)] [.int y, .int (nI (cnt (wonF T (RS D) x h) j)), .int (nI h), .ref 72] w4 := by
                intro y hy
                have t1 : (wI w4 72 h (nI (cnt (wonF T (RS D) x h) (j + 1)))).1 67 h = TO T (VC (RRain (RS D) (rainN T x j))) h := by rw [wI_ne (by decide)]; exact eT
                have t2 : (wI w4 72 h (nI (cnt (wonF T (RS D) x h) (j + 1)))).1 59 41 = _ := k41
                have go : ∀ z : Int32, z = fld (fun h a => if TO T (VC (RRain (RS D) (rainN T x j))) h < a then TO T (VC (RRain (RS D) (rainN T x j))) h else a) (h + 1) (fld (lsR T (RS D) x) j 1000000) → Wp m_X11_racesWhy (d + 6) 0 Q 153 [.ref 59, .int 1, .int x, .int (nI N), .int lo, .int (drF T (sdI T x j) (nB T)).1, .int (nI j), .int (nI (h + 1))] [] (wI (wI w4 72 h (nI (cnt (wonF T (RS D) x h) (j + 1)))) 59 41 z) := by
                  intro z hz9
                  refine ih9 (h + 1) (by omega) _ ((ha5.wI (Or.inr (Or.inr (Or.inl rfl)))).wI (Or.inr (Or.inr (Or.inr ⟨rfl, Or.inr (Or.inr rfl)⟩)))) ⟨⟨fun g hg => by rw [wI_ne (by decide), wI_ne (by decide)]; exact hS5.1.1 g hg, fun g hg => ?_⟩, fun g hg => by rw [wI_ne (by decide), wI_ne (by decide)]; exact hS5.2 g hg⟩ (fun g hg => ?_) (by rw [← hz9]; simp [wI])
                  · have e25 : (wI (wI w4 72 h (nI (cnt (wonF T (RS D) x h) (j + 1)))) 59 41 z).1 59 25 = w4.1 59 25 := by simp [wI]
                    rw [e25]; exact hS5.1.2 g hg
                  · rw [wI_ne (by decide), wI_get]
                    by_cases e : g = h
                    · subst e; rw [if_pos ⟨rfl, rfl⟩, if_pos (by omega)]
                    · rw [if_neg (fun y => e y.2), k72 g hg]
                      by_cases z2 : g < h
                      · rw [if_pos z2, if_pos (by omega)]
                      · rw [if_neg z2, if_neg (by omega)]
                simp +decide (disch := omega) only [↓EQA, CEA, LIA, NIA, Nat.lt_irrefl, Option.toList_some, Option.toList_none, List.cons_append, List.nil_append, true_and, and_true, Nat.reduceAdd, Nat.reduceLeDiff, not_true_eq_false, not_false_eq_true, if_true, if_false, ite_true, ite_false, Int32.reduceLT, ite_not, eq_self, or_true, true_or, ite_self, reduceIte, B_X11_racesWhy_J3, hy, hh4, t1, t2, eT]
                generalize fld (fun h a => if TO T (VC (RRain (RS D) (rainN T x j))) h < a then TO T (VC (RRain (RS D) (rainN T x j))) h else a) h (fld (lsR T (RS D) x) j 1000000) = a at efl ⊢
                rw [efl] at go
                by_cases q : TO T (VC (RRain (RS D) (rainN T x j))) h < a
                · rw [if_pos q] at go ⊢
                  simp +decide (disch := omega) only [↓EQA, CEA, LIA, NIA, Nat.lt_irrefl, Option.toList_some, Option.toList_none, List.cons_append, List.nil_append, true_and, and_true, Nat.reduceAdd, Nat.reduceLeDiff, not_true_eq_false, not_false_eq_true, if_true, if_false, ite_true, ite_false, Int32.reduceLT, ite_not, eq_self, or_true, true_or, ite_self, reduceIte, B_X11_racesWhy_J4]
                  exact go _ rfl
                · rw [if_neg q] at go ⊢
                  simp +decide (disch := omega) only [↓EQA, CEA, LIA, NIA, Nat.lt_irrefl, Option.toList_some, Option.toList_none, List.cons_append, List.nil_append, true_and, and_true, Nat.reduceAdd, Nat.reduceLeDiff, not_true_eq_false, not_false_eq_true, if_true, if_false, ite_true, ite_false, Int32.reduceLT, ite_not, eq_self, or_true, true_or, ite_self, reduceIte, B_X11_racesWhy_J4]
                  exact go _ rfl
              refine S_X11_racesWhy_L4 _ _ _ ?_
              simp +decide (disch := omega) only [↓EQA, CEA, LIA, NIA, Nat.lt_irrefl, Option.toList_some, Option.toList_none, List.cons_append, List.nil_append, true_and, and_true, Nat.reduceAdd, Nat.reduceLeDiff, not_true_eq_false, not_false_eq_true, if_true, if_false, ite_true, ite_false, Int32.reduceLT, ite_not, eq_self, or_true, true_or, ite_self, reduceIte, B_X11_racesWhy_L4, hM5.1, hZ.1, hh1, hh4, e72, eR]
              have ew : cnt (wonF T (RS D) x h) (j + 1) = if wonF T (RS D) x h j = true then cnt (wonF T (RS D) x h) j + 1 else cnt (wonF T (RS D) x h) j := rfl
              have ewf : wonF T (RS D) x h j = decide (rkX (TO T (VC (RRain (RS D) (rainN T x j)))) (nH T) (VC (RRain (RS D) (rainN T x j))).2.2.2.1 h = 0) := rfl
              by_cases q : rkX (TO T (VC (RRain (RS D) (rainN T x j)))) (nH T) (VC (RRain (RS D) (rainN T x j))).2.2.2.1 h = 0
              · rw [ewf, if_pos (decide_eq_true q)] at ew
                rw [if_pos q]
                exact nxt 1 (by rw [ew]; exact nI_1 _)
              · rw [ewf, if_neg (by simpa using q)] at ew
                rw [if_neg q]
                exact nxt 0 (by rw [ew, Int32.add_zero])
          refine houses (nH T) 0 (by omega) w3 ha4 hS3 (fun g hg => ?_) ?_
          · rw [if_neg (Nat.not_lt_zero _), (ha3 72 g (by omega)).1, g72]; exact h72 g hg
          · rw [(ha3 59 41 (by omega)).1, g41]; exact h41
        | succ m' ihm =>
          intro k hk w2 ha2 g72 g41 g22
          have hk1 : k < nB T := by omega
          have hM2 := hM.ag ha2 (fun i z => by omega)
          have es : drF T (sdI T x j) (k + 1) = drS T k (drF T (sdI T x j) k) := rfl
          generalize drF T (sdI T x j) k = a at g22 es ⊢
          refine S_X11_racesWhy_L3 _ _ _ ?_
          simp +decide (disch := omega) only [↓EQA, CEA, LIA, NIA, Nat.lt_irrefl, Option.toList_some, Option.toList_none, List.cons_append, List.nil_append, true_and, and_true, Nat.reduceAdd, Nat.reduceLeDiff, not_true_eq_false, not_false_eq_true, if_true, if_false, ite_true, ite_false, Int32.reduceLT, ite_not, eq_self, or_true, true_or, ite_self, reduceIte, B_X11_racesWhy_L3, hM2.1, hZ.1, hk1, g22]
          by_cases q : (75 * a.1 + 74 - (75 * a.1 + 74) / 65537 * 65537) - (75 * a.1 + 74 - (75 * a.1 + 74) / 65537 * 65537) / 100 * 100 < T 0 3
          · rw [if_pos q]
            simp +decide (disch := omega) only [↓EQA, CEA, LIA, NIA, Nat.lt_irrefl, Option.toList_some, Option.toList_none, List.cons_append, List.nil_append, true_and, and_true, Nat.reduceAdd, Nat.reduceLeDiff, not_true_eq_false, not_false_eq_true, if_true, if_false, ite_true, ite_false, Int32.reduceLT, ite_not, eq_self, or_true, true_or, ite_self, reduceIte, B_X11_racesWhy_J2]
            have := ihm (k + 1) (by omega) (wI w2 59 22 (a.2 ||| 1 <<< (nI k &&& 31))) (ha2.wI (Or.inr (Or.inr (Or.inr ⟨rfl, Or.inl rfl⟩)))) g72 (by rw [← g41]; simp [wI]) (by rw [es]; simp [wI, drS, q])
            rw [es] at this
            exact this
          · rw [if_neg q]
            simp +decide (disch := omega) only [↓EQA, CEA, LIA, NIA, Nat.lt_irrefl, Option.toList_some, Option.toList_none, List.cons_append, List.nil_append, true_and, and_true, Nat.reduceAdd, Nat.reduceLeDiff, not_true_eq_false, not_false_eq_true, if_true, if_false, ite_true, ite_false, Int32.reduceLT, ite_not, eq_self, or_true, true_or, ite_self, reduceIte, B_X11_racesWhy_J2, Int32.or_zero]
            have := ihm (k + 1) (by omega) (wI w2 59 22 a.2) (ha2.wI (Or.inr (Or.inr (Or.inr ⟨rfl, Or.inl rfl⟩)))) g72 (by rw [← g41]; simp [wI]) (by rw [es]; simp [wI, drS, q])
            rw [es] at this
            exact this
      exact rain (nB T) 0 (by omega) (wI w1 59 22 0) (ha.wI (Or.inr (Or.inr (Or.inr ⟨rfl, Or.inl rfl⟩)))) rfl (by simp [wI]) (by simp [wI]; rfl)
  have clr : ∀ m h, h + m = 4 → ∀ w1, Ag RaM w w1 → (∀ g, g < h → w1.1 72 g = 0) → Wp m_X11_racesWhy (d + 6) 0 Q 33 [.ref 59, .int 1, .int x, .int (nI N), .int lo, .int (nI h), .null, .null] [] w1 := by
    intro m
    induction m with
    | zero =>
      intro h hh w1 ha k72
      have : h = 4 := by omega
      subst this
      refine S_X11_racesWhy_L1 _ _ _ ?_
      simp +decide (disch := omega) only [↓EQA, CEA, LIA, NIA, Nat.lt_irrefl, Option.toList_some, Option.toList_none, List.cons_append, List.nil_append, true_and, and_true, Nat.reduceAdd, Nat.reduceLeDiff, not_true_eq_false, not_false_eq_true, if_true, if_false, ite_true, ite_false, Int32.reduceLT, ite_not, eq_self, or_true, true_or, ite_self, reduceIte, B_X11_racesWhy_L1]
      exact races N 0 (by omega) _ .null (ha.wI (Or.inr (Or.inr (Or.inr ⟨rfl, Or.inr (Or.inr rfl)⟩)))) (fun g hg => by rw [wI_ne (by decide)]; exact k72 g (by omega)) (by simp [wI]; rfl)
    | succ m ih =>
      intro h hh w1 ha k72
      have hh4 : h < 4 := by omega
      refine S_X11_racesWhy_L1 _ _ _ ?_
      simp +decide (disch := omega) only [↓EQA, CEA, LIA, NIA, Nat.lt_irrefl, Option.toList_some, Option.toList_none, List.cons_append, List.nil_append, true_and, and_true, Nat.reduceAdd, Nat.reduceLeDiff, not_true_eq_false, not_false_eq_true, if_true, if_false, ite_true, ite_false, Int32.reduceLT, ite_not, eq_self, or_true, true_or, ite_self, reduceIte, B_X11_racesWhy_L1, hh4]
      refine ih (h + 1) (by omega) _ (ha.wI (Or.inr (Or.inr (Or.inl rfl)))) fun g hg => ?_
      rw [wI_get]
      by_cases e : g = h
      · subst e; rw [if_pos ⟨rfl, rfl⟩]
      · rw [if_neg (fun z => e z.2)]; exact k72 g (by omega)
  exact clr 4 0 (by omega) w Ag.rf fun g hg => absurd hg (Nat.not_lt_zero _)
end MRain2
