/-! ===== led, pairwise ===== -/
section PLed
variable {d : Nat} {w : Mem} {Q : Option Value → Mem → Prop} {T : Tv} {D F : Nat → Nat} {i : Int32}
theorem wL_me {k p : Nat} {v : Int64} : (wL w k p v).2 k p = v := if_pos ⟨rfl, rfl⟩
def zrD (D : Nat → Nat) (l : Nat) : Bool := decide (D l = 0)
def pLd (D : Nat → Nat) (i : Int32) (l : Nat) : Bool := zrD D l && decide (nI (cnt (zrD D) l) = i)
theorem t_ledX (hT : Told w T) (hZ : SZ T) (hC : RC w 16 17 (RS D)) (hD : DOK D) (hDH : DH T D) : ClX (d + 7) [.ref 0, .int i] w (fun x w' => w' = w ∧ frst (pLd D i) (nL T) < nL T ∧ x = nI (frst (pLd D i) (nL T))) (fun w' => w' = w ∧ frst (pLd D i) (nL T) = nL T) := by
  have hl5 : nL T ≤ 5 := hZ.2.2.2.1
  have k7 : w.1 3 7 = nI (nL T) := by rw [hT.1]; exact hZ.1.2.2.1
  have ep : ∀ l, l < 5 → (plI (RS D) (nH T) l = -2) = (D l = 0) := by
    intro l hl
    have hdl := hD.1 l hl
    rw [plI_D hZ hDH hl]
    unfold plD
    by_cases z : D l = 0
    · rw [if_pos z]; exact propext ⟨fun _ => z, fun _ => rfl⟩
    · rw [if_neg z, ngNe (by omega) (by decide)]; exact propext ⟨fun y => y.elim, fun y => absurd y z⟩
  refine ClX_of (d := d + 6) (by omega) (Nat.le_of_ble_eq_true rfl) ?_
  refine S_X10_led_0 _ _ _ ?_
  simp +decide (disch := omega) only [↓EQA, CEA, LIA, NIA, Nat.lt_irrefl, Option.toList_some, Option.toList_none, List.cons_append, List.nil_append, true_and, and_true, Nat.reduceAdd, Nat.reduceLeDiff, not_true_eq_false, not_false_eq_true, if_true, if_false, ite_true, ite_false, Int32.reduceLT, ite_not, eq_self, or_true, true_or, ite_self, reduceIte, B_X10_led_0]
  refine frst_loop (p := pLd D i) (n := nL T) (fun l => Wp (m_X10_led (fun w' => w' = w ∧ frst (pLd D i) (nL T) = nL T)) (d + 6) 1 (fun r w' => ∃ x, r = some (.int x) ∧ w' = w ∧ frst (pLd D i) (nL T) < nL T ∧ x = nI (frst (pLd D i) (nL T))) 4 [.ref 0, .int i, .int (nI (cnt (zrD D) l)), .int (nI l)] [] w) ?_ ?_ ?_
  · intro l hl hp he
    have hl5' : l < 5 := by omega
    unfold pLd at hp
    simp only [Bool.and_eq_true, decide_eq_true_eq] at hp
    have h0 : D l = 0 := by simpa [zrD] using hp.1
    refine S_X10_led_L1 (Nat.le_refl 1) _ _ _ ?_
    simp +decide (disch := omega) only [↓EQA, CEA, LIA, NIA, Nat.lt_irrefl, Option.toList_some, Option.toList_none, List.cons_append, List.nil_append, true_and, and_true, Nat.reduceAdd, Nat.reduceLeDiff, not_true_eq_false, not_false_eq_true, if_true, if_false, ite_true, ite_false, Int32.reduceLT, ite_not, eq_self, or_true, true_or, ite_self, reduceIte, B_X10_led_L1, k7, hl]
    refine t_placeOf RK_now hT hZ hC hD.rok hl5' ?_
    simp +decide (disch := omega) only [↓EQA, CEA, LIA, NIA, Nat.lt_irrefl, Option.toList_some, Option.toList_none, List.cons_append, List.nil_append, true_and, and_true, Nat.reduceAdd, Nat.reduceLeDiff, not_true_eq_false, not_false_eq_true, if_true, if_false, ite_true, ite_false, Int32.reduceLT, ite_not, eq_self, or_true, true_or, ite_self, reduceIte, ep l hl5', h0, hp.2]
    exact ⟨_, rfl, by rw [he]; exact hl, by rw [he]⟩
  · intro l hl hp hd9
    have hl5' : l < 5 := by omega
    refine S_X10_led_L1 (Nat.le_refl 1) _ _ _ ?_
    simp +decide (disch := omega) only [↓EQA, CEA, LIA, NIA, Nat.lt_irrefl, Option.toList_some, Option.toList_none, List.cons_append, List.nil_append, true_and, and_true, Nat.reduceAdd, Nat.reduceLeDiff, not_true_eq_false, not_false_eq_true, if_true, if_false, ite_true, ite_false, Int32.reduceLT, ite_not, eq_self, or_true, true_or, ite_self, reduceIte, B_X10_led_L1, k7, hl]
    refine t_placeOf RK_now hT hZ hC hD.rok hl5' ?_
    by_cases h0 : D l = 0
    · have hz : zrD D l = true := by simpa [zrD] using h0
      have hi : ¬ nI (cnt (zrD D) l) = i := by
        unfold pLd at hp
        rw [hz] at hp
        simpa using hp
      rw [cnt_succ, if_pos hz] at hd9
      simp +decide (disch := omega) only [↓EQA, CEA, LIA, NIA, Nat.lt_irrefl, Option.toList_some, Option.toList_none, List.cons_append, List.nil_append, true_and, and_true, Nat.reduceAdd, Nat.reduceLeDiff, not_true_eq_false, not_false_eq_true, if_true, if_false, ite_true, ite_false, Int32.reduceLT, ite_not, eq_self, or_true, true_or, ite_self, reduceIte, ep l hl5', h0, hi, B_X10_led_J1]
      exact hd9
    · have hz : ¬ zrD D l = true := by simpa [zrD] using h0
      rw [cnt_succ, if_neg hz] at hd9
      simp +decide (disch := omega) only [↓EQA, CEA, LIA, NIA, Nat.lt_irrefl, Option.toList_some, Option.toList_none, List.cons_append, List.nil_append, true_and, and_true, Nat.reduceAdd, Nat.reduceLeDiff, not_true_eq_false, not_false_eq_true, if_true, if_false, ite_true, ite_false, Int32.reduceLT, ite_not, eq_self, or_true, true_or, ite_self, reduceIte, ep l hl5', h0, B_X10_led_J1]
      exact hd9
  · intro he
    refine S_X10_led_L1 (Nat.le_refl 1) _ _ _ ?_
    simp +decide (disch := omega) only [↓EQA, CEA, LIA, NIA, Nat.lt_irrefl, Option.toList_some, Option.toList_none, List.cons_append, List.nil_append, true_and, and_true, Nat.reduceAdd, Nat.reduceLeDiff, not_true_eq_false, not_false_eq_true, if_true, if_false, ite_true, ite_false, Int32.reduceLT, ite_not, eq_self, or_true, true_or, ite_self, reduceIte, B_X10_led_L1, k7]
    exact ⟨rfl, he⟩
theorem u_led (hM : IMd w T D F) (hZ : SZ T) (hP : PWT T D F) (hD : DOK D) (hQ1 : frst (pLd D i) (nL T) < nL T → Q (some (.int (nI (frst (pLd D i) (nL T))))) (wI w 59 0 0)) (hQ0 : frst (pLd D i) (nL T) = nL T → Q (some (.int 0)) (wI w 59 0 1)) : Cl (d + 2) m_X11_led [.ref 59, .int i] w Q := by
  have hl5 : nL T ≤ 5 := hZ.2.2.2.1
  refine Cl_of k_X11_led.1 (Nat.le_of_ble_eq_true rfl) (show Wp m_X11_led _ 0 _ 0 [.ref 59, .int i, .null, .null] [] _ from S_X11_led_0 _ _ _ ?_)
  simp +decide (disch := omega) only [↓EQA, CEA, LIA, NIA, Nat.lt_irrefl, Option.toList_some, Option.toList_none, List.cons_append, List.nil_append, true_and, and_true, Nat.reduceAdd, Nat.reduceLeDiff, not_true_eq_false, not_false_eq_true, if_true, if_false, ite_true, ite_false, Int32.reduceLT, ite_not, eq_self, or_true, true_or, ite_self, reduceIte, B_X11_led_0]
  by_cases h1 : 1 ≤ nH T
  · have k14 : w.1 59 14 = 1 := by rw [hM.2.2.2.2.1]; exact if_pos h1
    have k7 : w.1 62 7 = nI (nL T) := by rw [hM.1.1 7 (by decide)]; exact hZ.1.2.2.1
    refine frst_loop (p := pLd D i) (n := nL T) (fun l => Wp m_X11_led (d + 1) 0 Q 4 [.ref 59, .int i, .int (nI (cnt (zrD D) l)), .int (nI l)] [] w) ?_ ?_ ?_
    · intro l hl hp he
      have hl8 : l < 8 := by omega
      unfold pLd at hp
      simp only [Bool.and_eq_true, decide_eq_true_eq] at hp
      have h0 : D l = 0 := by simpa [zrD] using hp.1
      have kl : w.1 64 l = 0 := by rw [hM.2.2.1 l hl8, h0]; rfl
      rw [he] at hQ1
      refine S_X11_led_L1 _ _ _ ?_
      simp +decide (disch := omega) only [↓EQA, CEA, LIA, NIA, Nat.lt_irrefl, Option.toList_some, Option.toList_none, List.cons_append, List.nil_append, true_and, and_true, Nat.reduceAdd, Nat.reduceLeDiff, not_true_eq_false, not_false_eq_true, if_true, if_false, ite_true, ite_false, Int32.reduceLT, ite_not, eq_self, or_true, true_or, ite_self, reduceIte, B_X11_led_L1, k14, k7, hl, hl8, kl, hp.2]
      exact hQ1 hl
    · intro l hl hp hd9
      have hl8 : l < 8 := by omega
      have hdl := hD.1 l (by omega)
      have kl : w.1 64 l = nI (D l) := hM.2.2.1 l hl8
      have ee : (0 < nI (D l)) = (0 < D l) := lt_n (a := 0) (by decide) (by omega)
      refine S_X11_led_L1 _ _ _ ?_
      by_cases h0 : D l = 0
      · have hz : zrD D l = true := by simpa [zrD] using h0
        have hi : ¬ nI (cnt (zrD D) l) = i := by
          unfold pLd at hp
          rw [hz] at hp
          simpa using hp
        have h00 : ¬ 0 < D l := by omega
        rw [cnt_succ, if_pos hz] at hd9
        simp +decide (disch := omega) only [↓EQA, CEA, LIA, NIA, Nat.lt_irrefl, Option.toList_some, Option.toList_none, List.cons_append, List.nil_append, true_and, and_true, Nat.reduceAdd, Nat.reduceLeDiff, not_true_eq_false, not_false_eq_true, if_true, if_false, ite_true, ite_false, Int32.reduceLT, ite_not, eq_self, or_true, true_or, ite_self, reduceIte, B_X11_led_L1, k14, k7, hl, hl8, kl, ee, h00, hi, B_X11_led_J1]
        exact hd9
      · have hz : ¬ zrD D l = true := by simpa [zrD] using h0
        have h00 : 0 < D l := by omega
        rw [cnt_succ, if_neg hz] at hd9
        simp +decide (disch := omega) only [↓EQA, CEA, LIA, NIA, Nat.lt_irrefl, Option.toList_some, Option.toList_none, List.cons_append, List.nil_append, true_and, and_true, Nat.reduceAdd, Nat.reduceLeDiff, not_true_eq_false, not_false_eq_true, if_true, if_false, ite_true, ite_false, Int32.reduceLT, ite_not, eq_self, or_true, true_or, ite_self, reduceIte, B_X11_led_L1, k14, k7, hl, hl8, kl, ee, h00, B_X11_led_J1]
        exact hd9
    · intro he
      refine S_X11_led_L1 _ _ _ ?_
      simp +decide (disch := omega) only [↓EQA, CEA, LIA, NIA, Nat.lt_irrefl, Option.toList_some, Option.toList_none, List.cons_append, List.nil_append, true_and, and_true, Nat.reduceAdd, Nat.reduceLeDiff, not_true_eq_false, not_false_eq_true, if_true, if_false, ite_true, ite_false, Int32.reduceLT, ite_not, eq_self, or_true, true_or, ite_self, reduceIte, B_X11_led_L1, k14, k7, B_X11_led_J2]
      exact hQ0 he
  · have k14 : w.1 59 14 = 0 := by rw [hM.2.2.2.2.1]; exact if_neg h1
    have n0 : nL T = 0 := (hP.none h1).1
    refine S_X11_led_L1 _ _ _ ?_
    simp +decide (disch := omega) only [↓EQA, CEA, LIA, NIA, Nat.lt_irrefl, Option.toList_some, Option.toList_none, List.cons_append, List.nil_append, true_and, and_true, Nat.reduceAdd, Nat.reduceLeDiff, not_true_eq_false, not_false_eq_true, if_true, if_false, ite_true, ite_false, Int32.reduceLT, ite_not, eq_self, or_true, true_or, ite_self, reduceIte, B_X11_led_L1, k14, B_X11_led_J2]
    refine hQ0 ?_
    rw [n0]
    rfl
theorem IV.keep {w2 : Mem} (hI : IV w T D F) (ha : Ag (fun j i => j = 73 ∨ (j = 59 ∧ i = 0)) w w2) : IV w2 T D F := by
  obtain ⟨hZ, hP, ⟨c1, c2, c3⟩, ⟨m1, m2, m3, m4, m5, m6⟩, ⟨n, m, A, B, k1, k2, k3, k4, k5, k6, k7, k8, k9⟩, ⟨t, t1, t2, t3, t4⟩, f1, f2, f3⟩ := hI
  have g : ∀ j i, ¬ (j = 73 ∨ (j = 59 ∧ i = 0)) → w2.1 j i = w.1 j i := fun j i z => (ha j i z).1
  have gL : ∀ j i, ¬ (j = 73 ∨ (j = 59 ∧ i = 0)) → w2.2 j i = w.2 j i := fun j i z => (ha j i z).2
  exact ⟨hZ, hP, ⟨c1.ag ha (fun a b p q z => by omega), c2.ag ha (fun i z => by omega) (fun i z => by omega), c3.ag ha (fun i _ z => by omega) (fun i z => by omega)⟩, ⟨m1.ag ha (fun i z => by omega), m2.ag ha (fun i z => by omega), m3.ag ha (fun i z => by omega), by rw [g 59 22 (by omega)]; exact m4, by rw [g 59 14 (by omega)]; exact m5, fun l hl => by rw [g 62 _ (by omega)]; exact m6 l hl⟩, ⟨n, m, A, B, k1, k2, by rw [g 56 3 (by omega)]; exact k3, by rw [g 56 4 (by omega)]; exact k4, by rw [g 59 20 (by omega)]; exact k5, by rw [g 59 21 (by omega)]; exact k6, fun i hi => ⟨(k7 i hi).1, by rw [gL 57 i (by omega)]; exact (k7 i hi).2.1, fun q hq => by rw [g 65 _ (by omega)]; exact (k7 i hi).2.2 q hq⟩, fun i hi => ⟨(k8 i hi).1, by rw [gL 58 i (by omega)]; exact (k8 i hi).2.1, fun q hq => by rw [g 66 _ (by omega)]; exact (k8 i hi).2.2 q hq⟩, k9⟩, ⟨t, t1, by rw [g 0 1 (by omega)]; exact t2, by rw [g 59 2 (by omega)]; exact t3, fun i hi => by rw [g 60 i (by omega), g 1 i (by omega)]; exact t4 i hi⟩, by rw [g 0 11 (by omega), g 59 9 (by omega)]; exact f1, by rw [g 0 13 (by omega), g 59 11 (by omega)]; exact f2, fun z => by rw [g 0 12 (by omega), g 59 10 (by omega)]; exact f3 (by rw [g 0 13 (by omega)] at z; exact z)⟩
theorem PWT.dok (hP : PWT T D F) : DOK D ∧ DH T D := by
  rcases hP with ⟨h1, h2⟩ | ⟨h1, h2, h3⟩
  · exact ⟨h2.2.2.1, h2.2.2.2.1⟩
  · exact ⟨⟨fun l hl => by rw [h3 l (by omega)]; decide, by rw [h3 5 (by decide)]; decide, by rw [h3 6 (by decide)]; decide, by rw [h3 7 (by decide)]; decide⟩, fun l hl => by rw [h3 l (by omega)]; exact Nat.zero_le _⟩
theorem p_led (hI : IV w T D F) (hA : ∀ (x : Int32) w1, w1.2 73 0 = x.toInt64 → (∀ K : Option Value → Mem → Prop, (∀ w2, INV w2 → w2.1 59 0 = 0 → w2.2 73 0 = x.toInt64 → K (some (.int x)) w2) → Cl (d + 20) m_X11_led [.ref 59, .int i] w1 K) → Q (some (.int 0)) w1) (hB : ∀ w1, (∀ K : Option Value → Mem → Prop, (∀ w2 y, INV w2 → w2.1 59 0 = 1 → K (some (.int y)) w2) → Cl (d + 20) m_X11_led [.ref 59, .int i] w1 K) → Q (some (.int 1)) w1) : LedC (d + 20) [.ref 0, .int i, .ref 73] w Q := by
  obtain ⟨hZ, hP, ⟨c1, c2, c3⟩, hM, -⟩ := id hI
  have hDD := hP.dok
  refine led_of (d := d + 19) (t_ledX (d := d + 12) c1 hZ c2 hDD.1 hDD.2) (fun x w' h => ?_) (fun w' h => ?_)
  · obtain ⟨rfl, hk, rfl⟩ := h
    have ha : Ag (fun j i => j = 73 ∨ (j = 59 ∧ i = 0)) w' (wL w' 73 0 (nI (frst (pLd D i) (nL T))).toInt64) := Ag.rf.wL (Or.inl rfl)
    refine hA (nI (frst (pLd D i) (nL T))) _ wL_me fun K hK => ?_
    have hI1 := hI.keep ha
    refine Cl.mono (u_led (d := d + 18) hI1.2.2.2.1 hZ hP hDD.1 (fun _ => ?_) (fun z => by omega)) (by omega)
    have ha2 : Ag (fun j i => j = 73 ∨ (j = 59 ∧ i = 0)) (wL w' 73 0 (nI (frst (pLd D i) (nL T))).toInt64) (wI (wL w' 73 0 (nI (frst (pLd D i) (nL T))).toInt64) 59 0 0) := Ag.rf.wI (Or.inr ⟨rfl, rfl⟩)
    exact hK _ ⟨T, D, F, hI1.keep ha2⟩ (by simp [wI]) (show (wL w' 73 0 (nI (frst (pLd D i) (nL T))).toInt64).2 73 0 = _ from wL_me)
  · obtain ⟨rfl, hk⟩ := h
    refine hB w' fun K hK => ?_
    refine Cl.mono (u_led (d := d + 18) hM hZ hP hDD.1 (fun z => by omega) (fun _ => ?_)) (by omega)
    exact hK _ _ ⟨T, D, F, hI.keep (Ag.rf.wI (Or.inr ⟨rfl, rfl⟩))⟩ (by simp [wI])
end PLed
