/-! ===== regatta ===== -/
def tln : Nat → Nat
  | 0 => 11
  | 1 => 4
  | 2 => 4
  | 3 => 4
  | 4 => 4
  | 5 => 4
  | 6 => 5
  | 7 => 5
  | 8 => 6
  | 9 => 4
  | _ => 5
/-- two that tell the same -/
abbrev TEq (T T' : Tv) : Prop := ∀ j i, j ≤ 12 → i < tln j → T' j i = T j i
section PRegatta
variable {d : Nat} {w : Mem} {Q : Option Value → Mem → Prop} {B : Nat → Nat} {n c p : Nat} {N : Nat → Nm4} {T T' : Tv} {D F : Nat → Nat} {S : St5} {G : Nat → Int32} {x : Int32}
theorem t_toldBecome (hQ : ∀ w', Ag (fun j _ => 3 ≤ j ∧ j ≤ 15) w w' → (∀ j i, j ≤ 12 → i < tln j → w'.1 (3 + j) i = w.1 (29 + j) i) → Q none w') : Cl (d + 1) m_X9_become [.ref 2, .ref 28] w Q := by
  refine Cl_of k_X9_become.1 (Nat.le_of_ble_eq_true rfl) (show Wp m_X9_become _ 0 _ 0 [.ref 2, .ref 28] [] _ from S_X9_become_0 _ _ _ ?_)
  simp +decide (disch := omega) only [↓EQA, CEA, LIA, NIA, Nat.lt_irrefl, Option.toList_some, Option.toList_none, List.cons_append, List.nil_append, true_and, and_true, Nat.reduceAdd, Nat.reduceLeDiff, not_true_eq_false, not_false_eq_true, if_true, if_false, ite_true, ite_false, Int32.reduceLT, ite_not, eq_self, or_true, true_or, ite_self, reduceIte, B_X9_become_0]
  refine ⟨⟨11, 11, rfl, rfl, by decide, by decide, by decide, by decide, by decide⟩, ⟨4, 4, rfl, rfl, by decide, by decide, by decide, by decide, by decide⟩, ⟨4, 4, rfl, rfl, by decide, by decide, by decide, by decide, by decide⟩, ⟨4, 4, rfl, rfl, by decide, by decide, by decide, by decide, by decide⟩, ⟨4, 4, rfl, rfl, by decide, by decide, by decide, by decide, by decide⟩, ⟨4, 4, rfl, rfl, by decide, by decide, by decide, by decide, by decide⟩, ⟨5, 5, rfl, rfl, by decide, by decide, by decide, by decide, by decide⟩, ⟨5, 5, rfl, rfl, by decide, by decide, by decide, by decide, by decide⟩, ⟨6, 6, rfl, rfl, by decide, by decide, by decide, by decide, by decide⟩, ⟨4, 4, rfl, rfl, by decide, by decide, by decide, by decide, by decide⟩, ⟨5, 5, rfl, rfl, by decide, by decide, by decide, by decide, by decide⟩, ⟨5, 5, rfl, rfl, by decide, by decide, by decide, by decide, by decide⟩, ⟨5, 5, rfl, rfl, by decide, by decide, by decide, by decide, by decide⟩, ?_⟩
  refine hQ _ (((((((((((((Ag.rf.cpI (fun i _ _ => ⟨by decide, by decide⟩)).cpI (fun i _ _ => ⟨by decide, by decide⟩)).cpI (fun i _ _ => ⟨by decide, by decide⟩)).cpI (fun i _ _ => ⟨by decide, by decide⟩)).cpI (fun i _ _ => ⟨by decide, by decide⟩)).cpI (fun i _ _ => ⟨by decide, by decide⟩)).cpI (fun i _ _ => ⟨by decide, by decide⟩)).cpI (fun i _ _ => ⟨by decide, by decide⟩)).cpI (fun i _ _ => ⟨by decide, by decide⟩)).cpI (fun i _ _ => ⟨by decide, by decide⟩)).cpI (fun i _ _ => ⟨by decide, by decide⟩)).cpI (fun i _ _ => ⟨by decide, by decide⟩)).cpI (fun i _ _ => ⟨by decide, by decide⟩)) ?_
  intro j i hj hi
  rcases (by omega : j = 0 ∨ j = 1 ∨ j = 2 ∨ j = 3 ∨ j = 4 ∨ j = 5 ∨ j = 6 ∨ j = 7 ∨ j = 8 ∨ j = 9 ∨ j = 10 ∨ j = 11 ∨ j = 12) with rfl | rfl | rfl | rfl | rfl | rfl | rfl | rfl | rfl | rfl | rfl | rfl | rfl <;> (have hi' := hi; simp only [tln] at hi'; simp [cpI_out, cpI, hi'])
/-- what the text tells, told -/
theorem told_new (hE : TEq T T') (hV : RDV B n T D F N c) (hH : nH T ≠ 0) (hg : GRl T D F G) (h62 : ∀ i, i < 74 → w.1 62 i = G i) : nH T' = nH T ∧ SZ T' ∧ PU T' D F ∧ ToldM w T' ∧ ToF w T' F ∧ ∀ l, l < nL T' → FO T' l = w.1 62 (35 + 4 * l + 3) := by
  obtain ⟨hZ, hW, hK, hD, hP, hF⟩ := hV
  obtain ⟨⟨z5, z6, z7, z8, z9, z10⟩, b1, b2, b3, b4, b5, b6⟩ := id hZ
  obtain ⟨g1, g2, g3, g4, g5, g6, g7⟩ := hg
  have e0 : ∀ i, i ≤ 10 → T' 0 i = T 0 i := fun i hi => hE 0 i (by decide) (by show i < 11; omega)
  have nb : nB T' = nB T := by unfold nB; rw [e0 5 (by decide)]
  have nh : nH T' = nH T := by unfold nH; rw [e0 6 (by decide)]
  have nl : nL T' = nL T := by unfold nL; rw [e0 7 (by decide)]
  have nf : nF T' = nF T := by unfold nF; rw [e0 8 (by decide)]
  have np : nP T' = nP T := by unfold nP; rw [e0 9 (by decide)]
  have ns : nS T' = nS T := by unfold nS; rw [e0 10 (by decide)]
  have d7 : D 7 ≠ 0 := fun z => hH (by unfold nH; rw [hW.2.1 z 6 (by decide)]; rfl)
  have w4 := hW.2.2 d7
  have r1 : ∀ i, i < 4 → T' 1 i = T 1 i := fun i hi => hE 1 i (by decide) hi
  have r2 : ∀ i, i < 4 → T' 2 i = T 2 i := fun i hi => hE 2 i (by decide) hi
  have r3 : ∀ i, i < 4 → T' 3 i = T 3 i := fun i hi => hE 3 i (by decide) hi
  have r4 : ∀ i, i < 4 → T' 4 i = T 4 i := fun i hi => hE 4 i (by decide) hi
  have r5 : ∀ i, i < 4 → T' 5 i = T 5 i := fun i hi => hE 5 i (by decide) hi
  have r6 : ∀ i, i < 5 → T' 6 i = T 6 i := fun i hi => hE 6 i (by decide) hi
  have r7 : ∀ i, i < 5 → T' 7 i = T 7 i := fun i hi => hE 7 i (by decide) hi
  have r8 : ∀ i, i < 6 → T' 8 i = T 8 i := fun i hi => hE 8 i (by decide) hi
  have r9 : ∀ i, i < 4 → T' 9 i = T 9 i := fun i hi => hE 9 i (by decide) hi
  have r10 : ∀ i, i < 5 → T' 10 i = T 10 i := fun i hi => hE 10 i (by decide) hi
  have r11 : ∀ i, i < 5 → T' 11 i = T 11 i := fun i hi => hE 11 i (by decide) hi
  have r12 : ∀ i, i < 5 → T' 12 i = T 12 i := fun i hi => hE 12 i (by decide) hi
  have sz : SZ T' := ⟨⟨by rw [e0 5 (by decide), nb]; exact z5, by rw [e0 6 (by decide), nh]; exact z6, by rw [e0 7 (by decide), nl]; exact z7, by rw [e0 8 (by decide), nf]; exact z8, by rw [e0 9 (by decide), np]; exact z9, by rw [e0 10 (by decide), ns]; exact z10⟩, by omega, by omega, by omega, by omega, by omega, by omega⟩
  have fo : ∀ l, FO T' l = FO T l := fun l => by
    unfold FO
    rw [nf, fld_congr (g := fun i a => if bb (T 8 i) (nI l) then a ||| T 8 i else a) (fun j a hj => by rw [r8 j (by omega)]) 0]
  have d20 : D 7 ≤ 20 := hD.1.2.2.2
  refine ⟨nh, sz, ⟨sz, ⟨⟨D 7, by rw [e0 0 (by decide)]; exact hW.1, by omega, d20⟩, by rw [e0 1 (by decide)]; exact w4.1, by rw [e0 2 (by decide)]; exact w4.2.1, by rw [e0 3 (by decide)]; exact w4.2.2.1, by rw [e0 4 (by decide)]; exact w4.2.2.2, fun k hk => by rw [r1 k (by omega), r2 k (by omega)]; exact hK.1 k (by omega), fun k hk => by rw [r3 k (by omega), r4 k (by omega), r5 k (by omega)]; exact hK.2.1 k (by omega), fun k hk => by rw [r6 k (by omega), r7 k (by omega)]; exact hK.2.2.1 k (by omega), fun k hk => by rw [r9 k (by omega)]; exact hK.2.2.2.1 k (by omega), fun k hk => by rw [r10 k (by omega), r11 k (by omega), r12 k (by omega), nh, nb]; exact hK.2.2.2.2 k (by omega), by omega⟩, hD.1, fun l hl => by rw [nh]; exact hD.2.1 l hl, fun l h1 h2 => hD.2.2.1 l (by omega) h2, by omega, ?_⟩, ⟨fun i hi => by rw [h62 i (by omega), e0 i hi]; exact g1 i hi, fun k hk => by rw [h62 _ (by omega), h62 _ (by omega), r1 k (by omega), r2 k (by omega)]; exact g2 k (by omega), fun k hk => ?_, fun k hk => by rw [h62 _ (by omega), h62 _ (by omega), r6 k (by omega), r7 k (by omega)]; exact g4 k (by omega), fun k hk => by rw [h62 _ (by omega), r9 k (by omega)]; exact g6 k (by omega), fun k hk => by rw [h62 _ (by omega), h62 _ (by omega), h62 _ (by omega), r10 k (by omega), r11 k (by omega), r12 k (by omega)]; exact g7 k (by omega)⟩, fun l hl => ⟨by rw [h62 _ (by omega)]; exact (g5 l (by omega)).2, (hF.2.1 l (by omega)).1⟩, fun l hl => ?_⟩
  · obtain ⟨A, C, f1, f2⟩ := hF.1
    refine ⟨A, C, fun i hi => ?_, fun P => by rw [nf, nl]; exact f2 P⟩
    rw [nl, r8 i (by omega)]
    exact f1 i (by omega)
  · have := g3 k (by omega)
    rw [h62 _ (by omega), h62 _ (by omega), h62 _ (by omega), r3 k (by omega), r4 k (by omega), r5 k (by omega)]
    exact ⟨this.1, this.2.2.1, this.2.2.2⟩
  · rw [fo, h62 _ (by omega), (g5 l (by omega)).2]
    exact (hF.2.1 l (by omega)).2.choose_spec.2.2
theorem p_regatta (hI : IV w T D F) : PRI (d + 20) m_X10_regatta m_X11_regatta [.ref 0, .int x] [.ref 59, .int x] w := by
  obtain ⟨hZ, hP, ⟨c1, c2, c3⟩, ⟨m1, m2, m3, m4, m5, m6⟩, ⟨kn, km, A, C, k1, k2, k3, k4, k5, k6, k7, k8, k9⟩, ⟨t, t1, t2, t3, t4⟩, f1, f2, f3⟩ := id hI
  intro Q hQ
  obtain ⟨B, hB, hb60, hb1⟩ : ∃ B : Nat → Nat, (∀ i, B i < 256) ∧ (∀ i, i < t → w.1 60 i = nI (B i)) ∧ ∀ i, i < t → w.1 1 i = sbt (B i) := by
    refine ⟨fun i => (w.1 60 i).toNatClampNeg % 256, fun i => Nat.mod_lt _ (by decide), fun i hi => ?_, fun i hi => ?_⟩
    · obtain ⟨b, h1, h2, h3⟩ := t4 i hi
      show _ = nI ((w.1 60 i).toNatClampNeg % 256)
      rw [h2, tn (by omega), Nat.mod_eq_of_lt h1]
    · obtain ⟨b, h1, h2, h3⟩ := t4 i hi
      show _ = sbt ((w.1 60 i).toNatClampNeg % 256)
      rw [h2, tn (by omega), Nat.mod_eq_of_lt h1]
      exact h3
  -- refused
  have bad : (x < 0 ∨ nI t < x) → Q (some (.int (-1))) (wI w 0 13 2) := by
    intro hx
    have a1 : Ag (fun j i => j = 0 ∧ i = 13) w (wI w 0 13 2) := Ag.rf.wI ⟨rfl, rfl⟩
    refine hQ (-1) _ fun K hK => ?_
    have g2 : ∀ y z, (wI (wI (wI w 0 13 2) 59 0 y) 59 11 z).1 59 2 = nI t := fun y z => by rw [← t3]; simp [wI]
    refine Cl_of k_X11_regatta.1 (Nat.le_of_ble_eq_true rfl) (show Wp m_X11_regatta _ 0 _ 0 [.ref 59, .int x, .null] [] _ from S_X11_regatta_0 _ _ _ ?_)
    simp +decide (disch := omega) only [↓EQA, CEA, LIA, NIA, Nat.lt_irrefl, Option.toList_some, Option.toList_none, List.cons_append, List.nil_append, true_and, and_true, Nat.reduceAdd, Nat.reduceLeDiff, not_true_eq_false, not_false_eq_true, if_true, if_false, ite_true, ite_false, Int32.reduceLT, ite_not, eq_self, or_true, true_or, ite_self, reduceIte, B_X11_regatta_0]
    refine u_good ?_
    simp +decide (disch := omega) only [↓EQA, CEA, LIA, NIA, Nat.lt_irrefl, Option.toList_some, Option.toList_none, List.cons_append, List.nil_append, true_and, and_true, Nat.reduceAdd, Nat.reduceLeDiff, not_true_eq_false, not_false_eq_true, if_true, if_false, ite_true, ite_false, Int32.reduceLT, ite_not, eq_self, or_true, true_or, ite_self, reduceIte, g2]
    refine u_in ?_
    rw [show bI (¬ x < 0 ∧ ¬ nI t < x) = 0 from if_neg (fun z => hx.elim z.1 z.2)]
    simp +decide (disch := omega) only [↓EQA, CEA, LIA, NIA, Nat.lt_irrefl, Option.toList_some, Option.toList_none, List.cons_append, List.nil_append, true_and, and_true, Nat.reduceAdd, Nat.reduceLeDiff, not_true_eq_false, not_false_eq_true, if_true, if_false, ite_true, ite_false, Int32.reduceLT, ite_not, eq_self, or_true, true_or, ite_self, reduceIte]
    refine u_no ?_
    simp +decide (disch := omega) only [↓EQA, CEA, LIA, NIA, Nat.lt_irrefl, Option.toList_some, Option.toList_none, List.cons_append, List.nil_append, true_and, and_true, Nat.reduceAdd, Nat.reduceLeDiff, not_true_eq_false, not_false_eq_true, if_true, if_false, ite_true, ite_false, Int32.reduceLT, ite_not, eq_self, or_true, true_or, ite_self, reduceIte]
    have a2 : Ag (fun j i => j = 59 ∧ (i = 0 ∨ i = 11)) (wI w 0 13 2) (wI (wI (wI (wI w 0 13 2) 59 0 0) 59 11 0) 59 11 2) := ((Ag.rf.wI ⟨rfl, Or.inl rfl⟩).wI ⟨rfl, Or.inr rfl⟩).wI ⟨rfl, Or.inr rfl⟩
    refine hK _ (hI.ask (w1 := wI w 0 13 2) (a1.wk fun j i z => by omega) (c3.ag a1 (fun i _ z => by omega) (fun i z => by omega)) (a2.wk fun j i z => by omega) ?_ ?_ ?_)
    · rw [(a2 59 22 (by omega)).1, (a1 59 22 (by omega)).1]; exact m4
    · simp [wI]
    · rw [show (wI w 0 13 2).1 0 13 = 2 by simp [wI]]; decide
  refine Cl_of k_X10_regatta.1 (Nat.le_of_ble_eq_true rfl) (show Wp m_X10_regatta _ 0 _ 0 [.ref 0, .int x] [] _ from S_X10_regatta_0 _ _ _ ?_)
  simp +decide (disch := omega) only [↓EQA, CEA, LIA, NIA, Nat.lt_irrefl, Option.toList_some, Option.toList_none, List.cons_append, List.nil_append, true_and, and_true, Nat.reduceAdd, Nat.reduceLeDiff, not_true_eq_false, not_false_eq_true, if_true, if_false, ite_true, ite_false, Int32.reduceLT, ite_not, eq_self, or_true, true_or, ite_self, reduceIte, B_X10_regatta_0, t2]
  by_cases q1 : x < 0
  · rw [if_pos q1]
    simp +decide (disch := omega) only [↓EQA, CEA, LIA, NIA, Nat.lt_irrefl, Option.toList_some, Option.toList_none, List.cons_append, List.nil_append, true_and, and_true, Nat.reduceAdd, Nat.reduceLeDiff, not_true_eq_false, not_false_eq_true, if_true, if_false, ite_true, ite_false, Int32.reduceLT, ite_not, eq_self, or_true, true_or, ite_self, reduceIte, B_X10_regatta_J1]
    refine t_refused ?_
    simp +decide (disch := omega) only [↓EQA, CEA, LIA, NIA, Nat.lt_irrefl, Option.toList_some, Option.toList_none, List.cons_append, List.nil_append, true_and, and_true, Nat.reduceAdd, Nat.reduceLeDiff, not_true_eq_false, not_false_eq_true, if_true, if_false, ite_true, ite_false, Int32.reduceLT, ite_not, eq_self, or_true, true_or, ite_self, reduceIte]
    exact bad (Or.inl q1)
  · rw [if_neg q1]
    by_cases q2 : nI t < x
    · rw [if_pos q2]
      simp +decide (disch := omega) only [↓EQA, CEA, LIA, NIA, Nat.lt_irrefl, Option.toList_some, Option.toList_none, List.cons_append, List.nil_append, true_and, and_true, Nat.reduceAdd, Nat.reduceLeDiff, not_true_eq_false, not_false_eq_true, if_true, if_false, ite_true, ite_false, Int32.reduceLT, ite_not, eq_self, or_true, true_or, ite_self, reduceIte, B_X10_regatta_J1]
      refine t_refused ?_
      simp +decide (disch := omega) only [↓EQA, CEA, LIA, NIA, Nat.lt_irrefl, Option.toList_some, Option.toList_none, List.cons_append, List.nil_append, true_and, and_true, Nat.reduceAdd, Nat.reduceLeDiff, not_true_eq_false, not_false_eq_true, if_true, if_false, ite_true, ite_false, Int32.reduceLT, ite_not, eq_self, or_true, true_or, ite_self, reduceIte]
      exact bad (Or.inr q2)
    · rw [if_neg q2]
      obtain ⟨n, hn31, rfl⟩ := nI_of q1
      have hnt : n ≤ t := by
        rcases Nat.lt_or_ge t n with z | z
        · exact absurd (nI_lt z hn31) q2
        · exact z
      clear bad
      refine t_read (B := B) ⟨fun i hi => hb1 i (by omega), by omega, hB⟩ fun T0 h0 w1 ha1 hC1 hR1 => ?_
      -- the reference's side
      have ref : ∀ w2 K, Ag (fun j i => (j = 0 ∧ (i = 1 ∨ i = 11 ∨ i = 12 ∨ i = 13)) ∨ (3 ≤ j ∧ j ≤ 17) ∨ (22 ≤ j ∧ j ≤ 58)) w w2 → (∀ e, (enF (rdA B n T0)).2 = some e → ∀ w', Ag MfP w2 w' → w'.1 59 2 = 0 → w'.1 59 9 = nI e.1 → w'.1 59 10 = nI e.2 → w'.1 59 11 = 4 → K (some (.int (-1))) w') → ((enF (rdA B n T0)).2 = none → ∀ w', MgQ w2 w' (rdA B n T0).2 → K (some (.int (nI (nH (rdA B n T0).2.1)))) w') → Cl (d + 20) m_X11_regatta [.ref 59, .int (nI n)] w2 K := fun w2 K ha hK1 hK0 => u_regattaN (d := d + 9) (B := B) (tp := t) (fun i hi => by rw [(ha 60 i (by omega)).1]; exact hb60 i (by omega)) hB (by rw [(ha 59 2 (by omega)).1]; exact t3) hnt t1 h0 hK1 hK0
      cases hb : (enF (rdA B n T0)).2 with
      | some e =>
        rw [hb] at hC1
        obtain ⟨e5, e0⟩ := bl_no hC1.2.2.2.2
        obtain ⟨-, v1, v7, e6⟩ : w1.1 44 5 = nI e.1 ∧ 1 ≤ e.1 ∧ e.1 ≤ 7 ∧ w1.1 44 6 = nI e.2 := hC1.2.2.2.2
        have r5 : (wI w1 0 1 0).1 44 5 = nI e.1 := by rw [wI_ne (by decide)]; exact e5
        have r6 : (wI (wI w1 0 1 0) 0 11 (nI e.1)).1 44 6 = nI e.2 := by rw [wI_ne (by decide), wI_ne (by decide)]; exact e6
        have r11 : (wI (wI (wI w1 0 1 0) 0 11 (nI e.1)) 0 12 (nI e.2)).1 0 11 = nI e.1 := by simp [wI]
        simp +decide (disch := omega) only [↓EQA, CEA, LIA, NIA, Nat.lt_irrefl, Option.toList_some, Option.toList_none, List.cons_append, List.nil_append, true_and, and_true, Nat.reduceAdd, Nat.reduceLeDiff, not_true_eq_false, not_false_eq_true, if_true, if_false, ite_true, ite_false, Int32.reduceLT, ite_not, eq_self, or_true, true_or, ite_self, reduceIte, r5, r6, r11, e0]
        refine t_refused ?_
        simp +decide (disch := omega) only [↓EQA, CEA, LIA, NIA, Nat.lt_irrefl, Option.toList_some, Option.toList_none, List.cons_append, List.nil_append, true_and, and_true, Nat.reduceAdd, Nat.reduceLeDiff, not_true_eq_false, not_false_eq_true, if_true, if_false, ite_true, ite_false, Int32.reduceLT, ite_not, eq_self, or_true, true_or, ite_self, reduceIte]
        have hx : Ag (fun j i => j = 0 ∧ (i = 1 ∨ i = 11 ∨ i = 12 ∨ i = 13)) w1 (wI (wI (wI (wI w1 0 1 0) 0 11 (nI e.1)) 0 12 (nI e.2)) 0 13 4) := (((Ag.rf.wI ⟨rfl, Or.inl rfl⟩).wI ⟨rfl, Or.inr (Or.inl rfl)⟩).wI ⟨rfl, Or.inr (Or.inr (Or.inl rfl))⟩).wI ⟨rfl, Or.inr (Or.inr (Or.inr rfl))⟩
        have s1 : (wI (wI (wI (wI w1 0 1 0) 0 11 (nI e.1)) 0 12 (nI e.2)) 0 13 4).1 0 1 = 0 := by simp [wI]
        have s11 : (wI (wI (wI (wI w1 0 1 0) 0 11 (nI e.1)) 0 12 (nI e.2)) 0 13 4).1 0 11 = nI e.1 := by simp [wI]
        have s12 : (wI (wI (wI (wI w1 0 1 0) 0 11 (nI e.1)) 0 12 (nI e.2)) 0 13 4).1 0 12 = nI e.2 := by simp [wI]
        have s13 : (wI (wI (wI (wI w1 0 1 0) 0 11 (nI e.1)) 0 12 (nI e.2)) 0 13 4).1 0 13 = 4 := by simp [wI]
        generalize wI (wI (wI (wI w1 0 1 0) 0 11 (nI e.1)) 0 12 (nI e.2)) 0 13 4 = w2 at hx s1 s11 s12 s13 ⊢
        have ha2 : Ag (fun j i => (j = 0 ∧ (i = 1 ∨ i = 11 ∨ i = 12 ∨ i = 13)) ∨ (22 ≤ j ∧ j ≤ 44)) w w2 := (ha1.wk fun j i z => by omega).tr (hx.wk fun j i z => by omega)
        refine hQ (-1) w2 fun K hK => ref w2 K (ha2.wk fun j i z => by omega) (fun e' he' w3 ha3 g2 g9 g10 g11 => ?_) (fun z => by rw [hb] at z; cases z)
        rw [hb] at he'
        injection he' with he'
        subst he'
        have ha : Ag (fun j i => ((j = 0 ∧ (i = 1 ∨ i = 11 ∨ i = 12 ∨ i = 13)) ∨ (22 ≤ j ∧ j ≤ 44)) ∨ MfP j i) w w3 := (ha2.wk fun j i z => Or.inl z).tr (ha3.wk fun j i z => Or.inr z)
        have g : ∀ j i, ¬ (((j = 0 ∧ (i = 1 ∨ i = 11 ∨ i = 12 ∨ i = 13)) ∨ (22 ≤ j ∧ j ≤ 44)) ∨ MfP j i) → w3.1 j i = w.1 j i := fun j i z => (ha j i z).1
        have gL : ∀ j i, ¬ (((j = 0 ∧ (i = 1 ∨ i = 11 ∨ i = 12 ∨ i = 13)) ∨ (22 ≤ j ∧ j ≤ 44)) ∨ MfP j i) → w3.2 j i = w.2 j i := fun j i z => (ha j i z).2
        refine hK w3 ⟨T, D, F, hZ, hP, ⟨c1.ag ha (fun a b p q z => by omega), c2.ag ha (fun i z => by omega) (fun i z => by omega), c3.ag ha (fun i _ z => by omega) (fun i z => by omega)⟩, ⟨m1.ag ha (fun i z => by omega), m2.ag ha (fun i z => by omega), m3.ag ha (fun i z => by omega), by rw [g 59 22 (by omega)]; exact m4, by rw [g 59 14 (by omega)]; exact m5, fun l hl => by rw [g 62 _ (by omega)]; exact m6 l hl⟩, ⟨kn, km, A, C, k1, k2, by rw [g 56 3 (by omega)]; exact k3, by rw [g 56 4 (by omega)]; exact k4, by rw [g 59 20 (by omega)]; exact k5, by rw [g 59 21 (by omega)]; exact k6, fun i hi => ⟨(k7 i hi).1, by rw [gL 57 i (by omega)]; exact (k7 i hi).2.1, fun q hq => by rw [g 65 _ (by omega)]; exact (k7 i hi).2.2 q hq⟩, fun i hi => ⟨(k8 i hi).1, by rw [gL 58 i (by omega)]; exact (k8 i hi).2.1, fun q hq => by rw [g 66 _ (by omega)]; exact (k8 i hi).2.2 q hq⟩, k9⟩, ⟨0, by decide, by rw [(ha3 0 1 (by omega)).1]; exact s1, g2, fun i hi => absurd hi (Nat.not_lt_zero _)⟩, by rw [(ha3 0 11 (by omega)).1, s11, g9], by rw [(ha3 0 13 (by omega)).1, s13, g11], fun _ => by rw [(ha3 0 12 (by omega)).1, s12, g10]⟩
      | none =>
        rw [hb] at hC1
        obtain ⟨hR1a, hV1⟩ := hR1 hb
        have e5 : w1.1 44 5 = 0 := hC1.2.2.2.2
        have hH : nH (rdA B n T0).2.1 ≠ 0 := fun z => by
          cases hb2 : (rdA B n T0).1.2 with
          | some e => rw [enF_some hb2, hb2] at hb; cases hb
          | none =>
            by_cases q0 : (rdA B n T0).1.1.2.2 = 0
            · rw [enF_6 hb2 q0 z] at hb; cases hb
            · rw [enF_1 hb2 q0] at hb; cases hb
        generalize rdA B n T0 = X at hR1a hV1 hH ref hb
        have r5 : (wI w1 0 1 0).1 44 5 = 0 := by rw [wI_ne (by decide)]; exact e5
        have r11 : ∀ y, (wI (wI (wI w1 0 1 0) 0 11 0) 0 12 y).1 0 11 = 0 := fun y => by simp [wI]
        simp +decide (disch := omega) only [↓EQA, CEA, LIA, NIA, Nat.lt_irrefl, Option.toList_some, Option.toList_none, List.cons_append, List.nil_append, true_and, and_true, Nat.reduceAdd, Nat.reduceLeDiff, not_true_eq_false, not_false_eq_true, if_true, if_false, ite_true, ite_false, Int32.reduceLT, ite_not, eq_self, or_true, true_or, ite_self, reduceIte, r5, r11]
        generalize hw2 : wI (wI (wI w1 0 1 0) 0 11 0) 0 12 _ = w2
        have hx2 : Ag (fun j i => j = 0 ∧ (i = 1 ∨ i = 11 ∨ i = 12)) w1 w2 := by rw [← hw2]; exact ((Ag.rf.wI ⟨rfl, Or.inl rfl⟩).wI ⟨rfl, Or.inr (Or.inl rfl)⟩).wI ⟨rfl, Or.inr (Or.inr rfl)⟩
        have s1 : w2.1 0 1 = 0 := by rw [← hw2]; simp [wI]
        have s11 : w2.1 0 11 = 0 := by rw [← hw2]; simp [wI]
        clear hw2
        refine t_toldBecome fun w3 ha3 hb3 => ?_
        simp +decide (disch := omega) only [↓EQA, CEA, LIA, NIA, Nat.lt_irrefl, Option.toList_some, Option.toList_none, List.cons_append, List.nil_append, true_and, and_true, Nat.reduceAdd, Nat.reduceLeDiff, not_true_eq_false, not_false_eq_true, if_true, if_false, ite_true, ite_false, Int32.reduceLT, ite_not, eq_self, or_true, true_or, ite_self, reduceIte]
        have hR3 : RC w3 42 43 (RS X.2.2.1) := (hR1a.2.1.ag hx2 (fun i z => by omega) (fun i z => by omega)).ag ha3 (fun i z => by omega) (fun i z => by omega)
        refine t_becomeN hR3 fun w4 ha4 hR4 => ?_
        simp +decide (disch := omega) only [↓EQA, CEA, LIA, NIA, Nat.lt_irrefl, Option.toList_some, Option.toList_none, List.cons_append, List.nil_append, true_and, and_true, Nat.reduceAdd, Nat.reduceLeDiff, not_true_eq_false, not_false_eq_true, if_true, if_false, ite_true, ite_false, Int32.reduceLT, ite_not, eq_self, or_true, true_or, ite_self, reduceIte]
        refine t_keptClear ?_
        simp +decide (disch := omega) only [↓EQA, CEA, LIA, NIA, Nat.lt_irrefl, Option.toList_some, Option.toList_none, List.cons_append, List.nil_append, true_and, and_true, Nat.reduceAdd, Nat.reduceLeDiff, not_true_eq_false, not_false_eq_true, if_true, if_false, ite_true, ite_false, Int32.reduceLT, ite_not, eq_self, or_true, true_or, ite_self, reduceIte]
        refine t_forget ?_
        have z6 : X.2.1 0 6 = nI (nH X.2.1) := hV1.1.1.2.1
        have ht3 : ∀ j i, j ≤ 12 → i < tln j → w4.1 (3 + j) i = X.2.1 j i := fun j i hj hi => by
          rw [(ha4 (3 + j) i (by omega)).1, hb3 j i hj hi, (hx2 (29 + j) i (by omega)).1]
          obtain ⟨a0, a1, a2, a3, a4, a5, a6, a7, a8, a9, a10, a11, a12⟩ := hR1a.1
          rcases (by omega : j = 0 ∨ j = 1 ∨ j = 2 ∨ j = 3 ∨ j = 4 ∨ j = 5 ∨ j = 6 ∨ j = 7 ∨ j = 8 ∨ j = 9 ∨ j = 10 ∨ j = 11 ∨ j = 12) with rfl | rfl | rfl | rfl | rfl | rfl | rfl | rfl | rfl | rfl | rfl | rfl | rfl
          · exact congrFun a0 i
          · exact congrFun a1 i
          · exact congrFun a2 i
          · exact congrFun a3 i
          · exact congrFun a4 i
          · exact congrFun a5 i
          · exact congrFun a6 i
          · exact congrFun a7 i
          · exact congrFun a8 i
          · exact congrFun a9 i
          · exact congrFun a10 i
          · exact congrFun a11 i
          · exact congrFun a12 i
        have t36 : w4.1 3 6 = nI (nH X.2.1) := by rw [show w4.1 3 6 = w4.1 (3 + 0) 6 from rfl, ht3 0 6 (by decide) (by decide)]; exact z6
        have hx5 : Ag (fun j i => (j = 56 ∧ (i = 3 ∨ i = 4)) ∨ (j = 45 ∧ i = 9)) w4 (wI (wI (wI w4 56 3 0) 56 4 0) 45 9 (-3)) := ((Ag.rf.wI (Or.inl ⟨rfl, Or.inl rfl⟩)).wI (Or.inl ⟨rfl, Or.inr rfl⟩)).wI (Or.inr ⟨rfl, rfl⟩)
        have v36 : (wI (wI (wI w4 56 3 0) 56 4 0) 45 9 (-3)).1 3 6 = nI (nH X.2.1) := by rw [(hx5 3 6 (by omega)).1]; exact t36
        have u3 : (wI (wI (wI w4 56 3 0) 56 4 0) 45 9 (-3)).1 56 3 = 0 := by simp [wI]
        have u4 : (wI (wI (wI w4 56 3 0) 56 4 0) 45 9 (-3)).1 56 4 = 0 := by simp [wI]
        have u9 : (wI (wI (wI w4 56 3 0) 56 4 0) 45 9 (-3)).1 45 9 = -3 := by simp [wI]
        generalize wI (wI (wI w4 56 3 0) 56 4 0) 45 9 (-3) = w5 at hx5 v36 u3 u4 u9 ⊢
        simp +decide (disch := omega) only [↓EQA, CEA, LIA, NIA, Nat.lt_irrefl, Option.toList_some, Option.toList_none, List.cons_append, List.nil_append, true_and, and_true, Nat.reduceAdd, Nat.reduceLeDiff, not_true_eq_false, not_false_eq_true, if_true, if_false, ite_true, ite_false, Int32.reduceLT, ite_not, eq_self, or_true, true_or, ite_self, reduceIte, v36]
        refine t_granted ?_
        simp +decide (disch := omega) only [↓EQA, CEA, LIA, NIA, Nat.lt_irrefl, Option.toList_some, Option.toList_none, List.cons_append, List.nil_append, true_and, and_true, Nat.reduceAdd, Nat.reduceLeDiff, not_true_eq_false, not_false_eq_true, if_true, if_false, ite_true, ite_false, Int32.reduceLT, ite_not, eq_self, or_true, true_or, ite_self, reduceIte]
        have hx6 : Ag (fun j i => j = 0 ∧ i = 13) w5 (wI w5 0 13 0) := Ag.rf.wI ⟨rfl, rfl⟩
        have s13 : (wI w5 0 13 0).1 0 13 = 0 := by simp [wI]
        generalize wI w5 0 13 0 = w6 at hx6 s13 ⊢
        have ha26 : Ag (fun j i => (3 ≤ j ∧ j ≤ 17) ∨ (j = 56 ∧ (i = 3 ∨ i = 4)) ∨ (j = 45 ∧ i = 9) ∨ (j = 0 ∧ i = 13)) w2 w6 := (((ha3.wk fun j i z => by omega).tr (ha4.wk fun j i z => by omega)).tr (hx5.wk fun j i z => by omega)).tr (hx6.wk fun j i z => by omega)
        have ha06 : Ag (fun j i => (j = 0 ∧ (i = 1 ∨ i = 11 ∨ i = 12 ∨ i = 13)) ∨ (3 ≤ j ∧ j ≤ 17) ∨ (22 ≤ j ∧ j ≤ 58)) w w6 := ((ha1.wk fun j i z => by omega).tr (hx2.wk fun j i z => by omega)).tr (ha26.wk fun j i z => by omega)
        refine hQ (nI (nH X.2.1)) w6 fun K hK => ref w6 K ha06 (fun e he => by rw [hb] at he; cases he) (fun _ w7 hg7 => ?_)
        obtain ⟨ha7, g2, g9, g11, g14, g20, g21, ⟨G, hG, hgG⟩, hMR⟩ := hg7
        have e36 : ∀ j i, 3 ≤ j → j ≤ 17 → w7.1 j i = w4.1 j i := fun j i p q => by
          rw [(ha7 j i (by omega)).1, (hx6 j i (by omega)).1, (hx5 j i (by omega)).1]
        obtain ⟨T', hT'⟩ : ∃ T' : Tv, ∀ j, T' j = w7.1 (3 + j) := ⟨fun j => w7.1 (3 + j), fun _ => rfl⟩
        have hE : TEq X.2.1 T' := fun j i hj hi => by
          rw [hT' j, e36 (3 + j) i (by omega) (by omega)]; exact ht3 j i hj hi
        obtain ⟨nh, sz, pu, tm, tf, fo⟩ := told_new (w := w7) hE hV1 hH hgG hG
        have h1H : 1 ≤ nH T' := by omega
        refine hK w7 ⟨T', X.2.2.1, X.2.2.2.1, sz, Or.inl ⟨h1H, pu⟩, ⟨⟨(hT' 0).symm, (hT' 1).symm, (hT' 2).symm, (hT' 3).symm, (hT' 4).symm, (hT' 5).symm, (hT' 6).symm, (hT' 7).symm, (hT' 8).symm, (hT' 9).symm, (hT' 10).symm, (hT' 11).symm, (hT' 12).symm⟩, ?_, Or.inl ?_⟩, ⟨tm, tf, hMR, ?_, ?_, fo⟩, ⟨0, 0, fun _ _ => 0, fun _ _ => 0, by decide, by decide, ?_, ?_, g20, g21, fun i hi => absurd hi (Nat.not_lt_zero _), fun i hi => absurd hi (Nat.not_lt_zero _), fun _ => ⟨rfl, rfl⟩⟩, ⟨0, by decide, ?_, g2, fun i hi => absurd hi (Nat.not_lt_zero _)⟩, ?_, ?_, fun z => ?_⟩
        · exact ((hR4.ag hx5 (fun i z => by omega) (fun i z => by omega)).ag hx6 (fun i z => by omega) (fun i z => by omega)).ag ha7 (fun i z => by omega) (fun i z => by omega)
        · rw [(ha7 45 9 (by omega)).1, (hx6 45 9 (by omega)).1]; exact u9
        · rw [(ha7 59 22 (by omega)).1, (ha06 59 22 (by omega)).1]; exact m4
        · rw [g14]; exact (if_pos h1H).symm
        · rw [(ha7 56 3 (by omega)).1, (hx6 56 3 (by omega)).1]; exact u3
        · rw [(ha7 56 4 (by omega)).1, (hx6 56 4 (by omega)).1]; exact u4
        · rw [(ha7 0 1 (by omega)).1, (ha26 0 1 (by omega)).1]; exact s1
        · rw [(ha7 0 11 (by omega)).1, (ha26 0 11 (by omega)).1, s11, g9]
        · rw [(ha7 0 13 (by omega)).1, s13, g11]
        · rw [(ha7 0 13 (by omega)).1, s13] at z; exact absurd z (by decide)
end PRegatta
