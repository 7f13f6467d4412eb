/-! ===== the reference: a new name, one that was told ===== -/
section MNames2
variable {d : Nat} {w : Mem} {Q : Option Value → Mem → Prop} {B : Nat → Nat} {n b h l c : Nat} {τ : Tk3} {s : Cs} {N : Nat → Nm4}
theorem MSf.ag {P : Nat → Nat → Prop} {w1 : Mem} (hS : MSf w B n s) (ha : Ag P w w1) (h59 : ∀ i, ¬ P 59 i) (h60 : ∀ i, ¬ P 60 i) (h61 : ∀ i, ¬ P 61 i) : MSf w1 B n s := by
  obtain ⟨τ, bl⟩ := s
  have e59 := ha.row h59
  have e61 := ha.row h61
  refine ⟨hS.1.ag ha h60 (h59 3), ?_⟩
  have h2 := hS.2
  cases bl with
  | none =>
    obtain ⟨f1, ⟨m1, m2, m3, m4, m5⟩, t, t9⟩ := h2
    exact ⟨by rw [e59]; exact f1, ⟨by rw [e59]; exact m1, by rw [e59]; exact m2, by rw [e59]; exact m3, by rw [e59, e61]; exact m4, by rw [e59]; exact m5⟩, t, by rw [e59]; exact t9⟩
  | some e =>
    obtain ⟨f1, f2, f3⟩ := h2
    exact ⟨by rw [e59]; exact f1, by rw [e59]; exact f2, by rw [e59]; exact f3⟩
theorem MNM.ag {P : Nat → Nat → Prop} {w1 : Mem} (hN : MNM w B c N) (ha : Ag P w w1) (h63 : ∀ i, 74 ≤ i → ¬ P 63 i) : MNM w1 B c N := by
  have g : ∀ i, 74 ≤ i → w1.1 63 i = w.1 63 i := fun i hi => (ha 63 i (h63 i hi)).1
  intro s hs
  rcases hN s hs with ⟨i, hi, e1, e2, e3⟩ | ⟨e1, e2⟩
  · exact Or.inl ⟨i, hi, e1, by rw [g _ (by omega)]; exact e2, fun j hj => by rw [g _ (by omega)]; exact e3 j hj⟩
  · exact Or.inr ⟨e1, by rw [g _ (by omega)]; exact e2⟩
abbrev NwP (s : Nat) : Nat → Nat → Prop := fun j i => MrP j i ∨ (j = 63 ∧ 74 ≤ i)
theorem u_newName {k so nu : Nat} (hS : MSf w B n (τ, none)) (hN : MNM w B c N) (hP : NMP B n b h l c N) (hb : b ≤ 4) (hh : h ≤ 4) (hl : l ≤ 5) (hk : k < 13) (hsl : slN (τ.1, τ.2.1, so, nu) = k) (hno : ∀ i, i < c → slN (N i) ≠ k) (hQ : ∀ w', Ag (NwP k) w w' → MSf w' B n (cst (eTell B n N c) (τ, none)) → ((cst (eTell B n N c) (τ, none)).2 = none → MNM w' B (c + 1) (adN N c (τ.1, τ.2.1, so, nu))) → Q none w') : Cl (d + 7) m_X11_newName [.ref 59, .int (nI k)] w Q := by
  obtain ⟨hX, hf, hM, hT, h99⟩ := id hS
  have h4 : w.1 59 4 = nI τ.1 := hM.1
  refine Cl_of k_X11_newName.1 (Nat.le_of_ble_eq_true rfl) (show Wp m_X11_newName _ 0 _ 0 [.ref 59, .int (nI k), .null] [] _ from S_X11_newName_0 _ _ _ ?_)
  simp +decide (disch := omega) only [↓EQA, CEA, LIA, NIA, Nat.lt_irrefl, Option.toList_some, Option.toList_none, List.cons_append, List.nil_append, true_and, and_true, Nat.reduceAdd, Nat.reduceLeDiff, not_true_eq_false, not_false_eq_true, if_true, if_false, ite_true, ite_false, Int32.reduceLT, ite_not, eq_self, or_true, true_or, ite_self, reduceIte, B_X11_newName_0, hf]
  refine u_mustName hS (fun q => ?_) (fun q w1 ha1 hS1 => ?_)
  · have h1 : τ.2.2 = 1 := by
      unfold isNm at q
      simp only [Bool.and_eq_true, decide_eq_true_eq] at q
      exact q.1
    obtain ⟨l8, l1⟩ : τ.2.1 - τ.1 ≤ 8 ∧ 1 ≤ τ.2.1 - τ.1 := hT.2.2 h1
    obtain ⟨m8, -, m61⟩ : w.1 59 8 = nI (τ.2.1 - τ.1) ∧ τ.2.1 - τ.1 ≤ 8 ∧ ∀ i, i < τ.2.1 - τ.1 → w.1 61 i = nI (B (τ.1 + i)) := hM.2.2.2.1 h1
    simp +decide (disch := omega) only [↓EQA, CEA, LIA, NIA, Nat.lt_irrefl, Option.toList_some, Option.toList_none, List.cons_append, List.nil_append, true_and, and_true, Nat.reduceAdd, Nat.reduceLeDiff, not_true_eq_false, not_false_eq_true, if_true, if_false, ite_true, ite_false, Int32.reduceLT, ite_not, eq_self, or_true, true_or, ite_self, reduceIte, hf]
    refine u_find hM h1 l1 hX.2.2.2 hN hP hb hh hl ?_
    by_cases q2 : fnN B τ N c < c
    · rw [if_pos q2]
      have h13 := slN_lt hP hb hh hl q2
      simp +decide (disch := omega) only [↓EQA, CEA, LIA, NIA, Nat.lt_irrefl, Option.toList_some, Option.toList_none, List.cons_append, List.nil_append, true_and, and_true, Nat.reduceAdd, Nat.reduceLeDiff, not_true_eq_false, not_false_eq_true, if_true, if_false, ite_true, ite_false, Int32.reduceLT, ite_not, eq_self, or_true, true_or, ite_self, reduceIte, h4]
      refine u_wrong (f := 3) (p := τ.1) hf ?_
      obtain ⟨b1, b2⟩ := MSf.bad (τ := τ) (f := 3) hX
      have hf1 := b1.2.1
      simp +decide (disch := omega) only [↓EQA, CEA, LIA, NIA, Nat.lt_irrefl, Option.toList_some, Option.toList_none, List.cons_append, List.nil_append, true_and, and_true, Nat.reduceAdd, Nat.reduceLeDiff, not_true_eq_false, not_false_eq_true, if_true, if_false, ite_true, ite_false, Int32.reduceLT, ite_not, eq_self, or_true, true_or, ite_self, reduceIte, B_X11_newName_J1, hf1]
      have hc : cst (eTell B n N c) (τ, none) = (τ, some (3, τ.1)) := by unfold cst eTell; dsimp only; rw [if_pos q, if_pos q2]; rfl
      refine hQ _ (b2.wk fun j i z => Or.inl z) (by rw [hc]; exact b1) (fun z => by rw [hc] at z; cases z)
    · rw [if_neg q2]
      simp +decide (disch := omega) only [↓EQA, CEA, LIA, NIA, Nat.lt_irrefl, Option.toList_some, Option.toList_none, List.cons_append, List.nil_append, true_and, and_true, Nat.reduceAdd, Nat.reduceLeDiff, not_true_eq_false, not_false_eq_true, if_true, if_false, ite_true, ite_false, Int32.reduceLT, ite_not, eq_self, or_true, true_or, ite_self, reduceIte, B_X11_newName_J1, hf]
      have hc : cst (eTell B n N c) (τ, none) = (nxT B n τ, none) := by unfold cst eTell; dsimp only; rw [if_pos q, if_neg q2]; rfl
      have key : ∀ m j, j + m = τ.2.1 - τ.1 → ∀ w1, Ag (fun a i => a = 63 ∧ 87 + 8 * k ≤ i ∧ i < 87 + 8 * k + 8) w w1 → (∀ i, i < j → w1.1 63 (87 + 8 * k + i) = nI (B (τ.1 + i))) → Wp m_X11_newName (d + 6) 0 Q 45 [.ref 59, .int (nI k), .int (nI j)] [] w1 := by
        intro m
        induction m with
        | zero =>
          intro j hj w1 ha1 hw1
          have ej : j = τ.2.1 - τ.1 := by omega
          subst ej
          have k8 : w1.1 59 8 = nI (τ.2.1 - τ.1) := by rw [(ha1 59 8 (by omega)).1]; exact m8
          have hx : 74 + k < 191 := by omega
          refine S_X11_newName_L1 _ _ _ ?_
          simp +decide (disch := omega) only [↓EQA, CEA, LIA, NIA, Nat.lt_irrefl, Option.toList_some, Option.toList_none, List.cons_append, List.nil_append, true_and, and_true, Nat.reduceAdd, Nat.reduceLeDiff, not_true_eq_false, not_false_eq_true, if_true, if_false, ite_true, ite_false, Int32.reduceLT, ite_not, eq_self, or_true, true_or, ite_self, reduceIte, B_X11_newName_L1, k8, hx]
          have ha2 : Ag (fun a i => a = 63 ∧ 74 ≤ i) w (wI w1 63 (74 + k) (nI (τ.2.1 - τ.1))) := (ha1.wk fun j i z => by omega).wI ⟨rfl, by omega⟩
          have hN2 : MNM (wI w1 63 (74 + k) (nI (τ.2.1 - τ.1))) B (c + 1) (adN N c (τ.1, τ.2.1, so, nu)) := by
            intro s hs
            by_cases e : s = k
            · subst e
              refine Or.inl ⟨c, by omega, ?_, ?_, ?_⟩
              · unfold adN; rw [if_pos rfl]; exact hsl
              · unfold adN; rw [if_pos rfl]; simp [wI]
              · unfold adN
                rw [if_pos rfl]
                intro j hj
                have hj2 : j < τ.2.1 - τ.1 := hj
                rw [wI_get, if_neg (by omega)]
                exact hw1 j hj2
            · have g : ∀ i, i = 74 + s ∨ (87 + 8 * s ≤ i ∧ i < 87 + 8 * s + 8) → (wI w1 63 (74 + k) (nI (τ.2.1 - τ.1))).1 63 i = w.1 63 i := by
                intro i hi
                rw [wI_get, if_neg (by omega)]
                exact (ha1 63 i (by omega)).1
              rcases hN s hs with ⟨i, hi, e1, e2, e3⟩ | ⟨e1, e2⟩
              · obtain ⟨⟨a1, a2, a3, a4⟩, -⟩ := hP.2.1 i hi
                refine Or.inl ⟨i, by omega, ?_⟩
                unfold adN
                rw [if_neg (by omega)]
                exact ⟨e1, by rw [g _ (Or.inl rfl)]; exact e2, fun j hj => by rw [g _ (Or.inr (by omega))]; exact e3 j hj⟩
              · refine Or.inr ⟨fun i hi => ?_, by rw [g _ (Or.inl rfl)]; exact e2⟩
                unfold adN
                by_cases z : i = c
                · rw [if_pos z, hsl]; exact Ne.symm e
                · rw [if_neg z]; exact e1 i (by omega)
          have hS2 : MSf (wI w1 63 (74 + k) (nI (τ.2.1 - τ.1))) B n (τ, none) := hS.ag ha2 (fun i z => by omega) (fun i z => by omega) (fun i z => by omega)
          generalize wI w1 63 (74 + k) (nI (τ.2.1 - τ.1)) = w2 at ha2 hN2 hS2 ⊢
          refine u_nextS hS2 (by rw [h1]; decide) fun w3 ha3 hS3 => ?_
          simp +decide (disch := omega) only [↓EQA, CEA, LIA, NIA, Nat.lt_irrefl, Option.toList_some, Option.toList_none, List.cons_append, List.nil_append, true_and, and_true, Nat.reduceAdd, Nat.reduceLeDiff, not_true_eq_false, not_false_eq_true, if_true, if_false, ite_true, ite_false, Int32.reduceLT, ite_not, eq_self, or_true, true_or, ite_self, reduceIte]
          refine hQ w3 ((ha2.wk fun j i z => Or.inr z).tr (ha3.wk fun j i z => Or.inl z)) (by rw [hc]; exact hS3) (fun _ => hN2.ag ha3 (fun i hi z => by omega))
        | succ m ih =>
          intro j hj w1 ha1 hw1
          have hj8 : j < 8 := by omega
          have hjl : j < τ.2.1 - τ.1 := by omega
          have hx : 87 + 8 * k + j < 191 := by omega
          have k8 : w1.1 59 8 = nI (τ.2.1 - τ.1) := by rw [(ha1 59 8 (by omega)).1]; exact m8
          have k61 : w1.1 61 j = nI (B (τ.1 + j)) := by rw [(ha1 61 j (by omega)).1]; exact m61 j hjl
          have ei : 87 + 8 * nI k + nI j = nI (87 + 8 * k + j) := by rw [show (87 : Int32) = nI 87 from rfl, show (8 : Int32) = nI 8 from rfl, nI_mul, nI_add, nI_add]
          refine S_X11_newName_L1 _ _ _ ?_
          simp +decide (disch := omega) only [↓EQA, CEA, LIA, NIA, Nat.lt_irrefl, Option.toList_some, Option.toList_none, List.cons_append, List.nil_append, true_and, and_true, Nat.reduceAdd, Nat.reduceLeDiff, not_true_eq_false, not_false_eq_true, if_true, if_false, ite_true, ite_false, Int32.reduceLT, ite_not, eq_self, or_true, true_or, ite_self, reduceIte, B_X11_newName_L1, k8, hjl, ei, hx, hj8, k61]
          refine ih (j + 1) (by omega) _ (ha1.wI ⟨rfl, by omega, by omega⟩) fun i hi => ?_
          rw [wI_get]
          by_cases e : i = j
          · subst e; rw [if_pos ⟨rfl, rfl⟩]
          · rw [if_neg (by omega)]; exact hw1 i (by omega)
      exact key (τ.2.1 - τ.1) 0 (by omega) w Ag.rf (fun i hi => absurd hi (Nat.not_lt_zero _))
  · have hf1 : w1.1 59 13 = 1 := hS1.2.1
    simp +decide (disch := omega) only [↓EQA, CEA, LIA, NIA, Nat.lt_irrefl, Option.toList_some, Option.toList_none, List.cons_append, List.nil_append, true_and, and_true, Nat.reduceAdd, Nat.reduceLeDiff, not_true_eq_false, not_false_eq_true, if_true, if_false, ite_true, ite_false, Int32.reduceLT, ite_not, eq_self, or_true, true_or, ite_self, reduceIte, hf1, B_X11_newName_J1]
    have hc : cst (eTell B n N c) (τ, none) = (τ, some (1, τ.1)) := by unfold cst eTell; dsimp only; rw [if_neg (by rw [q]; decide)]; rfl
    exact hQ w1 (ha1.wk fun j i z => Or.inl z) (by rw [hc]; exact hS1) (fun z => by rw [hc] at z; cases z)
/-- where a sort's names stand -/
def sl0 (so : Nat) : Nat := if so = 6 then 0 else if so = 5 then 4 else 8
def slM (so : Nat) : Nat := if so = 6 then 3 else if so = 5 then 7 else 12
theorem u_named {so : Nat} (hso : so = 5 ∨ so = 6 ∨ so = 7) (hS : MSf w B n s) (hN : MNM w B c N) (hP : NMP B n b h l c N) (hb : b ≤ 4) (hh : h ≤ 4) (hl : l ≤ 5) (hQ : ∀ w' v, Ag MrP w w' → MSf w' B n (cst (eNum B N c so) s) → ((cst (eNum B N c so) s).2 = none → v = nuV B N c so s.1) → ((cst (eNum B N c so) s).2 ≠ none → v = 0) → Q (some (.int (nI v))) w') : Cl (d + 7) m_X11_named [.ref 59, .int (nI (sl0 so)), .int (nI (slM so))] w Q := by
  obtain ⟨τ, bl⟩ := s
  refine Cl_of k_X11_named.1 (Nat.le_of_ble_eq_true rfl) (show Wp m_X11_named _ 0 _ 0 [.ref 59, .int (nI (sl0 so)), .int (nI (slM so)), .null] [] _ from S_X11_named_0 _ _ _ ?_)
  cases bl with
  | some e =>
    have hf : w.1 59 13 = 1 := hS.2.1
    simp +decide (disch := omega) only [↓EQA, CEA, LIA, NIA, Nat.lt_irrefl, Option.toList_some, Option.toList_none, List.cons_append, List.nil_append, true_and, and_true, Nat.reduceAdd, Nat.reduceLeDiff, not_true_eq_false, not_false_eq_true, if_true, if_false, ite_true, ite_false, Int32.reduceLT, ite_not, eq_self, or_true, true_or, ite_self, reduceIte, B_X11_named_0, hf]
    exact hQ w 0 Ag.rf (by rw [show cst (eNum B N c so) (τ, some e) = (τ, some e) from rfl]; exact hS) (fun z => by cases z) (fun _ => rfl)
  | none =>
    obtain ⟨hX, hf, hM, hT, h99⟩ := id hS
    have h4 : w.1 59 4 = nI τ.1 := hM.1
    simp +decide (disch := omega) only [↓EQA, CEA, LIA, NIA, Nat.lt_irrefl, Option.toList_some, Option.toList_none, List.cons_append, List.nil_append, true_and, and_true, Nat.reduceAdd, Nat.reduceLeDiff, not_true_eq_false, not_false_eq_true, if_true, if_false, ite_true, ite_false, Int32.reduceLT, ite_not, eq_self, or_true, true_or, ite_self, reduceIte, B_X11_named_0, hf]
    refine u_mustName hS (fun q => ?_) (fun q w1 ha1 hS1 => ?_)
    · have h1 : τ.2.2 = 1 := by
        unfold isNm at q
        simp only [Bool.and_eq_true, decide_eq_true_eq] at q
        exact q.1
      obtain ⟨l8, l1⟩ : τ.2.1 - τ.1 ≤ 8 ∧ 1 ≤ τ.2.1 - τ.1 := hT.2.2 h1
      have bad : ∀ v : Value, ¬ (fnN B τ N c < c ∧ (N (fnN B τ N c)).2.2.1 = so) → B_X11_named_J1 (d + 6) 0 Q [.ref 59, .int (nI (sl0 so)), .int (nI (slM so)), v] [] (wI (wI (wI w 59 13 1) 59 9 (nI 2)) 59 10 (nI τ.1)) := by
        intro v hno
        obtain ⟨b1, b2⟩ := MSf.bad (τ := τ) (f := 2) hX
        have hf1 := b1.2.1
        have hc : cst (eNum B N c so) (τ, none) = (τ, some (2, τ.1)) := by unfold cst eNum; dsimp only; rw [if_pos q, if_neg hno]; rfl
        simp +decide (disch := omega) only [↓EQA, CEA, LIA, NIA, Nat.lt_irrefl, Option.toList_some, Option.toList_none, List.cons_append, List.nil_append, true_and, and_true, Nat.reduceAdd, Nat.reduceLeDiff, not_true_eq_false, not_false_eq_true, if_true, if_false, ite_true, ite_false, Int32.reduceLT, ite_not, eq_self, or_true, true_or, ite_self, reduceIte, B_X11_named_J1, hf1, B_X11_named_J2]
        exact hQ _ 0 b2 (by rw [hc]; exact b1) (fun z => by rw [hc] at z; cases z) (fun _ => rfl)
      simp +decide (disch := omega) only [↓EQA, CEA, LIA, NIA, Nat.lt_irrefl, Option.toList_some, Option.toList_none, List.cons_append, List.nil_append, true_and, and_true, Nat.reduceAdd, Nat.reduceLeDiff, not_true_eq_false, not_false_eq_true, if_true, if_false, ite_true, ite_false, Int32.reduceLT, ite_not, eq_self, or_true, true_or, ite_self, reduceIte, hf]
      refine u_find hM h1 l1 hX.2.2.2 hN hP hb hh hl ?_
      by_cases q2 : fnN B τ N c < c
      · rw [if_pos q2]
        have h13 := slN_lt hP hb hh hl q2
        simp +decide (disch := omega) only [↓EQA, CEA, LIA, NIA, Nat.lt_irrefl, Option.toList_some, Option.toList_none, List.cons_append, List.nil_append, true_and, and_true, Nat.reduceAdd, Nat.reduceLeDiff, not_true_eq_false, not_false_eq_true, if_true, if_false, ite_true, ite_false, Int32.reduceLT, ite_not, eq_self, or_true, true_or, ite_self, reduceIte]
        refine u_in ?_
        have hin : (¬ nI (slN (N (fnN B τ N c))) < nI (sl0 so) ∧ ¬ nI (slM so) < nI (slN (N (fnN B τ N c)))) = ((N (fnN B τ N c)).2.2.1 = so) := by
          have hs0 : sl0 so ≤ 8 := by unfold sl0; split <;> (try split) <;> decide
          have hsM : slM so ≤ 12 := by unfold slM; split <;> (try split) <;> decide
          rw [lt_n (by omega) (by omega), lt_n (by omega) (by omega)]
          have hx := (hP.2.1 _ q2).2
          generalize N (fnN B τ N c) = a at hx
          unfold slN sl0 slM
          rcases hx with ⟨e, z⟩ | ⟨e, z⟩ | ⟨e, z⟩ <;> rcases hso with rfl | rfl | rfl <;> rw [e] <;> simp <;> omega
        by_cases q3 : (N (fnN B τ N c)).2.2.1 = so
        · rw [show bI (¬ nI (slN (N (fnN B τ N c))) < nI (sl0 so) ∧ ¬ nI (slM so) < nI (slN (N (fnN B τ N c)))) = 1 from if_pos (by rw [hin]; exact q3)]
          have es : nI (slN (N (fnN B τ N c))) - nI (sl0 so) = nI (N (fnN B τ N c)).2.2.2 := by
            rw [nI_sub]
            · refine congrArg nI ?_
              unfold slN sl0
              rw [q3]
              rcases hso with rfl | rfl | rfl <;> simp
            · unfold slN sl0
              rw [q3]
              rcases hso with rfl | rfl | rfl <;> simp
          have hc : cst (eNum B N c so) (τ, none) = (τ, none) := by unfold cst eNum; dsimp only; rw [if_pos q, if_pos ⟨q2, q3⟩]; rfl
          simp +decide (disch := omega) only [↓EQA, CEA, LIA, NIA, Nat.lt_irrefl, Option.toList_some, Option.toList_none, List.cons_append, List.nil_append, true_and, and_true, Nat.reduceAdd, Nat.reduceLeDiff, not_true_eq_false, not_false_eq_true, if_true, if_false, ite_true, ite_false, Int32.reduceLT, ite_not, eq_self, or_true, true_or, ite_self, reduceIte, B_X11_named_J1, hf, es, B_X11_named_J2]
          exact hQ w _ Ag.rf (by rw [hc]; exact hS) (fun _ => by unfold nuV; dsimp only; rw [if_pos ⟨q2, q3⟩]) (fun z => absurd (by rw [hc]) z)
        · rw [show bI (¬ nI (slN (N (fnN B τ N c))) < nI (sl0 so) ∧ ¬ nI (slM so) < nI (slN (N (fnN B τ N c)))) = 0 from if_neg (by rw [hin]; exact q3)]
          simp +decide (disch := omega) only [↓EQA, CEA, LIA, NIA, Nat.lt_irrefl, Option.toList_some, Option.toList_none, List.cons_append, List.nil_append, true_and, and_true, Nat.reduceAdd, Nat.reduceLeDiff, not_true_eq_false, not_false_eq_true, if_true, if_false, ite_true, ite_false, Int32.reduceLT, ite_not, eq_self, or_true, true_or, ite_self, reduceIte, h4]
          refine u_wrong (f := 2) (p := τ.1) hf ?_
          simp +decide (disch := omega) only [↓EQA, CEA, LIA, NIA, Nat.lt_irrefl, Option.toList_some, Option.toList_none, List.cons_append, List.nil_append, true_and, and_true, Nat.reduceAdd, Nat.reduceLeDiff, not_true_eq_false, not_false_eq_true, if_true, if_false, ite_true, ite_false, Int32.reduceLT, ite_not, eq_self, or_true, true_or, ite_self, reduceIte]
          exact bad _ fun z => q3 z.2
      · rw [if_neg q2]
        simp +decide (disch := omega) only [↓EQA, CEA, LIA, NIA, Nat.lt_irrefl, Option.toList_some, Option.toList_none, List.cons_append, List.nil_append, true_and, and_true, Nat.reduceAdd, Nat.reduceLeDiff, not_true_eq_false, not_false_eq_true, if_true, if_false, ite_true, ite_false, Int32.reduceLT, ite_not, eq_self, or_true, true_or, ite_self, reduceIte]
        refine u_in ?_
        have hin : bI (¬ (-1 : Int32) < nI (sl0 so) ∧ ¬ nI (slM so) < (-1 : Int32)) = 0 := by rcases hso with rfl | rfl | rfl <;> decide
        rw [hin]
        simp +decide (disch := omega) only [↓EQA, CEA, LIA, NIA, Nat.lt_irrefl, Option.toList_some, Option.toList_none, List.cons_append, List.nil_append, true_and, and_true, Nat.reduceAdd, Nat.reduceLeDiff, not_true_eq_false, not_false_eq_true, if_true, if_false, ite_true, ite_false, Int32.reduceLT, ite_not, eq_self, or_true, true_or, ite_self, reduceIte, h4]
        refine u_wrong (f := 2) (p := τ.1) hf ?_
        simp +decide (disch := omega) only [↓EQA, CEA, LIA, NIA, Nat.lt_irrefl, Option.toList_some, Option.toList_none, List.cons_append, List.nil_append, true_and, and_true, Nat.reduceAdd, Nat.reduceLeDiff, not_true_eq_false, not_false_eq_true, if_true, if_false, ite_true, ite_false, Int32.reduceLT, ite_not, eq_self, or_true, true_or, ite_self, reduceIte]
        exact bad _ fun z => q2 z.1
    · have hf1 : w1.1 59 13 = 1 := hS1.2.1
      simp +decide (disch := omega) only [↓EQA, CEA, LIA, NIA, Nat.lt_irrefl, Option.toList_some, Option.toList_none, List.cons_append, List.nil_append, true_and, and_true, Nat.reduceAdd, Nat.reduceLeDiff, not_true_eq_false, not_false_eq_true, if_true, if_false, ite_true, ite_false, Int32.reduceLT, ite_not, eq_self, or_true, true_or, ite_self, reduceIte, hf1]
      have hc : cst (eNum B N c so) (τ, none) = (τ, some (1, τ.1)) := by unfold cst eNum; dsimp only; rw [if_neg (by rw [q]; decide)]; rfl
      exact hQ w1 0 ha1 (by rw [hc]; exact hS1) (fun z => by rw [hc] at z; cases z) (fun _ => rfl)
end MNames2
