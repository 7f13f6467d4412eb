/-! ===== leastFor, toMove, bestSwap, bestLane, waterFor ===== -/
theorem ON32 : ∀ s : Fin 32, ONs (nI s.val) = nI (pc5 s.val) := by decide +kernel
theorem ff_inv {T : Tv} {R : Rc} {k st : Nat} {y : Int32} : ∀ s, s ≤ 32 → fld (ffS T R k y) s (-2, nI (st + 1)) = (-2, nI (st + 1)) ∨ ∃ c, c < s ∧ fld (ffS T R k y) s (-2, nI (st + 1)) = (nI c, nI (pc5 c)) ∧ (st < 2 ^ 30 → pc5 c ≤ st) := by
  intro s
  induction s with
  | zero => intro _; exact Or.inl rfl
  | succ s ih =>
    intro hs
    have e : fld (ffS T R k y) (s + 1) (-2, nI (st + 1)) = ffS T R k y s (fld (ffS T R k y) s (-2, nI (st + 1))) := rfl
    rw [e]
    generalize fld (ffS T R k y) s (-2, nI (st + 1)) = a at ih ⊢
    have hp := pc5_le s
    unfold ffS
    by_cases q1 : nI (pc5 s) < a.2
    · rw [if_pos q1]
      by_cases q2 : y < toC T R k s
      · rw [if_pos q2]
        exact (ih (by omega)).imp id fun ⟨c, a1, a2, a3⟩ => ⟨c, by omega, a2, a3⟩
      · rw [if_neg q2]
        refine Or.inr ⟨s, by omega, rfl, fun hst => ?_⟩
        rcases ih (by omega) with z | ⟨c, a1, a2, a3⟩
        · rw [z] at q1
          have := (nI_ltI (by omega) (by omega)).mp q1
          omega
        · rw [a2] at q1
          have h5 := pc5_le c
          have := (nI_ltI (by omega) (by omega)).mp q1
          have := a3 hst
          omega
    · rw [if_neg q1]
      exact (ih (by omega)).imp id fun ⟨c, a1, a2, a3⟩ => ⟨c, by omega, a2, a3⟩
section Pub11
variable {d : Nat} {w wg w1 : Mem} {Q : Option Value → Mem → Prop} {T : Tv} {D F E : Nat → Nat} {x y : Int32} {k : Nat}
theorem u_tot69 (hZ : SZ T) (hO : TOK T) (hM : ToldM w T) (hE : MR w 69 E) (hok : DOK E) (h7 : 1 ≤ E 7) (hd : w.1 59 22 = 0) (hh : k < nH T) (hQ : Q (some (.int (TO T (VC (RS E)) k))) w) : Cl (d + 5) m_X11_totalOf [.ref 59, .ref 69, .int (nI k)] w Q :=
  u_totalOf hM hZ hO (RM_of (s := 0) hE hok (by decide) hd) rfl (POS_of hZ hO ⟨E 7, rfl, h7, hok.2.2.2⟩) hh hQ
theorem u_copyST (hR : MR w 64 D) (hQ : ∀ w', Ag (fun j _ => j = 69) w w' → MR w' 69 D → Q none w') : Cl (d + 1) m_X11_copy [.ref 64, .int 0, .ref 69, .int 0, .int 8] w Q := by
  refine u_copy (a := 64) (b := 69) (p := 0) (q := 0) (n := 8) (na := 8) (nb := 8) rfl rfl (by decide) (by decide) (by decide) (by decide) (by decide) fun w1 ha1 hc1 => ?_
  refine hQ w1 (ha1.wk fun j i z => z.1) fun q hq => ?_
  have := hc1 q hq
  rw [Nat.zero_add, hR q hq] at this
  exact this
theorem MR.upd {l p : Nat} {v : Int32} (hE : MR w 69 E) (hv : v = nI p) : MR (wI w 69 l v) 69 (updD E l p) := fun q hq => by
  rw [wI_get]
  unfold updD
  by_cases e : q = l
  · rw [if_pos ⟨rfl, e⟩, if_pos e]; exact hv
  · rw [if_neg (fun z => e z.2), if_neg e]; exact hE q hq
/-- the row with the lodgers of a set aboard one house, all others ashore, up to the l-th -/
def setD (D : Nat → Nat) (k s l : Nat) : Nat → Nat := fun q => if q < l then (if s.testBit q then k + 1 else 0) else D q
theorem setD_toC {s : Nat} (hU : PU T D F) (hk : k < nH T) (hs : s < 2 ^ nL T) : DOK (setD D k s (nL T)) ∧ 1 ≤ setD D k s (nL T) 7 ∧ TO T (VC (RS (setD D k s (nL T)))) k = toC T (RS D) k s := by
  obtain ⟨hZ, hO, hD, hDH, h0, h7, hFr⟩ := id hU
  have hz := hZ.2
  have e7 : ∀ q, 5 ≤ q → setD D k s (nL T) q = D q := fun q hq => if_neg (by omega)
  have hs32 : s < 32 := Nat.lt_of_lt_of_le hs (sh5 hz.2.2.1).2
  refine ⟨⟨fun l hl => ?_, by rw [e7 5 (by decide)]; exact hD.2.1, by rw [e7 6 (by decide)]; exact hD.2.2.1, by rw [e7 7 (by decide)]; exact hD.2.2.2⟩, by rw [e7 7 (by decide)]; exact h7, ?_⟩
  · unfold setD
    split
    · split <;> omega
    · exact hD.1 l hl
  · have ec : cw (setD D k s (nL T)) k = s := by
      refine eq_bits (cw_lt _ _) hs32 fun l hl => ?_
      rw [cw_bit _ _ hl]
      unfold setD
      by_cases q : l < nL T
      · rw [if_pos q]; cases s.testBit l <;> simp
      · rw [if_neg q, h0 l (by omega) hl]
        have : (2 : Nat) ^ nL T ≤ 2 ^ l := Nat.pow_le_pow_right (by decide) (by omega)
        rw [Nat.testBit_lt_two_pow (by omega)]
        simp
    rw [toC_eq]
    show toC T (RS (setD D k s (nL T))) k (cw (setD D k s (nL T)) k) = _
    rw [ec]
    have e2 : (RS (setD D k s (nL T))).2 = (RS D).2 := by
      show (setD D k s (nL T) 7, 0, setD D k s (nL T) 6, setD D k s (nL T) 5) = (D 7, 0, D 6, D 5)
      rw [e7 7 (by decide), e7 6 (by decide), e7 5 (by decide)]
    unfold toC
    rw [e2]
theorem u_leastForL (hU : PU T D F) (hM : IMd wg T D F) (hk : k < nH T) (hQ : ∀ w', Ag (fun j _ => j = 69) wg w' → Q (some (.int (fld (ffS T (RS D) k y) (2 ^ nL T) (-2, T 5 k + 1)).1)) w') : Wp m_X11_leastFor (d + 6) 0 Q 43 [.ref 59, .int (nI k), .int y, .int 0, .int (-2), .int 0, .null] [] wg := by
  obtain ⟨hZ, hO, hD, hDH, h0, h7, hFr⟩ := id hU
  have hz := hZ.2
  obtain ⟨e2, hp⟩ := sh5 hz.2.2.1
  obtain ⟨st, est, hst1, hst2⟩ := (hO.2.2.2.2.2.2.1 k hk).2.2
  have est1 : T 5 k + 1 = nI (st + 1) := by rw [est]; exact nI_1 st
  rw [est1] at hQ
  have key : ∀ m s, s + m = 2 ^ nL T → ∀ w1 (v : Value), Ag (fun j _ => j = 69) wg w1 → Wp m_X11_leastFor (d + 6) 0 Q 43 [.ref 59, .int (nI k), .int y, .int 0, .int (fld (ffS T (RS D) k y) s (-2, nI (st + 1))).1, .int (nI s), v] [] w1 := by
    intro m
    induction m with
    | zero =>
      intro s hs w1 v ha
      have : s = 2 ^ nL T := by omega
      subst this
      have hM1 := hM.1.ag ha (fun i z => by omega)
      refine S_X11_leastFor_L1 _ _ _ ?_
      simp +decide (disch := omega) only [↓EQA, CEA, LIA, NIA, Nat.lt_irrefl, Option.toList_some, Option.toList_none, List.cons_append, List.nil_append, true_and, and_true, Nat.reduceAdd, Nat.reduceLeDiff, not_true_eq_false, not_false_eq_true, if_true, if_false, ite_true, ite_false, Int32.reduceLT, ite_not, eq_self, or_true, true_or, ite_self, reduceIte, B_X11_leastFor_L1, hM1.1, hZ.1, e2]
      exact hQ w1 ha
    | succ m ih =>
      intro s hs w1 v ha
      have hs1 : s < 2 ^ nL T := by omega
      have hs32 : s < 32 := by omega
      have hM1 := hM.1.ag ha (fun i z => by omega)
      have hR1 := hM.2.2.1.ag ha (fun i z => by omega)
      have hinv := ff_inv (T := T) (R := RS D) (k := k) (st := st) (y := y) s (by omega)
      have efl : fld (ffS T (RS D) k y) (s + 1) (-2, nI (st + 1)) = ffS T (RS D) k y s (fld (ffS T (RS D) k y) s (-2, nI (st + 1))) := rfl
      have ih2 := ih (s + 1) (by omega)
      rw [efl] at ih2
      generalize fld (ffS T (RS D) k y) s (-2, nI (st + 1)) = a at hinv ih2 ⊢
      have h5 := pc5_le s
      have eS : ONs (nI s) = nI (pc5 s) := ON32 ⟨s, hs32⟩
      -- the set is passed over
      have skip : ¬ nI (pc5 s) < a.2 → ∀ v w2, Ag (fun j _ => j = 69) wg w2 → B_X11_leastFor_J3 (d + 6) 0 Q [.ref 59, .int (nI k), .int y, .int 0, .int a.1, .int (nI s), v] [] w2 := by
        intro hno v w2 ha2
        have i3 := ih2 w2 v ha2
        unfold ffS at i3
        rw [if_neg hno] at i3
        simp +decide (disch := omega) only [↓EQA, CEA, LIA, NIA, Nat.lt_irrefl, Option.toList_some, Option.toList_none, List.cons_append, List.nil_append, true_and, and_true, Nat.reduceAdd, Nat.reduceLeDiff, not_true_eq_false, not_false_eq_true, if_true, if_false, ite_true, ite_false, Int32.reduceLT, ite_not, eq_self, or_true, true_or, ite_self, reduceIte, B_X11_leastFor_J3]
        exact i3
      -- the set is tried
      have try1 : nI (pc5 s) < a.2 → B_X11_leastFor_J1 (d + 6) 0 Q [.ref 59, .int (nI k), .int y, .int 0, .int a.1, .int (nI s), v] [] w1 := by
        intro hyes
        simp +decide (disch := omega) only [↓EQA, CEA, LIA, NIA, Nat.lt_irrefl, Option.toList_some, Option.toList_none, List.cons_append, List.nil_append, true_and, and_true, Nat.reduceAdd, Nat.reduceLeDiff, not_true_eq_false, not_false_eq_true, if_true, if_false, ite_true, ite_false, Int32.reduceLT, ite_not, eq_self, or_true, true_or, ite_self, reduceIte, B_X11_leastFor_J1]
        refine u_copyST hR1 fun w2 ha2 hE2 => ?_
        simp +decide (disch := omega) only [↓EQA, CEA, LIA, NIA, Nat.lt_irrefl, Option.toList_some, Option.toList_none, List.cons_append, List.nil_append, true_and, and_true, Nat.reduceAdd, Nat.reduceLeDiff, not_true_eq_false, not_false_eq_true, if_true, if_false, ite_true, ite_false, Int32.reduceLT, ite_not, eq_self, or_true, true_or, ite_self, reduceIte]
        have hb2 : Ag (fun j _ => j = 69) wg w2 := ha.tr ha2
        have inner : ∀ m' l, l + m' = nL T → ∀ w3, Ag (fun j _ => j = 69) wg w3 → MR w3 69 (setD D k s l) → Wp m_X11_leastFor (d + 6) 0 Q 109 [.ref 59, .int (nI k), .int y, .int 0, .int a.1, .int (nI s), .int (nI l)] [] w3 := by
          intro m'
          induction m' with
          | zero =>
            intro l hl w3 ha3 hE3
            have : l = nL T := by omega
            subst this
            have hM3 := hM.1.ag ha3 (fun i z => by omega)
            obtain ⟨o1, o2, o3⟩ := setD_toC hU hk hs1
            refine S_X11_leastFor_L2 _ _ _ ?_
            simp +decide (disch := omega) only [↓EQA, CEA, LIA, NIA, Nat.lt_irrefl, Option.toList_some, Option.toList_none, List.cons_append, List.nil_append, true_and, and_true, Nat.reduceAdd, Nat.reduceLeDiff, not_true_eq_false, not_false_eq_true, if_true, if_false, ite_true, ite_false, Int32.reduceLT, ite_not, eq_self, or_true, true_or, ite_self, reduceIte, B_X11_leastFor_L2, hM3.1, hZ.1]
            refine u_tot69 hZ hO hM3 hE3 o1 o2 (by rw [(ha3 59 22 (by omega)).1]; exact hM.2.2.2.1) hk ?_
            rw [o3]
            have i3 := ih2 w3 (.int (nI (nL T))) ha3
            unfold ffS at i3
            rw [if_pos hyes] at i3
            simp +decide (disch := omega) only [↓EQA, CEA, LIA, NIA, Nat.lt_irrefl, Option.toList_some, Option.toList_none, List.cons_append, List.nil_append, true_and, and_true, Nat.reduceAdd, Nat.reduceLeDiff, not_true_eq_false, not_false_eq_true, if_true, if_false, ite_true, ite_false, Int32.reduceLT, ite_not, eq_self, or_true, true_or, ite_self, reduceIte, B_X11_leastFor_J1, B_X11_leastFor_J2, B_X11_leastFor_J3]
            by_cases q : y < toC T (RS D) k s
            · rw [if_pos q] at i3 ⊢; exact i3
            · rw [if_neg q] at i3 ⊢; exact i3
          | succ m' ihm =>
            intro l hl w3 ha3 hE3
            have hl1 : l < nL T := by omega
            have hl8 : l < 8 := by omega
            have hM3 := hM.1.ag ha3 (fun i z => by omega)
            have nxt : ∀ p : Nat, p = (if s.testBit l then k + 1 else 0) → Wp m_X11_leastFor (d + 6) 0 Q 109 [.ref 59, .int (nI k), .int y, .int 0, .int a.1, .int (nI s), .int (nI (l + 1))] [] (wI w3 69 l (nI p)) := by
              intro p hp9
              refine ihm (l + 1) (by omega) _ (ha3.wI rfl) fun q hq => ?_
              rw [hE3.upd rfl q hq]
              refine congrArg nI ?_
              unfold updD setD
              by_cases e : q = l
              · rw [if_pos e, if_pos (by omega), e]; exact hp9
              · rw [if_neg e]
                by_cases z : q < l
                · rw [if_pos z, if_pos (show q < l + 1 by omega)]
                · rw [if_neg z, if_neg (show ¬ q < l + 1 by omega)]
            refine S_X11_leastFor_L2 _ _ _ ?_
            simp +decide (disch := omega) only [↓EQA, CEA, LIA, NIA, Nat.lt_irrefl, Option.toList_some, Option.toList_none, List.cons_append, List.nil_append, true_and, and_true, Nat.reduceAdd, Nat.reduceLeDiff, not_true_eq_false, not_false_eq_true, if_true, if_false, ite_true, ite_false, Int32.reduceLT, ite_not, eq_self, or_true, true_or, ite_self, reduceIte, B_X11_leastFor_L2, hM3.1, hZ.1, hl1]
            refine u_hasBit ?_
            rw [show bb (nI s) (nI l) = s.testBit l from bbN hs32 (by omega)]
            cases hb : s.testBit l
            · simp +decide (disch := omega) only [↓EQA, CEA, LIA, NIA, Nat.lt_irrefl, Option.toList_some, Option.toList_none, List.cons_append, List.nil_append, true_and, and_true, Nat.reduceAdd, Nat.reduceLeDiff, not_true_eq_false, not_false_eq_true, if_true, if_false, ite_true, ite_false, Int32.reduceLT, ite_not, eq_self, or_true, true_or, ite_self, reduceIte, B_X11_leastFor_J1, B_X11_leastFor_J2, B_X11_leastFor_J3, hl8]
              exact nxt 0 (by rw [hb]; rfl)
            · simp +decide (disch := omega) only [↓EQA, CEA, LIA, NIA, Nat.lt_irrefl, Option.toList_some, Option.toList_none, List.cons_append, List.nil_append, true_and, and_true, Nat.reduceAdd, Nat.reduceLeDiff, not_true_eq_false, not_false_eq_true, if_true, if_false, ite_true, ite_false, Int32.reduceLT, ite_not, eq_self, or_true, true_or, ite_self, reduceIte, B_X11_leastFor_J1, B_X11_leastFor_J2, B_X11_leastFor_J3, hl8, nI_1]
              exact nxt (k + 1) (by rw [hb]; rfl)
        exact inner (nL T) 0 (by omega) w2 hb2 fun q hq => by rw [hE2 q hq]; rfl
      refine S_X11_leastFor_L1 _ _ _ ?_
      simp +decide (disch := omega) only [↓EQA, CEA, LIA, NIA, Nat.lt_irrefl, Option.toList_some, Option.toList_none, List.cons_append, List.nil_append, true_and, and_true, Nat.reduceAdd, Nat.reduceLeDiff, not_true_eq_false, not_false_eq_true, if_true, if_false, ite_true, ite_false, Int32.reduceLT, ite_not, eq_self, or_true, true_or, ite_self, reduceIte, B_X11_leastFor_L1, hM1.1, hZ.1, e2, hs1]
      refine u_ones ?_
      simp +decide (disch := omega) only [↓EQA, CEA, LIA, NIA, Nat.lt_irrefl, Option.toList_some, Option.toList_none, List.cons_append, List.nil_append, true_and, and_true, Nat.reduceAdd, Nat.reduceLeDiff, not_true_eq_false, not_false_eq_true, if_true, if_false, ite_true, ite_false, Int32.reduceLT, ite_not, eq_self, or_true, true_or, ite_self, reduceIte, eS]
      refine u_storeysOf hM1 hz.2.1 hk ?_
      simp +decide (disch := omega) only [↓EQA, CEA, LIA, NIA, Nat.lt_irrefl, Option.toList_some, Option.toList_none, List.cons_append, List.nil_append, true_and, and_true, Nat.reduceAdd, Nat.reduceLeDiff, not_true_eq_false, not_false_eq_true, if_true, if_false, ite_true, ite_false, Int32.reduceLT, ite_not, eq_self, or_true, true_or, ite_self, reduceIte, est]
      by_cases q1 : st < pc5 s
      · rw [if_pos q1]
        refine skip ?_ _ w1 ha
        rcases hinv with z | ⟨c, a1, a2, a3⟩
        · rw [z]; exact nI_nlt (by omega) (by omega)
        · rw [a2]; have := a3 (by omega); have := pc5_le c; exact nI_nlt (by omega) (by omega)
      · rw [if_neg q1]
        rcases hinv with z | ⟨c, a1, a2, a3⟩
        · have e9 : a.1 = -2 := by rw [z]
          have t9 := try1 (by rw [z]; exact nI_lt (by omega) (by omega))
          rw [e9] at t9 ⊢
          simp +decide (disch := omega) only [↓EQA, CEA, LIA, NIA, Nat.lt_irrefl, Option.toList_some, Option.toList_none, List.cons_append, List.nil_append, true_and, and_true, Nat.reduceAdd, Nat.reduceLeDiff, not_true_eq_false, not_false_eq_true, if_true, if_false, ite_true, ite_false, Int32.reduceLT, ite_not, eq_self, or_true, true_or, ite_self, reduceIte]
          exact t9
        · have hc := pc5_le c
          have e9 : a.1 = nI c := by rw [a2]
          have e10 : (nI c < 0) = False := neg_f (by omega)
          have eC : ONs (nI c) = nI (pc5 c) := ON32 ⟨c, by omega⟩
          have sk := skip
          rw [e9] at try1 sk ⊢
          simp +decide (disch := omega) only [↓EQA, CEA, LIA, NIA, Nat.lt_irrefl, Option.toList_some, Option.toList_none, List.cons_append, List.nil_append, true_and, and_true, Nat.reduceAdd, Nat.reduceLeDiff, not_true_eq_false, not_false_eq_true, if_true, if_false, ite_true, ite_false, Int32.reduceLT, ite_not, eq_self, or_true, true_or, ite_self, reduceIte, e10]
          refine u_ones ?_
          simp +decide (disch := omega) only [↓EQA, CEA, LIA, NIA, Nat.lt_irrefl, Option.toList_some, Option.toList_none, List.cons_append, List.nil_append, true_and, and_true, Nat.reduceAdd, Nat.reduceLeDiff, not_true_eq_false, not_false_eq_true, if_true, if_false, ite_true, ite_false, Int32.reduceLT, ite_not, eq_self, or_true, true_or, ite_self, reduceIte, eS]
          refine u_ones ?_
          simp +decide (disch := omega) only [↓EQA, CEA, LIA, NIA, Nat.lt_irrefl, Option.toList_some, Option.toList_none, List.cons_append, List.nil_append, true_and, and_true, Nat.reduceAdd, Nat.reduceLeDiff, not_true_eq_false, not_false_eq_true, if_true, if_false, ite_true, ite_false, Int32.reduceLT, ite_not, eq_self, or_true, true_or, ite_self, reduceIte, eC]
          by_cases q2 : pc5 s < pc5 c
          · rw [if_pos q2]; exact try1 (by rw [a2]; exact nI_lt q2 (by omega))
          · rw [if_neg q2]; exact sk (by rw [a2]; exact nI_nlt (by omega) (by omega)) _ w1 ha
  exact key (2 ^ nL T) 0 (by omega) wg .null Ag.rf
end Pub11
