/-! ===== the reference's recursion over lodgers ===== -/
theorem cnt_mono2 {p : Nat → Bool} {n m : Nat} (h : n ≤ m) : cnt p n ≤ cnt p m := by
  induction m with
  | zero => have : n = 0 := by omega
            rw [this]; exact Nat.le_refl _
  | succ m ih =>
    by_cases q : n = m + 1
    · rw [q]; exact Nat.le_refl _
    · have h1 := ih (by omega)
      have h2 : cnt p m ≤ cnt p (m + 1) := by
        show _ ≤ (if p m then cnt p m + 1 else cnt p m)
        split <;> omega
      omega
theorem cnt_succ (p : Nat → Bool) (n : Nat) : cnt p (n + 1) = if p n = true then cnt p n + 1 else cnt p n := rfl
section MTry
variable {w : Mem} {Q : Option Value → Mem → Prop} {T : Tv} {D F : Nat → Nat} {i h r : Nat} {qn : Option Nat}
/-- the trial's row at the l-th lodger: a prefix of places -/
abbrev TLp (w : Mem) (T : Tv) (D : Nat → Nat) (l x : Nat) : Prop := (∀ q, q < l → w.1 69 q = nI (pd T l x q)) ∧ ∀ q, nL T ≤ q → q < 8 → w.1 69 q = nI (D q)
/-- no house is overfull -/
abbrev PFx (T : Tv) (l x : Nat) : Prop := ∀ h, h < nH T → ¬ T 5 h < nI (cnt (fun q => decide (pd T l x q = h + 1)) l)
abbrev mvP (T : Tv) (D : Nat → Nat) (l x : Nat) : Nat := cnt (fun q => decide (pd T l x q ≠ D q)) l
theorem pd_full {T : Tv} {x q : Nat} (hq : q < nL T) : pd T (nL T) x q = dg T x q := by unfold pd dg; rw [if_pos hq]
theorem u_tryLoads (hP : PU T D F) (hq : qOK T qn) : ∀ k l x, l + k = nL T → x < KK T ^ l → ∀ (d : Nat) (w : Mem) (Q : Option Value → Mem → Prop), MSt w T D F → w.1 59 28 = qvM qn → TLp w T D l x → PFx T l x → BSM w T D qn (x * KK T ^ k) → (∀ w', Ag TlP w w' → TLp w' T D l x → BSM w' T D qn ((x + 1) * KK T ^ k) → Q none w') → Cl (d + k + 8) m_X11_tryLoads [.ref 59, .int (nI l), .int (nI (mvP T D l x))] w Q := by
  obtain ⟨hZ, hO, hD, hDH, h0, h7, hFr⟩ := id hP
  have hz := hZ.2
  have hH : 1 ≤ nH T := hO.2.2.2.2.2.2.2.2.2.2
  have hKL := KK_le hZ
  intro k
  induction k with
  | zero =>
    intro l x hl hx d w Q hS hw hT hF hB hQ
    have : l = nL T := by omega
    subst this
    rw [Nat.pow_zero, Nat.mul_one] at hB hQ
    obtain ⟨b1, b2, b3, b4⟩ := hB
    have hR : MR w 69 (ldD T D x) := fun q hq8 => by
      unfold ldD
      split
      · next z => rw [hT.1 q z, pd_full z]
      · next z => exact hT.2 q (by omega) hq8
    have hfit : fitB T x = true := (fitB_iff hz.2.2.1).mpr fun h hh => by
      have := hF h hh
      rw [cnt_congr (q := fun q => decide (dg T x q = h + 1)) fun j hj => by rw [pd_full hj]] at this
      exact this
    have emv : mvP T D (nL T) x = mvN T D x := by
      rw [mvN_eq hP]
      exact cnt_congr fun j hj => by rw [pd_full hj]
    rw [emv]
    have ebs : bst T D qn (x + 1) = bsS T D qn x (bst T D qn x) := rfl
    have els : lsN T D qn (x + 1) = lsL T D qn x (lsN T D qn x) := rfl
    have hmv : mvN T D x ≤ 5 := pc5_le _
    have eb0 : x = 0 → bst T D qn x = (1000000, 1000000, 0) := fun z => by rw [z]; rfl
    generalize bst T D qn x = b at b1 b2 b3 ebs eb0
    refine Cl_of k_X11_tryLoads.1 (Nat.le_of_ble_eq_true rfl) (show Wp m_X11_tryLoads _ 0 _ 0 [.ref 59, .int (nI (nL T)), .int (nI (mvN T D x)), .null] [] _ from S_X11_tryLoads_0 _ _ _ ?_)
    simp +decide (disch := omega) only [↓EQA, CEA, LIA, NIA, Nat.lt_irrefl, Option.toList_some, Option.toList_none, List.cons_append, List.nil_append, true_and, and_true, Nat.reduceAdd, Nat.reduceLeDiff, not_true_eq_false, not_false_eq_true, if_true, if_false, ite_true, ite_false, Int32.reduceLT, ite_not, eq_self, or_true, true_or, ite_self, reduceIte, B_X11_tryLoads_0, hS.1.1, hZ.1]
    refine u_keyOf (i := x) hP hS hq hw hR hfit fun w1 ha1 h31 => ?_
    have ha : Ag TlP w w1 := ha1.wk fun j i z => by omega
    have g29 : w1.1 59 29 = b.1 := by rw [(ha1 59 29 (by omega)).1]; exact b1
    have g30 : w1.1 59 30 = b.2.1 := by rw [(ha1 59 30 (by omega)).1]; exact b2
    have g31 : w1.1 59 31 = lsN T D qn (x + 1) := by rw [h31, els, b4]
    have hT1 : TLp w1 T D (nL T) x := ⟨fun q z => by rw [(ha1 69 q (by omega)).1]; exact hT.1 q z, fun q z z2 => by rw [(ha1 69 q (by omega)).1]; exact hT.2 q z z2⟩
    have stay : ¬ (fitB T x = true ∧ isBt b.1 b.2.1 (kfS T D qn x) (nI (mvN T D x))) → Q none w1 := by
      intro hno
      have e1 : bst T D qn (x + 1) = b := by rw [ebs]; unfold bsS; rw [if_neg hno]
      refine hQ w1 ha hT1 ⟨by rw [e1]; exact g29, by rw [e1]; exact g30, fun _ l hl5 => ?_, g31⟩
      rw [e1, (ha1 70 l (by omega)).1]
      refine b3 ?_ l hl5
      rcases Nat.eq_zero_or_pos x with z | z
      · refine absurd ?_ hno
        rw [eb0 z]
        exact ⟨hfit, by rw [z]; exact bt0 hZ⟩
      · exact z
    have better : isBt b.1 b.2.1 (kfS T D qn x) (nI (mvN T D x)) → B_X11_tryLoads_J2 (d + 0 + 7) 0 Q [.ref 59, .int (nI (nL T)), .int (nI (mvN T D x)), .int (kfS T D qn x)] [] w1 := by
      intro hyes
      have e1 : bst T D qn (x + 1) = (kfS T D qn x, nI (mvN T D x), x) := by rw [ebs]; unfold bsS; rw [if_pos ⟨hfit, hyes⟩]
      simp +decide (disch := omega) only [↓EQA, CEA, LIA, NIA, Nat.lt_irrefl, Option.toList_some, Option.toList_none, List.cons_append, List.nil_append, true_and, and_true, Nat.reduceAdd, Nat.reduceLeDiff, not_true_eq_false, not_false_eq_true, if_true, if_false, ite_true, ite_false, Int32.reduceLT, ite_not, eq_self, or_true, true_or, ite_self, reduceIte, B_X11_tryLoads_J2]
      refine u_copy (a := 69) (b := 70) (p := 0) (q := 0) (n := 5) (na := 8) (nb := 5) rfl rfl (by decide) (by decide) (by decide) (by decide) (by decide) fun w2 ha2 hc2 => ?_
      simp +decide (disch := omega) only [↓EQA, CEA, LIA, NIA, Nat.lt_irrefl, Option.toList_some, Option.toList_none, List.cons_append, List.nil_append, true_and, and_true, Nat.reduceAdd, Nat.reduceLeDiff, not_true_eq_false, not_false_eq_true, if_true, if_false, ite_true, ite_false, Int32.reduceLT, ite_not, eq_self, or_true, true_or, ite_self, reduceIte]
      refine hQ w2 (((ha.wI (Or.inr ⟨rfl, Or.inr ⟨by decide, by decide⟩⟩)).wI (Or.inr ⟨rfl, Or.inr ⟨by decide, by decide⟩⟩)).tr (ha2.wk fun j i z => by omega)) ⟨fun q z => ?_, fun q z z2 => ?_⟩ ⟨?_, ?_, fun _ l hl5 => ?_, ?_⟩
      · rw [(ha2 69 q (by omega)).1, wI_ne (by decide), wI_ne (by decide)]; exact hT1.1 q z
      · rw [(ha2 69 q (by omega)).1, wI_ne (by decide), wI_ne (by decide)]; exact hT1.2 q z z2
      · rw [(ha2 59 29 (by omega)).1, e1]; simp [wI]
      · rw [(ha2 59 30 (by omega)).1, e1]; simp [wI]
      · have := hc2 l hl5
        rw [Nat.zero_add] at this
        rw [this, e1, wI_ne (by decide), wI_ne (by decide)]
        have e69 : w1.1 69 l = w.1 69 l := (ha1 69 l (by omega)).1
        rw [e69, hR l (by omega)]
        show nI (ldD T D x l) = nI (dg T x l)
        unfold ldD
        split
        · rfl
        · next z => rw [h0 l (by omega) hl5, dg_hi (by omega)]
      · rw [(ha2 59 31 (by omega)).1]; simp [wI]; exact g31
    simp +decide (disch := omega) only [↓EQA, CEA, LIA, NIA, Nat.lt_irrefl, Option.toList_some, Option.toList_none, List.cons_append, List.nil_append, true_and, and_true, Nat.reduceAdd, Nat.reduceLeDiff, not_true_eq_false, not_false_eq_true, if_true, if_false, ite_true, ite_false, Int32.reduceLT, ite_not, eq_self, or_true, true_or, ite_self, reduceIte, g29, g30]
    by_cases q1 : b.1 < kfS T D qn x
    · rw [if_pos q1]
      simp +decide (disch := omega) only [↓EQA, CEA, LIA, NIA, Nat.lt_irrefl, Option.toList_some, Option.toList_none, List.cons_append, List.nil_append, true_and, and_true, Nat.reduceAdd, Nat.reduceLeDiff, not_true_eq_false, not_false_eq_true, if_true, if_false, ite_true, ite_false, Int32.reduceLT, ite_not, eq_self, or_true, true_or, ite_self, reduceIte, B_X11_tryLoads_J1]
      exact stay fun z => z.2.1 q1
    · rw [if_neg q1]
      by_cases q2 : kfS T D qn x = b.1
      · rw [if_pos q2]
        by_cases q3 : nI (mvN T D x) < b.2.1
        · rw [if_pos q3]; exact better ⟨q1, fun _ => q3⟩
        · rw [if_neg q3]
          simp +decide (disch := omega) only [↓EQA, CEA, LIA, NIA, Nat.lt_irrefl, Option.toList_some, Option.toList_none, List.cons_append, List.nil_append, true_and, and_true, Nat.reduceAdd, Nat.reduceLeDiff, not_true_eq_false, not_false_eq_true, if_true, if_false, ite_true, ite_false, Int32.reduceLT, ite_not, eq_self, or_true, true_or, ite_self, reduceIte, B_X11_tryLoads_J1]
          exact stay fun z => q3 (z.2.2 q2)
      · rw [if_neg q2]; exact better ⟨q1, fun z => absurd z q2⟩
  | succ k ih =>
    intro l x hl hx d w Q hS hw hT hF hB hQ
    have hlL : l < nL T := by omega
    have hl5 : l < 5 := by omega
    have hl8 : l < 8 := by omega
    have hne : ¬ l = nL T := by omega
    have hmv : mvP T D l x ≤ l := cnt_le _ _
    have epow : KK T ^ (k + 1) = KK T * KK T ^ k := Nat.pow_succ' ..
    refine Cl_of k_X11_tryLoads.1 (Nat.le_of_ble_eq_true rfl) (show Wp m_X11_tryLoads _ 0 _ 0 [.ref 59, .int (nI l), .int (nI (mvP T D l x)), .null] [] _ from S_X11_tryLoads_0 _ _ _ ?_)
    simp +decide (disch := omega) only [↓EQA, CEA, LIA, NIA, Nat.lt_irrefl, Option.toList_some, Option.toList_none, List.cons_append, List.nil_append, true_and, and_true, Nat.reduceAdd, Nat.reduceLeDiff, not_true_eq_false, not_false_eq_true, if_true, if_false, ite_true, ite_false, Int32.reduceLT, ite_not, eq_self, or_true, true_or, ite_self, reduceIte, B_X11_tryLoads_0, hS.1.1, hZ.1, hne]
    have key : ∀ m p, p + m = nH T + 1 → ∀ w1, Ag TlP w w1 → TLp w1 T D l x → BSM w1 T D qn ((x * KK T + p) * KK T ^ k) → Wp m_X11_tryLoads (d + (k + 1) + 7) 0 Q 68 [.ref 59, .int (nI l), .int (nI (mvP T D l x)), .int (nI p)] [] w1 := by
      intro m
      induction m with
      | zero =>
        intro p hp w1 ha hT1 hB1
        have hS1 := hS.ag ha (fun i z => by omega) (fun i z => by omega) (by omega)
        have hgt : nH T < p := by omega
        refine S_X11_tryLoads_L1 _ _ _ ?_
        simp +decide (disch := omega) only [↓EQA, CEA, LIA, NIA, Nat.lt_irrefl, Option.toList_some, Option.toList_none, List.cons_append, List.nil_append, true_and, and_true, Nat.reduceAdd, Nat.reduceLeDiff, not_true_eq_false, not_false_eq_true, if_true, if_false, ite_true, ite_false, Int32.reduceLT, ite_not, eq_self, or_true, true_or, ite_self, reduceIte, B_X11_tryLoads_L1, hS1.1.1, hZ.1, hgt]
        refine hQ w1 ha hT1 ?_
        have e : (x * KK T + p) * KK T ^ k = (x + 1) * KK T ^ (k + 1) := by
          rw [epow, ← Nat.mul_assoc, Nat.add_mul x 1, Nat.one_mul]
          have : p = KK T := by unfold KK; omega
          rw [this]
        rw [← e]
        exact hB1
      | succ m ihm =>
        intro p hp w1 ha hT1 hB1
        have hpH : p ≤ nH T := by omega
        have hp4 : p ≤ 4 := by omega
        have hnot : ¬ nH T < p := by omega
        have hS1 := hS.ag ha (fun i z => by omega) (fun i z => by omega) (by omega)
        have haz := ha.wI (k := 69) (p := l) (v := 0) (Or.inl ⟨by decide, by decide⟩)
        have hTz : TLp (wI w1 69 l 0) T D l x := ⟨fun q z => by rw [wI_get, if_neg (by omega)]; exact hT1.1 q z, fun q z z2 => by rw [wI_get, if_neg (by omega)]; exact hT1.2 q z z2⟩
        have hSz := hS.ag haz (fun i z => by omega) (fun i z => by omega) (by omega)
        have enext : (x * KK T + p + 1) * KK T ^ k = (x * KK T + (p + 1)) * KK T ^ k := by rw [Nat.add_assoc]
        -- the place is tried
        have try1 : (∀ h, p = h + 1 → ¬ T 5 h < nI (cnt (fun q => decide (pd T l x q = p)) l + 1)) → B_X11_tryLoads_J3 (d + (k + 1) + 7) 0 Q [.ref 59, .int (nI l), .int (nI (mvP T D l x)), .int (nI p)] [] (wI w1 69 l 0) := by
          intro hroom
          have hT2 : TLp (wI (wI w1 69 l 0) 69 l (nI p)) T D (l + 1) (x * KK T + p) := ⟨fun q z => by
            rw [pd_succ hpH (by omega), wI_get]
            by_cases e : q = l
            · rw [if_pos ⟨rfl, e⟩, if_pos e]
            · rw [if_neg (fun y => e y.2), if_neg e]; exact hTz.1 q (by omega), fun q z z2 => by rw [wI_get, if_neg (by omega)]; exact hTz.2 q z z2⟩
          have ha2 := haz.wI (k := 69) (p := l) (v := nI p) (Or.inl ⟨by decide, by decide⟩)
          have hS2 := hS.ag ha2 (fun i z => by omega) (fun i z => by omega) (by omega)
          have e64 : (wI (wI w1 69 l 0) 69 l (nI p)).1 64 l = nI (D l) := hS2.2.2.1 l hl8
          have hdl := hD.1 l hl5
          have hx2 : x * KK T + p < KK T ^ (l + 1) := by
            rw [Nat.pow_succ]
            have h1 : (x + 1) * KK T ≤ KK T ^ l * KK T := Nat.mul_le_mul_right _ hx
            rw [Nat.add_mul, Nat.one_mul] at h1
            have : p < KK T := by unfold KK; omega
            omega
          have hF2 : PFx T (l + 1) (x * KK T + p) := by
            intro h hh
            have ec : cnt (fun q => decide (pd T (l + 1) (x * KK T + p) q = h + 1)) (l + 1) = cnt (fun q => decide (pd T l x q = h + 1)) l + if p = h + 1 then 1 else 0 := by
              rw [cnt_succ, pd_succ hpH (Nat.le_refl _), if_pos rfl, cnt_congr (q := fun q => decide (pd T l x q = h + 1)) fun j hj => by rw [pd_succ hpH (by omega), if_neg (by omega)]]
              by_cases e : p = h + 1 <;> simp [e]
            rw [ec]
            by_cases e : p = h + 1
            · rw [if_pos e, ← e]; exact hroom h e
            · rw [if_neg e]; exact hF h hh
          have emv2 : nI (mvP T D l x) + (if p = D l then 0 else 1) = nI (mvP T D (l + 1) (x * KK T + p)) := by
            have ec : mvP T D (l + 1) (x * KK T + p) = mvP T D l x + if p = D l then 0 else 1 := by
              show cnt _ (l + 1) = _
              rw [cnt_succ, pd_succ hpH (Nat.le_refl _), if_pos rfl, cnt_congr (q := fun q => decide (pd T l x q ≠ D q)) fun j hj => by rw [pd_succ hpH (by omega), if_neg (by omega)]]
              by_cases e : p = D l
              · rw [if_neg (by simp [e]), if_pos e]; rfl
              · rw [if_pos (by simp [e]), if_neg e]
            rw [ec]
            by_cases e : p = D l
            · rw [if_pos e, if_pos e, Int32.add_zero, Nat.add_zero]
            · rw [if_neg e, if_neg e]; exact nI_1 _
          have hB2 : BSM (wI (wI w1 69 l 0) 69 l (nI p)) T D qn ((x * KK T + p) * KK T ^ k) := ⟨hB1.1, hB1.2.1, hB1.2.2.1, hB1.2.2.2⟩
          have hw2 : (wI (wI w1 69 l 0) 69 l (nI p)).1 59 28 = qvM qn := by
            have : w1.1 59 28 = w.1 59 28 := (ha 59 28 (by omega)).1
            rw [wI_ne (by decide), wI_ne (by decide), this]; exact hw
          have call : ∀ v : Int32, v = (if p = D l then 0 else 1) → B_X11_tryLoads_J4 (d + (k + 1) + 7) 0 Q [.ref 59, .int (nI l), .int (nI (mvP T D l x)), .int (nI p)] [.int v, .int (nI (mvP T D l x)), .int (nI (l + 1)), .ref 59] (wI (wI w1 69 l 0) 69 l (nI p)) := by
            intro v hv
            simp +decide (disch := omega) only [↓EQA, CEA, LIA, NIA, Nat.lt_irrefl, Option.toList_some, Option.toList_none, List.cons_append, List.nil_append, true_and, and_true, Nat.reduceAdd, Nat.reduceLeDiff, not_true_eq_false, not_false_eq_true, if_true, if_false, ite_true, ite_false, Int32.reduceLT, ite_not, eq_self, or_true, true_or, ite_self, reduceIte, B_X11_tryLoads_J4]
            rw [hv, emv2]
            have := ih (l + 1) (x * KK T + p) (by omega) hx2 d (wI (wI w1 69 l 0) 69 l (nI p)) (fun v w' => B_X11_tryLoads_J5 (d + (k + 1) + 7) 0 Q [.ref 59, .int (nI l), .int (nI (mvP T D l x)), .int (nI p)] (v.toList ++ []) w') hS2 hw2 hT2 hF2 hB2 (fun w3 ha3 hT3 hB3 => by
              simp +decide (disch := omega) only [↓EQA, CEA, LIA, NIA, Nat.lt_irrefl, Option.toList_some, Option.toList_none, List.cons_append, List.nil_append, true_and, and_true, Nat.reduceAdd, Nat.reduceLeDiff, not_true_eq_false, not_false_eq_true, if_true, if_false, ite_true, ite_false, Int32.reduceLT, ite_not, eq_self, or_true, true_or, ite_self, reduceIte, B_X11_tryLoads_J5]
              rw [enext] at hB3
              refine ihm (p + 1) (by omega) w3 (ha2.tr ha3) ⟨fun q z => ?_, hT3.2⟩ hB3
              rw [hT3.1 q (by omega), pd_succ hpH (by omega), if_neg (by omega)])
            rw [show d + (k + 1) + 7 = d + k + 8 by omega]
            rw [show d + (k + 1) + 7 = d + k + 8 by omega] at this
            exact this
          simp +decide (disch := omega) only [↓EQA, CEA, LIA, NIA, Nat.lt_irrefl, Option.toList_some, Option.toList_none, List.cons_append, List.nil_append, true_and, and_true, Nat.reduceAdd, Nat.reduceLeDiff, not_true_eq_false, not_false_eq_true, if_true, if_false, ite_true, ite_false, Int32.reduceLT, ite_not, eq_self, or_true, true_or, ite_self, reduceIte, B_X11_tryLoads_J3, hl8, e64, nI_1]
          by_cases e : p = D l
          · rw [if_pos e]; exact call 0 (by rw [if_pos e])
          · rw [if_neg e]; exact call 1 (by rw [if_neg e])
        refine S_X11_tryLoads_L1 _ _ _ ?_
        by_cases p0 : p = 0
        · have e0 : (0 < nI p) = False := by rw [p0]; exact eq_false (by decide)
          simp +decide (disch := omega) only [↓EQA, CEA, LIA, NIA, Nat.lt_irrefl, Option.toList_some, Option.toList_none, List.cons_append, List.nil_append, true_and, and_true, Nat.reduceAdd, Nat.reduceLeDiff, not_true_eq_false, not_false_eq_true, if_true, if_false, ite_true, ite_false, Int32.reduceLT, ite_not, eq_self, or_true, true_or, ite_self, reduceIte, B_X11_tryLoads_L1, hS1.1.1, hZ.1, hnot, hl8, e0]
          exact try1 fun h e => by omega
        · obtain ⟨g, rfl⟩ : ∃ g, p = g + 1 := ⟨p - 1, by omega⟩
          have e0 : (0 < nI (g + 1)) = True := eq_true (nI_lt (a := 0) (by omega) (by omega))
          have hg : g < nH T := by omega
          have hc5 := cnt_le (fun q => decide (pd T l x q = g + 1)) l
          obtain ⟨s, es, hs1, hs2⟩ := (hO.2.2.2.2.2.2.1 g hg).2.2
          simp +decide (disch := omega) only [↓EQA, CEA, LIA, NIA, Nat.lt_irrefl, Option.toList_some, Option.toList_none, List.cons_append, List.nil_append, true_and, and_true, Nat.reduceAdd, Nat.reduceLeDiff, not_true_eq_false, not_false_eq_true, if_true, if_false, ite_true, ite_false, Int32.reduceLT, ite_not, eq_self, or_true, true_or, ite_self, reduceIte, B_X11_tryLoads_L1, hS1.1.1, hZ.1, hnot, hl8, e0]
          refine u_aboardAhead (E := pd T l x) (by omega) hTz.1 (fun q _ => Nat.le_trans pd_le hz.2.1) (by omega) ?_
          simp +decide (disch := omega) only [↓EQA, CEA, LIA, NIA, Nat.lt_irrefl, Option.toList_some, Option.toList_none, List.cons_append, List.nil_append, true_and, and_true, Nat.reduceAdd, Nat.reduceLeDiff, not_true_eq_false, not_false_eq_true, if_true, if_false, ite_true, ite_false, Int32.reduceLT, ite_not, eq_self, or_true, true_or, ite_self, reduceIte, nI_pred]
          refine u_storeysOf hSz.1 hz.2.1 hg ?_
          simp +decide (disch := omega) only [↓EQA, CEA, LIA, NIA, Nat.lt_irrefl, Option.toList_some, Option.toList_none, List.cons_append, List.nil_append, true_and, and_true, Nat.reduceAdd, Nat.reduceLeDiff, not_true_eq_false, not_false_eq_true, if_true, if_false, ite_true, ite_false, Int32.reduceLT, ite_not, eq_self, or_true, true_or, ite_self, reduceIte, es]
          by_cases q : cnt (fun q => decide (pd T l x q = g + 1)) l < s
          · rw [if_pos q]
            refine try1 fun h e => ?_
            have : h = g := by omega
            subst this
            rw [es]
            exact nI_nlt (by omega) (by omega)
          · rw [if_neg q]
            simp +decide (disch := omega) only [↓EQA, CEA, LIA, NIA, Nat.lt_irrefl, Option.toList_some, Option.toList_none, List.cons_append, List.nil_append, true_and, and_true, Nat.reduceAdd, Nat.reduceLeDiff, not_true_eq_false, not_false_eq_true, if_true, if_false, ite_true, ite_false, Int32.reduceLT, ite_not, eq_self, or_true, true_or, ite_self, reduceIte, B_X11_tryLoads_J5]
            have hsk := bst_skip (D := D) (qn := qn) (a := (x * KK T + (g + 1)) * KK T ^ k) (KK T ^ k) fun i h1 h2 => by
              have h2' : i < (x * KK T + (g + 1) + 1) * KK T ^ k := by rw [Nat.add_mul _ 1, Nat.one_mul]; exact h2
              cases hfb : fitB T i with
              | false => rfl
              | true =>
                exfalso
                have := (fitB_iff hz.2.2.1).mp hfb g hg
                refine this ?_
                rw [es]
                have hk1 : (l + 1) + k = nL T := by omega
                have ec : cnt (fun q => decide (dg T i q = g + 1)) (l + 1) = cnt (fun q => decide (pd T l x q = g + 1)) l + 1 := by
                  rw [cnt_succ, pd_dg hk1 (by omega) h1 h2', pd_succ hpH (Nat.le_refl _), if_pos rfl, cnt_congr (q := fun q => decide (pd T l x q = g + 1)) fun j hj => by rw [pd_dg hk1 (by omega) h1 h2', pd_succ hpH (by omega), if_neg (by omega)]]
                  simp
                have hm2 : cnt (fun q => decide (dg T i q = g + 1)) (l + 1) ≤ cnt (fun q => decide (dg T i q = g + 1)) (nL T) := cnt_mono2 (by omega)
                have hc9 := cnt_le (fun q => decide (dg T i q = g + 1)) (nL T)
                exact nI_lt (by omega) (by omega)
            have e2 : (x * KK T + (g + 1)) * KK T ^ k + KK T ^ k = (x * KK T + (g + 1 + 1)) * KK T ^ k := by rw [← enext, Nat.add_mul _ 1, Nat.one_mul]
            rw [e2] at hsk
            refine ihm (g + 1 + 1) (by omega) _ haz hTz ⟨?_, ?_, fun _ l' hl' => ?_, ?_⟩
            · rw [hsk.1]; exact hB1.1
            · rw [hsk.1]; exact hB1.2.1
            · rw [hsk.1, wI_ne (by decide)]
              refine hB1.2.2.1 ?_ l' hl'
              exact Nat.mul_pos (by omega) (Nat.pow_pos (Nat.succ_pos _))
            · rw [hsk.2]; exact hB1.2.2.2
    refine key (nH T + 1) 0 (by omega) w Ag.rf hT ?_
    rw [Nat.add_zero, Nat.mul_assoc, ← epow]
    exact hB
end MTry
