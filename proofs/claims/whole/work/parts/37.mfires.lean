/-! ===== the reference: loads sought; fires ===== -/
section MSeek
variable {d : Nat} {w : Mem} {Q : Option Value → Mem → Prop} {T : Tv} {D F : Nat → Nat} {i h l r : Nat} {qn : Option Nat}
abbrev SlP : Nat → Nat → Prop := fun j i => (67 ≤ j ∧ j ≤ 70) ∨ (j = 59 ∧ (i = 22 ∨ i = 25 ∨ (28 ≤ i ∧ i ≤ 31)))
theorem u_seekLoads (hP : PU T D F) (hq : qOK T qn) (hM : ToldM w T) (hTF : ToF w T F) (hR : MR w 64 D) (hQ : ∀ w', Ag SlP w w' → BSM w' T D qn (KK T ^ nL T) → w'.1 59 22 = 0 → Q none w') : Cl (d + 14) m_X11_seekLoads [.ref 59, .int (qvM qn)] w Q := by
  have hz := hP.1.2
  refine Cl_of k_X11_seekLoads.1 (Nat.le_of_ble_eq_true rfl) (show Wp m_X11_seekLoads _ 0 _ 0 [.ref 59, .int (qvM qn)] [] _ from S_X11_seekLoads_0 _ _ _ ?_)
  simp +decide (disch := omega) only [↓EQA, CEA, LIA, NIA, Nat.lt_irrefl, Option.toList_some, Option.toList_none, List.cons_append, List.nil_append, true_and, and_true, Nat.reduceAdd, Nat.reduceLeDiff, not_true_eq_false, not_false_eq_true, if_true, if_false, ite_true, ite_false, Int32.reduceLT, ite_not, eq_self, or_true, true_or, ite_self, reduceIte, B_X11_seekLoads_0]
  refine u_dry ?_
  simp +decide (disch := omega) only [↓EQA, CEA, LIA, NIA, Nat.lt_irrefl, Option.toList_some, Option.toList_none, List.cons_append, List.nil_append, true_and, and_true, Nat.reduceAdd, Nat.reduceLeDiff, not_true_eq_false, not_false_eq_true, if_true, if_false, ite_true, ite_false, Int32.reduceLT, ite_not, eq_self, or_true, true_or, ite_self, reduceIte]
  refine u_copy (a := 64) (b := 69) (p := 0) (q := 0) (n := 8) (na := 8) (nb := 8) rfl rfl (by decide) (by decide) (by decide) (by decide) (by decide) fun w1 ha1 hc1 => ?_
  simp +decide (disch := omega) only [↓EQA, CEA, LIA, NIA, Nat.lt_irrefl, Option.toList_some, Option.toList_none, List.cons_append, List.nil_append, true_and, and_true, Nat.reduceAdd, Nat.reduceLeDiff, not_true_eq_false, not_false_eq_true, if_true, if_false, ite_true, ite_false, Int32.reduceLT, ite_not, eq_self, or_true, true_or, ite_self, reduceIte]
  generalize hw2 : wI (wI (wI (wI w1 59 28 (qvM qn)) 59 29 1000000) 59 30 1000000) 59 31 1000000 = w2
  have ha1' : Ag SlP w w1 := (Ag.rf.wI (Or.inr ⟨rfl, Or.inl rfl⟩)).tr (ha1.wk fun j i z => by omega)
  have ha2 : Ag SlP w w2 := by
    rw [← hw2]
    exact (((ha1'.wI (Or.inr ⟨rfl, Or.inr (Or.inr ⟨by decide, by decide⟩)⟩)).wI (Or.inr ⟨rfl, Or.inr (Or.inr ⟨by decide, by decide⟩)⟩)).wI (Or.inr ⟨rfl, Or.inr (Or.inr ⟨by decide, by decide⟩)⟩)).wI (Or.inr ⟨rfl, Or.inr (Or.inr ⟨by decide, by decide⟩)⟩)
  have e22 : w2.1 59 22 = 0 := by
    rw [← hw2]
    have : w1.1 59 22 = 0 := by rw [(ha1 59 22 (by omega)).1]; simp [wI]
    simp [wI, this]
  have hS2 : MSt w2 T D F := ⟨hM.ag ha2 (fun i z => by omega), hTF.ag ha2 (fun i z => by omega), hR.ag ha2 (fun i z => by omega), e22⟩
  have e28 : w2.1 59 28 = qvM qn := by rw [← hw2]; simp [wI]
  have e69 : ∀ q, q < 8 → w2.1 69 q = nI (D q) := fun q hq8 => by
    have := hc1 q hq8
    rw [Nat.zero_add, wI_ne (by decide), hR q hq8] at this
    rw [← hw2, wI_ne (by decide), wI_ne (by decide), wI_ne (by decide), wI_ne (by decide)]; exact this
  have hO := hP.2.1
  have := u_tryLoads hP hq (nL T) 0 0 (by omega) (Nat.pow_pos (Nat.succ_pos _)) d w2 (fun v w' => o_vret Q [.ref 59, .int (qvM qn)] (v.toList ++ []) w') hS2 e28 ⟨fun q z => absurd z (Nat.not_lt_zero _), fun q _ z => e69 q z⟩ (fun h hh => by
    obtain ⟨s, es, h1, h2⟩ := (hO.2.2.2.2.2.2.1 h hh).2.2
    rw [es]
    exact nI_nlt (b := 0) (by omega) (by omega)) (by
      rw [Nat.zero_mul]
      refine ⟨?_, ?_, fun z => absurd z (by decide), ?_⟩
      · rw [← hw2]; simp [wI]; rfl
      · rw [← hw2]; simp [wI]; rfl
      · rw [← hw2]; simp [wI]; rfl) (fun w3 ha3 _ hB3 => by
        simp +decide (disch := omega) only [↓EQA, CEA, LIA, NIA, Nat.lt_irrefl, Option.toList_some, Option.toList_none, List.cons_append, List.nil_append, true_and, and_true, Nat.reduceAdd, Nat.reduceLeDiff, not_true_eq_false, not_false_eq_true, if_true, if_false, ite_true, ite_false, Int32.reduceLT, ite_not, eq_self, or_true, true_or, ite_self, reduceIte]
        rw [Nat.zero_add, Nat.one_mul] at hB3
        refine hQ w3 (ha2.tr (ha3.wk fun j i z => by omega)) hB3 ?_
        rw [(ha3 59 22 (by omega)).1]; exact e22)
  exact this.mono (by omega)
end MSeek
/-! the least of some -/
def mnF (p : Nat → Bool) (f : Nat → Int32) (n : Nat) (a : Int32) : Int32 := fld (fun i a => if p i = true then (if f i < a then f i else a) else a) n a
theorem mnF_spec (p : Nat → Bool) (f : Nat → Int32) (a : Int32) : ∀ n, (∀ i, i < n → p i = true → ¬ f i < mnF p f n a) ∧ ¬ a < mnF p f n a ∧ (mnF p f n a = a ∨ ∃ i, i < n ∧ p i = true ∧ mnF p f n a = f i) := by
  intro n
  induction n with
  | zero => exact ⟨fun i hi => absurd hi (Nat.not_lt_zero _), Int32.lt_irrefl, Or.inl rfl⟩
  | succ n ih =>
    obtain ⟨h1, h2, h3⟩ := ih
    have e : mnF p f (n + 1) a = if p n = true then (if f n < mnF p f n a then f n else mnF p f n a) else mnF p f n a := rfl
    rw [e]
    by_cases q : p n = true
    · rw [if_pos q]
      by_cases q2 : f n < mnF p f n a
      · rw [if_pos q2]
        refine ⟨fun i hi hp z => ?_, fun z => h2 (Int32.lt_trans z q2), Or.inr ⟨n, by omega, q, rfl⟩⟩
        by_cases ei : i = n
        · subst ei; exact Int32.lt_irrefl z
        · exact h1 i (by omega) hp (Int32.lt_trans z q2)
      · rw [if_neg q2]
        refine ⟨fun i hi hp z => ?_, h2, h3.imp id fun ⟨i, a1, a2, a3⟩ => ⟨i, by omega, a2, a3⟩⟩
        by_cases ei : i = n
        · subst ei; exact q2 z
        · exact h1 i (by omega) hp z
    · rw [if_neg q]
      refine ⟨fun i hi hp z => ?_, h2, h3.imp id fun ⟨i, a1, a2, a3⟩ => ⟨i, by omega, a2, a3⟩⟩
      by_cases ei : i = n
      · subst ei; exact q hp
      · exact h1 i (by omega) hp z
theorem mnF_eq {p p' : Nat → Bool} {f f' : Nat → Int32} {n n' : Nat} {a : Int32} (h : ∀ i, i < n → p i = true → ∃ j, j < n' ∧ p' j = true ∧ f' j = f i) (h' : ∀ i, i < n' → p' i = true → ∃ j, j < n ∧ p j = true ∧ f j = f' i) : mnF p f n a = mnF p' f' n' a := by
  obtain ⟨a1, a2, a3⟩ := mnF_spec p f a n
  obtain ⟨b1, b2, b3⟩ := mnF_spec p' f' a n'
  have l1 : ¬ mnF p f n a < mnF p' f' n' a := by
    rcases a3 with e | ⟨i, hi, hp, e⟩
    · rw [e]; exact b2
    · obtain ⟨j, hj, hpj, ej⟩ := h i hi hp
      rw [e, ← ej]; exact b1 j hj hpj
  have l2 : ¬ mnF p' f' n' a < mnF p f n a := by
    rcases b3 with e | ⟨i, hi, hp, e⟩
    · rw [e]; exact a2
    · obtain ⟨j, hj, hpj, ej⟩ := h' i hi hp
      rw [e, ← ej]; exact a1 j hj hpj
  exact Int32.le_antisymm (Int32.not_lt.mp l2) (Int32.not_lt.mp l1)
theorem pd_sur {T : Tv} (E : Nat → Nat) : ∀ l, (∀ q, q < l → E q ≤ nH T) → ∃ x, x < KK T ^ l ∧ ∀ q, q < l → pd T l x q = E q := by
  intro l
  induction l with
  | zero => intro _; exact ⟨0, Nat.pow_pos (Nat.succ_pos _), fun q hq => absurd hq (Nat.not_lt_zero _)⟩
  | succ l ih =>
    intro h
    obtain ⟨x, hx, e⟩ := ih fun q hq => h q (by omega)
    have hp := h l (by omega)
    refine ⟨x * KK T + E l, ?_, fun q hq => ?_⟩
    · rw [Nat.pow_succ]
      have h1 : (x + 1) * KK T ≤ KK T ^ l * KK T := Nat.mul_le_mul_right _ hx
      rw [Nat.add_mul, Nat.one_mul] at h1
      have : E l < KK T := by unfold KK; omega
      omega
    · rw [pd_succ hp (by omega)]
      by_cases z : q = l
      · rw [if_pos z, z]
      · rw [if_neg z]; exact e q (by omega)
theorem least_eq {T : Tv} {D F : Nat → Nat} {h : Nat} (hP : PU T D F) (hh : h < nH T) : fld (ltS T (RS D) h) (2 ^ nL T) 1000000 = lsN T D (some h) (KK T ^ nL T) := by
  obtain ⟨hZ, hO, hD, hDH, h0, h7, hFr⟩ := id hP
  have hz := hZ.2
  have e1 : fld (ltS T (RS D) h) (2 ^ nL T) 1000000 = mnF (fun c => decide (¬ T 5 h < nI (pc5 c))) (toC T (RS D) h) (2 ^ nL T) 1000000 := by
    refine fld_congr (fun c a _ => ?_) _
    unfold ltS
    by_cases q : T 5 h < nI (pc5 c) <;> simp [q]
  have e2 : lsN T D (some h) (KK T ^ nL T) = mnF (fitB T) (fun i => TO T (VC (ldR T i (RS D).2)) h) (KK T ^ nL T) 1000000 := rfl
  rw [e1, e2]
  refine mnF_eq (fun c hc hp => ?_) (fun i hi hp => ?_)
  · have hp2 : ¬ T 5 h < nI (pc5 c) := by simpa using hp
    have hc32 : c < 32 := Nat.lt_of_lt_of_le hc (sh5 hz.2.2.1).2
    obtain ⟨i, hi, ei⟩ := pd_sur (T := T) (fun q => if c.testBit q then h + 1 else 0) (nL T) fun q hq => by
      split <;> omega
    have ec : cw (dg T i) h = c := by
      refine eq_bits (cw_lt _ _) hc32 fun l hl => ?_
      rw [cw_bit _ _ hl]
      by_cases z : l < nL T
      · rw [← pd_full z, ei l z]
        cases c.testBit l <;> simp
      · rw [dg_hi (by omega)]
        have : (2 : Nat) ^ nL T ≤ 2 ^ l := Nat.pow_le_pow_right (by decide) (by omega)
        rw [Nat.testBit_lt_two_pow (by omega)]
        simp
    refine ⟨i, hi, ?_, ?_⟩
    · unfold fitB
      rw [decide_eq_true_eq]
      intro g hg
      by_cases z : g = h
      · subst z; rw [ec]; exact hp2
      · have e0 : cw (dg T i) g = 0 := by
          refine eq_bits (cw_lt _ _) (by decide) fun l hl => ?_
          rw [cw_bit _ _ hl]
          by_cases z2 : l < nL T
          · rw [← pd_full z2, ei l z2]
            cases c.testBit l <;> simp
            omega
          · rw [dg_hi (by omega)]; simp
        rw [e0, pc5_0]
        obtain ⟨s, es, h1, h2⟩ := (hO.2.2.2.2.2.2.1 g hg).2.2
        rw [es]
        exact nI_nlt (b := 0) (by omega) (by omega)
    · show toC T (RS D) h (cw (dg T i) h) = _
      rw [ec]
  · refine ⟨cw (dg T i) h, cw_ltL hz.2.2.1 fun l hl _ => dg_hi hl, ?_, rfl⟩
    have := of_decide_eq_true (show decide _ = true from hp) h hh
    simpa using this
