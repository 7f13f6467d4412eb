/-! ===== loads by their numbers: the digits of i, the first lodger's first ===== -/
def KK (T : Tv) : Nat := nH T + 1
def dg (T : Tv) (i l : Nat) : Nat := if l < nL T then i / KK T ^ (nL T - 1 - l) % KK T else 0
section Dig
variable {K n i p q l : Nat}
theorem dgS (hK : 1 ≤ K) (hm : i % K ^ (n - p) = K ^ (n - p) - 1) : i + 1 = K ^ (n - p) * (i / K ^ (n - p) + 1) := by
  have hM : 1 ≤ K ^ (n - p) := Nat.pow_pos hK
  have h1 := Nat.div_add_mod i (K ^ (n - p))
  rw [Nat.mul_add, Nat.mul_one]
  omega
theorem dgA1 (hp : p ≤ q) (hq : q < n) (hK : 1 ≤ K) (hm : i % K ^ (n - p) = K ^ (n - p) - 1) : (i + 1) / K ^ (n - 1 - q) % K = 0 := by
  have h2 := dgS hK hm
  generalize i / K ^ (n - p) + 1 = t at h2
  have h3 : K ^ (n - p) = K ^ (n - 1 - q) * (K * K ^ (q - p)) := by rw [← Nat.pow_succ', ← Nat.pow_add]; congr 1; omega
  rw [h2, h3, Nat.mul_assoc, Nat.mul_div_cancel_left _ (Nat.pow_pos hK), Nat.mul_assoc, Nat.mul_mod_right]
theorem dgA0 (hK : 1 ≤ K) (hm : i % K ^ (n - p) = K ^ (n - p) - 1) : (i + 1) / K ^ (n - p) = i / K ^ (n - p) + 1 := by
  have h : (i + 1) / K ^ (n - p) = K ^ (n - p) * (i / K ^ (n - p) + 1) / K ^ (n - p) := by rw [← dgS hK hm]
  rw [h, Nat.mul_div_cancel_left _ (Nat.pow_pos hK)]
theorem dgA2 (hK : 1 ≤ K) (hm : i % K ^ (n - p) = K ^ (n - p) - 1) (hx : i / K ^ (n - p) % K + 1 < K) : (i + 1) / K ^ (n - p) % K = i / K ^ (n - p) % K + 1 := by
  rw [dgA0 hK hm, Nat.add_mod, Nat.mod_eq_of_lt (show 1 < K by omega), Nat.mod_eq_of_lt hx]
theorem dgA3 (hq : q < l) (hl : l + 1 = p) (hpn : p ≤ n) (hK : 1 ≤ K) (hm : i % K ^ (n - p) = K ^ (n - p) - 1) (hx : i / K ^ (n - p) % K + 1 < K) : (i + 1) / K ^ (n - 1 - q) = i / K ^ (n - 1 - q) := by
  have e : K ^ (n - 1 - q) = K ^ (n - p) * (K * K ^ (l - q - 1)) := by rw [← Nat.pow_succ', ← Nat.pow_add]; congr 1; omega
  rw [e, ← Nat.div_div_eq_div_mul, ← Nat.div_div_eq_div_mul, ← Nat.div_div_eq_div_mul i, ← Nat.div_div_eq_div_mul (i / K ^ (n - p)), dgA0 hK hm]
  generalize i / K ^ (n - p) = x at hx ⊢
  have h := Nat.div_add_mod x K
  have e2 : x + 1 = K * (x / K) + (x % K + 1) := by omega
  rw [show (x + 1) / K = x / K by
    conv => lhs; rw [e2]
    rw [Nat.mul_add_div hK, Nat.div_eq_of_lt hx, Nat.add_zero]]
theorem dgA4 (hl : l + 1 = p) (hpn : p ≤ n) (hK : 1 ≤ K) (hm : i % K ^ (n - p) = K ^ (n - p) - 1) (hx : i / K ^ (n - p) % K = K - 1) : i % K ^ (n - l) = K ^ (n - l) - 1 := by
  have e : K ^ (n - l) = K ^ (n - p) * K := by rw [← Nat.pow_succ]; congr 1; omega
  have hM : 1 ≤ K ^ (n - p) := Nat.pow_pos hK
  rw [e, Nat.mod_mul, hm, hx, Nat.mul_sub, Nat.mul_one]
  have : K ^ (n - p) * 1 ≤ K ^ (n - p) * K := Nat.mul_le_mul_left _ hK
  omega
end Dig
theorem cw_ltL {D : Nat → Nat} {h n : Nat} (hn : n ≤ 5) (hD : ∀ l, n ≤ l → l < 5 → D l = 0) : cw D h < 2 ^ n := by
  apply Nat.lt_pow_two_of_testBit
  intro i hi
  by_cases q : i < 5
  · rw [cw_bit _ _ q, hD i hi q]; simp
  · have p : (32 : Nat) ≤ 2 ^ i := Nat.pow_le_pow_right (n := 2) (by decide) (show 5 ≤ i by omega)
    exact Nat.testBit_lt_two_pow (by have := cw_lt D h; omega)
theorem dg_hi {T : Tv} {i l : Nat} (h : nL T ≤ l) : dg T i l = 0 := if_neg (by omega)
theorem dg_le {T : Tv} {i l : Nat} : dg T i l ≤ nH T := by
  unfold dg
  split
  · have : i / KK T ^ (nL T - 1 - l) % KK T < KK T := Nat.mod_lt _ (Nat.succ_pos _)
    unfold KK at *
    omega
  · exact Nat.zero_le _
theorem dg_0 {T : Tv} {l : Nat} : dg T 0 l = 0 := by
  unfold dg
  split
  · rw [Nat.zero_div, Nat.zero_mod]
  · rfl
theorem clb_no {x l : Nat} (h : x.testBit l = false) : clb x l = x := by unfold clb; rw [h]; rfl
section Next
variable {d : Nat} {w : Mem} {Q : Option Value → Mem → Prop} {T : Tv} {D : Nat → Nat} {R : Rc} {i h l r : Nat}
abbrev TRI (w : Mem) (E : Nat → Nat) : Prop := (∀ l, l < 5 → w.1 51 l = plD (E l)) ∧ ∀ h, h < 4 → w.1 19 h = nI (cw E h)
theorem t_nextLoad (hT : Told w T) (hZ : SZ T) (hH : 1 ≤ nH T) (hi : i < KK T ^ nL T) (hE : TRI w (dg T i)) (hQ : ∀ w', Ag (fun j _ => j = 51 ∨ j = 19) w w' → TRI w' (dg T (i + 1)) → Q none w') : Cl (d + 1) m_X2_nextLoad [.ref 45] w Q := by
  have hz := hZ.2
  have hK : 1 ≤ KK T := Nat.succ_pos _
  refine Cl_of k_X2_nextLoad.1 (Nat.le_of_ble_eq_true rfl) (show Wp m_X2_nextLoad _ 0 _ 0 [.ref 45, .null, .null, .null] [] _ from S_X2_nextLoad_0 _ _ _ ?_)
  simp +decide (disch := omega) only [↓EQA, CEA, LIA, NIA, Nat.lt_irrefl, Option.toList_some, Option.toList_none, List.cons_append, List.nil_append, true_and, and_true, Nat.reduceAdd, Nat.reduceLeDiff, not_true_eq_false, not_false_eq_true, if_true, if_false, ite_true, ite_false, Int32.reduceLT, ite_not, eq_self, or_true, true_or, ite_self, reduceIte, B_X2_nextLoad_0, hT, hZ.1]
  rw [Int32.sub_eq_add_neg]
  have key : ∀ p, p ≤ nL T → i % KK T ^ (nL T - p) = KK T ^ (nL T - p) - 1 → ∀ w1 (v2 v3 : Value), Ag (fun j _ => j = 51 ∨ j = 19) w w1 → TRI w1 (fun q => if q < p then dg T i q else 0) → Wp m_X2_nextLoad d 0 Q 13 [.ref 45, .int (nI p + (-1)), v2, v3] [] w1 := by
    intro p
    induction p with
    | zero =>
      intro _ hm w1 v2 v3 ha hE1
      have e0 : (nI 0 + (-1) < 0) = True := by decide
      refine S_X2_nextLoad_L1 _ _ _ ?_
      simp +decide (disch := omega) only [↓EQA, CEA, LIA, NIA, Nat.lt_irrefl, Option.toList_some, Option.toList_none, List.cons_append, List.nil_append, true_and, and_true, Nat.reduceAdd, Nat.reduceLeDiff, not_true_eq_false, not_false_eq_true, if_true, if_false, ite_true, ite_false, Int32.reduceLT, ite_not, eq_self, or_true, true_or, ite_self, reduceIte, B_X2_nextLoad_L1, e0]
      have er : ∀ q, q < 5 → dg T (i + 1) q = 0 := by
        intro q hq
        unfold dg
        split
        · next z => exact dgA1 (p := 0) (Nat.zero_le _) z hK hm
        · rfl
      refine hQ w1 ha ⟨fun l hl => ?_, fun h hh => ?_⟩
      · rw [hE1.1 l hl, er l hl]; simp
      · rw [hE1.2 h hh]
        refine congrArg nI (cw_congr fun l hl => ?_)
        rw [er l hl]; simp
    | succ l ih =>
      intro hp hm w1 v2 v3 ha hE1
      have hl5 : l < 5 := by omega
      have hlL : l < nL T := by omega
      have hT1 : Told w1 T := hT.ag ha (fun a b p q z => by omega)
      have eD : dg T i l = i / KK T ^ (nL T - (l + 1)) % KK T := by unfold dg; rw [if_pos hlL]; congr 3; omega
      have hle : dg T i l ≤ nH T := dg_le
      have e51 : w1.1 51 l = plD (dg T i l) := by rw [hE1.1 l hl5]; simp
      obtain ⟨e2, -⟩ := sh5 (n := l) (by omega)
      -- the row with this place cleared
      have eE : updD (fun q => if q < l + 1 then dg T i q else 0) l 0 = fun q => if q < l then dg T i q else 0 := by
        funext q
        unfold updD
        by_cases z : q = l
        · subst z; simp
        · rw [if_neg z]
          by_cases z2 : q < l
          · show (if q < l + 1 then dg T i q else 0) = if q < l then dg T i q else 0
            rw [if_pos (by omega), if_pos z2]
          · show (if q < l + 1 then dg T i q else 0) = if q < l then dg T i q else 0
            rw [if_neg (by omega), if_neg z2]
      generalize hEl : (fun q => if q < l then dg T i q else 0) = El at eE ih
      have El_l : El l = 0 := by rw [← hEl]; simp
      have cl : ∀ h, h < 4 → clb (cw (fun q => if q < l + 1 then dg T i q else 0) h) l = cw El h := fun h _ => by rw [← eE, cw_upd hl5, if_neg (by omega)]
      have cl2 : ∀ h, clb (cw El h) l = cw El h := fun h => clb_no (by rw [cw_bit _ _ hl5, El_l]; simp)
      -- raising the place
      have up : dg T i l < nH T → ∀ q, q < 5 → updD El l (dg T i l + 1) q = dg T (i + 1) q := by
        intro hlt q hq
        have hx : i / KK T ^ (nL T - (l + 1)) % KK T + 1 < KK T := by rw [← eD]; unfold KK; omega
        unfold updD
        by_cases z : q = l
        · subst z
          rw [if_pos rfl, eD]
          unfold dg
          rw [if_pos hlL, show nL T - 1 - q = nL T - (q + 1) by omega]
          exact (dgA2 hK hm hx).symm
        · rw [if_neg z, ← hEl]
          by_cases z2 : q < l
          · simp only [z2, if_true]
            unfold dg
            rw [if_pos (by omega), if_pos (by omega), dgA3 z2 rfl hp hK hm hx]
          · simp only [z2, if_false]
            unfold dg
            split
            · next z3 => exact (dgA1 (p := l + 1) (by omega) z3 hK hm).symm
            · rfl
      -- the end where the place is raised
      have fin : ∀ w2 : Mem, dg T i l < nH T → Ag (fun j _ => j = 51 ∨ j = 19) w w2 → (∀ q, q < 5 → q ≠ l → w2.1 51 q = plD (El q)) → (∀ h, h < 4 → w2.1 19 h = nI (cw El h)) → Q none (wI (wI w2 51 l (nI (dg T i l))) 19 (dg T i l) (nI (stb (cw El (dg T i l)) l))) := by
        intro w2 hlt ha2 h51 h19
        have hup := up hlt
        refine hQ _ ((ha2.wI (Or.inl rfl)).wI (Or.inr rfl)) ⟨fun q hq => ?_, fun h hh => ?_⟩
        · rw [wI_ne (by decide), wI_get, ← hup q hq]
          unfold updD
          by_cases z : q = l
          · rw [if_pos ⟨rfl, z⟩, if_pos z]; unfold plD; rw [if_neg (by omega)]; rfl
          · rw [if_neg (fun y => z y.2), if_neg z]; exact h51 q hq z
        · rw [show cw (dg T (i + 1)) h = cw (updD El l (dg T i l + 1)) h from cw_congr fun q hq => by rw [hup q hq], cw_upd hl5, cl2, wI_get]
          by_cases z : h = dg T i l
          · rw [if_pos ⟨rfl, z⟩, if_pos (by omega), z]
          · rw [if_neg (fun y => z y.2), if_neg (by omega), wI_ne (by decide)]; exact h19 h hh
      cases hdg : dg T i l with
      | zero =>
        rw [hdg] at e51 fin
        have e51' : w1.1 51 l = -2 := e51
        have hcE : ∀ h, h < 4 → w1.1 19 h = nI (cw El h) := fun h hh => by
          rw [hE1.2 h hh, ← cl h hh]
          refine congrArg nI (clb_no ?_).symm
          rw [cw_bit _ _ hl5]; simp [hdg]
        have hn0 : 0 < nH T := hH
        have hlt0 : (0 : Int32) < nI (nH T) := nI_lt (a := 0) hn0 (by omega)
        have r19 : (wI w1 51 l 0).1 19 0 = nI (cw El 0) := by rw [wI_ne (by decide)]; exact hcE 0 (by decide)
        refine S_X2_nextLoad_L1 _ _ _ ?_
        simp +decide (disch := omega) only [↓EQA, CEA, LIA, NIA, Nat.lt_irrefl, Option.toList_some, Option.toList_none, List.cons_append, List.nil_append, true_and, and_true, Nat.reduceAdd, Nat.reduceLeDiff, not_true_eq_false, not_false_eq_true, if_true, if_false, ite_true, ite_false, Int32.reduceLT, ite_not, eq_self, or_true, true_or, ite_self, reduceIte, B_X2_nextLoad_L1, nI_m1, hl5, e51', B_X2_nextLoad_J1, B_X2_nextLoad_J2, hT1, hZ.1, hn0, r19, stN (cw_lt El 0) hl5]
        have := fin w1 hn0 ha (fun q hq z => by
          rw [hE1.1 q hq, ← hEl]
          by_cases z2 : q < l
          · simp only [z2, if_true]; rw [if_pos (by omega)]
          · simp only [z2, if_false]; rw [if_neg (by omega)]) hcE
        rw [nI_0] at this
        exact this
      | succ e =>
        rw [hdg] at e51 fin hle up
        have e51' : w1.1 51 l = nI e := e51
        have he4 : e < 4 := by omega
        have ecw : w1.1 19 e = nI (cw (fun q => if q < l + 1 then dg T i q else 0) e) := hE1.2 e he4
        have ha2 := ha.wI (k := 19) (p := e) (v := nI (cw El e)) (Or.inr rfl)
        have hT2 : Told (wI w1 19 e (nI (cw El e))) T := hT.ag ha2 (fun a b p q z => by omega)
        have hcE : ∀ h, h < 4 → (wI w1 19 e (nI (cw El e))).1 19 h = nI (cw El h) := fun h hh => by
          rw [wI_get]
          by_cases z : h = e
          · rw [if_pos ⟨rfl, z⟩, z]
          · rw [if_neg (fun y => z y.2), hE1.2 h hh, ← cl h hh]
            refine congrArg nI (clb_no ?_).symm
            rw [cw_bit _ _ hl5]; simp [hdg]; omega
        have h51 : ∀ q, q < 5 → q ≠ l → (wI w1 19 e (nI (cw El e))).1 51 q = plD (El q) := fun q hq z => by
          rw [wI_ne (by decide), hE1.1 q hq, ← hEl]
          by_cases z2 : q < l
          · simp only [z2, if_true]; rw [if_pos (by omega)]
          · simp only [z2, if_false]; rw [if_neg (by omega)]
        have ne2 : (nI e = -2) = False := eq_false fun z => by
          have := nI_pos (n := e) (by omega)
          rw [z] at this
          exact this (by decide)
        have ecl : nI (cw (fun q => if q < l + 1 then dg T i q else 0) e) &&& ((1 <<< (nI l &&& 31)) ^^^ (-1)) = nI (cw El e) := by rw [clN (cw_lt _ _) hl5, cl e he4]
        by_cases qn : e + 1 < nH T
        · have he14 : e + 1 < 4 := by omega
          have r19 : (wI (wI w1 19 e (nI (cw El e))) 51 l (nI (e + 1))).1 19 (e + 1) = nI (cw El (e + 1)) := by rw [wI_ne (by decide)]; exact hcE _ he14
          refine S_X2_nextLoad_L1 _ _ _ ?_
          simp +decide (disch := omega) only [↓EQA, CEA, LIA, NIA, Nat.lt_irrefl, Option.toList_some, Option.toList_none, List.cons_append, List.nil_append, true_and, and_true, Nat.reduceAdd, Nat.reduceLeDiff, not_true_eq_false, not_false_eq_true, if_true, if_false, ite_true, ite_false, Int32.reduceLT, ite_not, eq_self, or_true, true_or, ite_self, reduceIte, B_X2_nextLoad_L1, nI_m1, hl5, e51', he4, ecw, ecl, B_X2_nextLoad_J1, ne2, nI_1, B_X2_nextLoad_J2, hT2, hZ.1, qn, he14, r19, stN (cw_lt El (e + 1)) hl5]
          exact fin _ qn ha2 h51 hcE
        · have hnn : e + 1 = nH T := by omega
          have hx : i / KK T ^ (nL T - (l + 1)) % KK T = KK T - 1 := by rw [← eD, hdg]; unfold KK; omega
          refine S_X2_nextLoad_L1 _ _ _ ?_
          simp +decide (disch := omega) only [↓EQA, CEA, LIA, NIA, Nat.lt_irrefl, Option.toList_some, Option.toList_none, List.cons_append, List.nil_append, true_and, and_true, Nat.reduceAdd, Nat.reduceLeDiff, not_true_eq_false, not_false_eq_true, if_true, if_false, ite_true, ite_false, Int32.reduceLT, ite_not, eq_self, or_true, true_or, ite_self, reduceIte, B_X2_nextLoad_L1, nI_m1, hl5, e51', he4, ecw, ecl, B_X2_nextLoad_J1, ne2, nI_1, B_X2_nextLoad_J2, hT2, hZ.1, qn]
          refine ih (by omega) (dgA4 rfl hp hK hm hx) _ _ _ (ha2.wI (Or.inl rfl)) ⟨fun q hq => ?_, fun h hh => ?_⟩
          · rw [wI_get]
            by_cases z : q = l
            · rw [if_pos ⟨rfl, z⟩, z, El_l]; rfl
            · rw [if_neg (fun y => z y.2)]; exact h51 q hq z
          · rw [wI_ne (by decide)]; exact hcE h hh
  refine key (nL T) (Nat.le_refl _) (by rw [Nat.sub_self, Nat.pow_zero]; exact Nat.mod_one i) w _ _ Ag.rf ⟨fun l hl => ?_, fun h hh => ?_⟩
  · rw [hE.1 l hl]
    show _ = plD (if l < nL T then dg T i l else 0)
    split
    · rfl
    · next z => rw [dg_hi (by omega)]
  · rw [hE.2 h hh]
    refine congrArg nI (cw_congr fun l hl => ?_)
    show _ ↔ (if l < nL T then dg T i l else 0) = h + 1
    split
    · exact Iff.rfl
    · next z => rw [dg_hi (by omega)]
end Next
