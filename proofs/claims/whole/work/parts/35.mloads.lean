/-! ===== the reference's search over loads ===== -/
/-- what is so of the state, apart from memory -/
abbrev PU (T : Tv) (D F : Nat → Nat) : Prop := SZ T ∧ TOK T ∧ DOK D ∧ DH T D ∧ (∀ l, nL T ≤ l → l < 5 → D l = 0) ∧ 1 ≤ D 7 ∧ FRM T F
def ldD (T : Tv) (D : Nat → Nat) (i : Nat) : Nat → Nat := fun q => if q < nL T then dg T i q else D q
theorem ldD_RS {T : Tv} {D : Nat → Nat} {i : Nat} (hz : nL T ≤ 5) (h0 : ∀ l, nL T ≤ l → l < 5 → D l = 0) : RS (ldD T D i) = ldR T i (RS D).2 := by
  have e : cw (ldD T D i) = cw (dg T i) := funext fun h => cw_congr fun l hl => by
    unfold ldD
    split
    · exact Iff.rfl
    · next q => rw [h0 l (by omega) hl, dg_hi (by omega)]
  show (cw (ldD T D i), ldD T D i 7, 0, ldD T D i 6, ldD T D i 5) = (cw (dg T i), D 7, 0, D 6, D 5)
  rw [e]
  unfold ldD
  rw [if_neg (by omega), if_neg (by omega), if_neg (by omega)]
theorem ldD_ok {T : Tv} {D : Nat → Nat} {i : Nat} (hz : nH T ≤ 4 ∧ nL T ≤ 5) (hD : DOK D) : DOK (ldD T D i) := by
  unfold ldD
  refine ⟨fun l hl => ?_, ?_, ?_, ?_⟩
  · dsimp only
    split
    · exact Nat.le_trans dg_le hz.1
    · exact hD.1 l hl
  · dsimp only; rw [if_neg (by omega)]; exact hD.2.1
  · dsimp only; rw [if_neg (by omega)]; exact hD.2.2.1
  · dsimp only; rw [if_neg (by omega)]; exact hD.2.2.2
theorem cnt_ext {p : Nat → Bool} {n m : Nat} (h : n ≤ m) (hf : ∀ j, n ≤ j → j < m → p j = false) : cnt p m = cnt p n := by
  induction m with
  | zero => have : n = 0 := by omega
            rw [this]
  | succ m ih =>
    by_cases q : n = m + 1
    · rw [q]
    · unfold cnt
      rw [hf m (by omega) (by omega), ih (by omega) fun j a b => hf j a (by omega)]
      cases n <;> rfl
theorem mv5 {x y : Nat} (hx : x ≤ 4) (hy : y ≤ 4) : (xor (decide (x = 1)) (decide (y = 1)) || xor (decide (x = 2)) (decide (y = 2)) || xor (decide (x = 3)) (decide (y = 3)) || xor (decide (x = 4)) (decide (y = 4))) = decide (x ≠ y) := by
  rcases (by omega : x = 0 ∨ x = 1 ∨ x = 2 ∨ x = 3 ∨ x = 4) with rfl | rfl | rfl | rfl | rfl <;> rcases (by omega : y = 0 ∨ y = 1 ∨ y = 2 ∨ y = 3 ∨ y = 4) with rfl | rfl | rfl | rfl | rfl <;> rfl
theorem mvN_eq {T : Tv} {D F : Nat → Nat} {i : Nat} (hP : PU T D F) : mvN T D i = cnt (fun q => decide (dg T i q ≠ D q)) (nL T) := by
  obtain ⟨hZ, -, hD, -, h0, -, -⟩ := hP
  have hz := hZ.2
  unfold mvN pc5
  rw [cnt_congr (q := fun q => decide (dg T i q ≠ D q)) fun l hl => ?_]
  · exact cnt_ext hz.2.2.1 fun j a b => by rw [dg_hi a, h0 j a b]; rfl
  · have e : mvB (ldR T i (RS D).2) (RS D) 4 = (((0 ||| (cw (dg T i) 0 ^^^ cw D 0)) ||| (cw (dg T i) 1 ^^^ cw D 1)) ||| (cw (dg T i) 2 ^^^ cw D 2)) ||| (cw (dg T i) 3 ^^^ cw D 3) := rfl
    rw [e]
    simp only [Nat.testBit_or, Nat.testBit_xor, Nat.zero_testBit, Bool.false_or, cw_bit _ _ hl]
    exact mv5 (Nat.le_trans dg_le hz.2.1) (hD.1 l hl)
theorem pc5_cw {D : Nat → Nat} {h : Nat} : pc5 (cw D h) = cnt (fun q => decide (D q = h + 1)) 5 := cnt_congr fun l hl => cw_bit D h hl
theorem fitB_iff {T : Tv} {i : Nat} (hz : nL T ≤ 5) : fitB T i = true ↔ ∀ h, h < nH T → ¬ T 5 h < nI (cnt (fun q => decide (dg T i q = h + 1)) (nL T)) := by
  unfold fitB
  rw [decide_eq_true_eq]
  have e : ∀ h, pc5 (cw (dg T i) h) = cnt (fun q => decide (dg T i q = h + 1)) (nL T) := fun h => by
    rw [pc5_cw]
    exact cnt_ext hz fun j a b => by rw [dg_hi a]; simp
  constructor
  · intro z h hh; rw [← e]; exact z h hh
  · intro z h hh; rw [e]; exact z h hh
/-- the least total of a house over the loads -/
def lsL (T : Tv) (D : Nat → Nat) (qn : Option Nat) (i : Nat) (a : Int32) : Int32 := match qn with
  | none => a
  | some h => if fitB T i = true then (if TO T (VC (ldR T i (RS D).2)) h < a then TO T (VC (ldR T i (RS D).2)) h else a) else a
def lsN (T : Tv) (D : Nat → Nat) (qn : Option Nat) (n : Nat) : Int32 := fld (lsL T D qn) n 1000000
def qvM : Option Nat → Int32
  | none => -1
  | some h => nI h
/-- the digits of a prefix of l places -/
def pd (T : Tv) (l x q : Nat) : Nat := x / KK T ^ (l - 1 - q) % KK T
theorem pd_le {T : Tv} {l x q : Nat} : pd T l x q ≤ nH T := by
  have : x / KK T ^ (l - 1 - q) % KK T < KK T := Nat.mod_lt _ (Nat.succ_pos _)
  unfold KK at this
  unfold pd KK
  omega
theorem pd_dg {T : Tv} {l k x i q : Nat} (hk : l + k = nL T) (hq : q < l) (h1 : x * KK T ^ k ≤ i) (h2 : i < (x + 1) * KK T ^ k) : dg T i q = pd T l x q := by
  have hK : 0 < KK T ^ k := Nat.pow_pos (Nat.succ_pos _)
  have e : i / KK T ^ k = x := by
    apply Nat.div_eq_of_lt_le
    · exact h1
    · exact h2
  unfold dg pd
  rw [if_pos (by omega), show nL T - 1 - q = k + (l - 1 - q) by omega, Nat.pow_add, ← Nat.div_div_eq_div_mul, e]
theorem pd_succ {T : Tv} {l x p q : Nat} (hp : p ≤ nH T) (hq : q ≤ l) : pd T (l + 1) (x * KK T + p) q = if q = l then p else pd T l x q := by
  have hpK : p < KK T := by unfold KK; omega
  unfold pd
  by_cases z : q = l
  · subst z
    rw [if_pos rfl, show q + 1 - 1 - q = 0 by omega, Nat.pow_zero, Nat.div_one, Nat.mul_comm, Nat.mul_add_mod, Nat.mod_eq_of_lt hpK]
  · rw [if_neg z, show l + 1 - 1 - q = (l - 1 - q) + 1 by omega, Nat.pow_succ', ← Nat.div_div_eq_div_mul, Nat.mul_comm x, Nat.mul_add_div (show KK T > 0 by omega), Nat.div_eq_of_lt hpK, Nat.add_zero]
theorem bst_skip {T : Tv} {D : Nat → Nat} {qn : Option Nat} {a : Nat} : ∀ n, (∀ i, a ≤ i → i < a + n → fitB T i = false) → bst T D qn (a + n) = bst T D qn a ∧ lsN T D qn (a + n) = lsN T D qn a := by
  intro n
  induction n with
  | zero => intro _; exact ⟨rfl, rfl⟩
  | succ n ih =>
    intro h
    obtain ⟨i1, i2⟩ := ih fun i h1 h2 => h i h1 (by omega)
    have hf := h (a + n) (by omega) (by omega)
    constructor
    · show bsS T D qn (a + n) (bst T D qn (a + n)) = _
      unfold bsS
      rw [if_neg (fun z => by rw [hf] at z; cases z.1), i1]
    · show lsL T D qn (a + n) (lsN T D qn (a + n)) = _
      unfold lsL
      cases qn with
      | none => exact i2
      | some h => dsimp only; rw [hf, if_neg (by decide), i2]
section MLoads
variable {d : Nat} {w : Mem} {Q : Option Value → Mem → Prop} {T : Tv} {D F : Nat → Nat} {i h l r : Nat} {qn : Option Nat}
/-- the reference's best so far -/
abbrev BSM (w : Mem) (T : Tv) (D : Nat → Nat) (qn : Option Nat) (i : Nat) : Prop := w.1 59 29 = (bst T D qn i).1 ∧ w.1 59 30 = (bst T D qn i).2.1 ∧ (1 ≤ i → ∀ l, l < 5 → w.1 70 l = nI (dg T (bst T D qn i).2.2 l)) ∧ w.1 59 31 = lsN T D qn i
abbrev qOK (T : Tv) (qn : Option Nat) : Prop := ∀ h, qn = some h → h < nH T
abbrev MSt (w : Mem) (T : Tv) (D F : Nat → Nat) : Prop := ToldM w T ∧ ToF w T F ∧ MR w 64 D ∧ w.1 59 22 = 0
abbrev TlP : Nat → Nat → Prop := fun j i => (67 ≤ j ∧ j ≤ 70) ∨ (j = 59 ∧ (i = 25 ∨ (29 ≤ i ∧ i ≤ 31)))
theorem MSt.ag {P : Nat → Nat → Prop} {w1 : Mem} (h : MSt w T D F) (ha : Ag P w w1) (h1 : ∀ i, ¬ P 62 i) (h2 : ∀ i, ¬ P 64 i) (h3 : ¬ P 59 22) : MSt w1 T D F := ⟨h.1.ag ha h1, h.2.1.ag ha h1, h.2.2.1.ag ha h2, by rw [(ha 59 22 h3).1]; exact h.2.2.2⟩
theorem u_keyOf (hP : PU T D F) (hS : MSt w T D F) (hq : qOK T qn) (hw : w.1 59 28 = qvM qn) (hR : MR w 69 (ldD T D i)) (hfit : fitB T i = true) (hQ : ∀ w', Ag (fun j i => j = 67 ∨ j = 68 ∨ (j = 59 ∧ (i = 25 ∨ i = 31))) w w' → w'.1 59 31 = lsL T D qn i (w.1 59 31) → Q (some (.int (kfS T D qn i))) w') : Cl (d + 7) m_X11_keyOf [.ref 59] w Q := by
  obtain ⟨hZ, hO, hD, hDH, h0, h7, hFr⟩ := id hP
  obtain ⟨hM, hTF, hS64, hdry⟩ := hS
  have hz := hZ.2
  have hok := ldD_ok (i := i) ⟨hz.2.1, hz.2.2.1⟩ hD
  have eRS := ldD_RS (i := i) hz.2.2.1 h0
  have hDH2 : DH T (ldD T D i) := fun l hl => by
    unfold ldD; split
    · exact dg_le
    · exact hDH l hl
  cases qn with
  | none =>
    have eg : TGn (ldD T D i) F (nL T) = frN T (ldR T i (RS D).2) (nF T) := by
      rw [← TG_eq (ρ := (RS D).2) hZ hDH2 hFr]
      have : cw (ldD T D i) = cw (dg T i) := congrArg Prod.fst eRS
      rw [this]; rfl
    refine Cl_of k_X11_keyOf.1 (Nat.le_of_ble_eq_true rfl) (show Wp m_X11_keyOf _ 0 _ 0 [.ref 59] [] _ from S_X11_keyOf_0 _ _ _ ?_)
    simp +decide (disch := omega) only [↓EQA, CEA, LIA, NIA, Nat.lt_irrefl, Option.toList_some, Option.toList_none, List.cons_append, List.nil_append, true_and, and_true, Nat.reduceAdd, Nat.reduceLeDiff, not_true_eq_false, not_false_eq_true, if_true, if_false, ite_true, ite_false, Int32.reduceLT, ite_not, eq_self, or_true, true_or, ite_self, reduceIte, B_X11_keyOf_0, hw, qvM]
    refine u_togetherOf (row := 69) (D := ldD T D i) hM hZ hTF rfl (fun l hl => hR l (by omega)) hok.1 ?_
    simp +decide (disch := omega) only [↓EQA, CEA, LIA, NIA, Nat.lt_irrefl, Option.toList_some, Option.toList_none, List.cons_append, List.nil_append, true_and, and_true, Nat.reduceAdd, Nat.reduceLeDiff, not_true_eq_false, not_false_eq_true, if_true, if_false, ite_true, ite_false, Int32.reduceLT, ite_not, eq_self, or_true, true_or, ite_self, reduceIte]
    rw [eg]
    exact hQ w Ag.rf rfl
  | some h =>
    have hh := hq h rfl
    have hV : RM w 69 (VC (RRain (RS (ldD T D i)) 0)) := RM_of hR hok (by decide) hdry
    have hV2 : RM w 69 (VC (ldR T i (RS D).2)) := by rw [← eRS]; exact hV
    have hpos : POS T (VC (ldR T i (RS D).2)) := POS_of hZ hO ⟨D 7, rfl, h7, hD.2.2.2⟩
    refine Cl_of k_X11_keyOf.1 (Nat.le_of_ble_eq_true rfl) (show Wp m_X11_keyOf _ 0 _ 0 [.ref 59] [] _ from S_X11_keyOf_0 _ _ _ ?_)
    have eg0 : (nI h < 0) = False := neg_f (by omega)
    simp +decide (disch := omega) only [↓EQA, CEA, LIA, NIA, Nat.lt_irrefl, Option.toList_some, Option.toList_none, List.cons_append, List.nil_append, true_and, and_true, Nat.reduceAdd, Nat.reduceLeDiff, not_true_eq_false, not_false_eq_true, if_true, if_false, ite_true, ite_false, Int32.reduceLT, ite_not, eq_self, or_true, true_or, ite_self, reduceIte, B_X11_keyOf_0, hw, qvM, eg0]
    refine u_layRanks hM hZ hO hV2 rfl hpos (Or.inr rfl) ⟨ldD T D i 6, hR 6 (by decide), Nat.zero_le _, by have := hok.2.2.1; omega⟩ fun w1 ha1 hS1 => ?_
    have e28 : w1.1 59 28 = nI h := by rw [(ha1 59 28 (by omega)).1]; exact hw
    have e31 : w1.1 59 31 = w.1 59 31 := (ha1 59 31 (by omega)).1
    have et := hS1.1.1 h hh
    have er := hS1.2 h hh
    have hh4 : h < 4 := by omega
    have eL : lsL T D (some h) i (w.1 59 31) = if TO T (VC (ldR T i (RS D).2)) h < w.1 59 31 then TO T (VC (ldR T i (RS D).2)) h else w.1 59 31 := by unfold lsL; dsimp only; rw [if_pos hfit]
    have fin : ∀ v, v = lsL T D (some h) i (w.1 59 31) → B_X11_keyOf_J1 (d + 6) 0 Q [.ref 59] [.int v, .ref 59] w1 := by
      intro v hv
      have e28' : (wI w1 59 31 v).1 59 28 = nI h := by rw [← e28]; simp [wI]
      have er' : (wI w1 59 31 v).1 68 h = nI (rkX (TO T (VC (ldR T i (RS D).2))) (nH T) (VC (ldR T i (RS D).2)).2.2.2.1 h) := by rw [wI_ne (by decide)]; exact er
      simp +decide (disch := omega) only [↓EQA, CEA, LIA, NIA, Nat.lt_irrefl, Option.toList_some, Option.toList_none, List.cons_append, List.nil_append, true_and, and_true, Nat.reduceAdd, Nat.reduceLeDiff, not_true_eq_false, not_false_eq_true, if_true, if_false, ite_true, ite_false, Int32.reduceLT, ite_not, eq_self, or_true, true_or, ite_self, reduceIte, B_X11_keyOf_J1, e28', hh4, er']
      exact hQ _ ((ha1.wk fun j i z => by omega).wI (Or.inr (Or.inr ⟨rfl, Or.inr rfl⟩))) (by rw [← hv]; simp [wI])
    simp +decide (disch := omega) only [↓EQA, CEA, LIA, NIA, Nat.lt_irrefl, Option.toList_some, Option.toList_none, List.cons_append, List.nil_append, true_and, and_true, Nat.reduceAdd, Nat.reduceLeDiff, not_true_eq_false, not_false_eq_true, if_true, if_false, ite_true, ite_false, Int32.reduceLT, ite_not, eq_self, or_true, true_or, ite_self, reduceIte, e28, e31, hh4, et]
    by_cases q : TO T (VC (ldR T i (RS D).2)) h < w.1 59 31
    · rw [if_pos q] at eL ⊢
      exact fin _ eL.symm
    · rw [if_neg q] at eL ⊢
      exact fin _ eL.symm
end MLoads
