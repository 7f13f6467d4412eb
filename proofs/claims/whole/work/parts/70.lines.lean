/-! ===== lines of the class ===== -/
def updT (T : Tv) (j i : Nat) (v : Int32) : Tv := fun a b => if a = j ∧ b = i then v else T a b
theorem ToldR.upd {w : Mem} {T : Tv} {j i : Nat} {v : Int32} (h : ToldR w T) (hj : j ≤ 12) : ToldR (wI w (29 + j) i v) (updT T j i v) := by
  obtain ⟨a0, a1, a2, a3, a4, a5, a6, a7, a8, a9, a10, a11, a12⟩ := h
  have key : ∀ k, k ≤ 12 → w.1 (29 + k) = T k → (wI w (29 + j) i v).1 (29 + k) = updT T j i v k := by
    intro k hk e
    funext b
    rw [wI_get]
    unfold updT
    by_cases z : k = j ∧ b = i
    · rw [if_pos ⟨by omega, z.2⟩, if_pos z]
    · rw [if_neg (fun y => z ⟨by omega, y.2⟩), if_neg z, e]
  exact ⟨key 0 (by decide) a0, key 1 (by decide) a1, key 2 (by decide) a2, key 3 (by decide) a3, key 4 (by decide) a4, key 5 (by decide) a5, key 6 (by decide) a6, key 7 (by decide) a7, key 8 (by decide) a8, key 9 (by decide) a9, key 10 (by decide) a10, key 11 (by decide) a11, key 12 (by decide) a12⟩
theorem stB_none {bl : Option (Nat × Nat)} {r : Ans} (h : stB bl r = none) : bl = none ∧ ∃ a, r = .inr a := by
  cases bl with
  | some e => cases h
  | none =>
    cases r with
    | inl e => cases h
    | inr a => exact ⟨rfl, a, rfl⟩
theorem CSt.ag {w w1 : Mem} {B : Nat → Nat} {n : Nat} {τ : Tk3} {bl : Option (Nat × Nat)} {P : Nat → Nat → Prop} (h : CSt w B n τ bl) (ha : Ag P w w1) (h1 : ∀ i, ¬ P 1 i) (h2 : ∀ i, ¬ P 44 i) : CSt w1 B n τ bl := by
  obtain ⟨x, c1, ⟨c2, c3, c4⟩, ct, cb⟩ := h
  have e := ha.row h2
  refine ⟨x.ag ha h1, by rw [e]; exact c1, ⟨by rw [e]; exact c2, by rw [e]; exact c3, by rw [e]; exact c4⟩, ct, ?_⟩
  match bl, cb with
  | none, cb => show w1.1 44 5 = 0; rw [e]; exact cb
  | some x, cb => exact ⟨by rw [e]; exact cb.1, cb.2.1, cb.2.2.1, by rw [e]; exact cb.2.2.2⟩
/-- all that a line may change -/
abbrev RdP : Nat → Nat → Prop := fun j _ => 22 ≤ j ∧ j ≤ 44
section Lines
variable {d : Nat} {w : Mem} {Q : Option Value → Mem → Prop} {B : Nat → Nat} {n c k : Nat} {τ : Tk3} {N : Nat → Nm4} {T : Tv}
/-- a number that stands behind a word -/
def aft (B : Nat → Nat) (n i lo hi : Nat) (τ : Tk3) : Ans := match eWord B n i τ with
  | .inl e => .inl e
  | .inr a => eWhole B n lo hi a.1
/-- tokens and blame after two steps -/
theorem st_two {bl : Option (Nat × Nat)} {r : Ans} {f : Tk3 → Ans} : stB (stB bl r) (f (stT bl r τ)) = stB bl (match r with | .inl e => .inl e | .inr a => f a.1) := by
  cases bl <;> cases r <;> rfl
theorem t_readPrize (hC : CSt w B n τ none) (hT : ToldR w T) (hk : T 0 9 = nI k) (hk4 : k < 4) (hQ : ∀ w', Ag RdP w w' → CSt w' B n (stT none (eWhole B n 0 99 τ) τ) (stB none (eWhole B n 0 99 τ)) → (∀ j i, 22 ≤ j → j ≤ 28 ∨ j = 42 ∨ j = 43 → w'.1 j i = w.1 j i) → (stB none (eWhole B n 0 99 τ) = none → ToldR w' (updT (updT T 9 k (nI (valT B τ))) 0 9 (nI (k + 1)))) → Q none w') : Cl (d + 7) m_X6_readPrize [.ref 22] w Q := by
  refine Cl_of k_X6_readPrize.1 (Nat.le_of_ble_eq_true rfl) (show Wp m_X6_readPrize _ 0 _ 0 [.ref 22, .null, .null] [] _ from S_X6_readPrize_0 _ _ _ ?_)
  simp +decide (disch := omega) only [↓EQA, CEA, LIA, NIA, Nat.lt_irrefl, Option.toList_some, Option.toList_none, List.cons_append, List.nil_append, true_and, and_true, Nat.reduceAdd, Nat.reduceLeDiff, not_true_eq_false, not_false_eq_true, if_true, if_false, ite_true, ite_false, Int32.reduceLT, ite_not, eq_self, or_true, true_or, ite_self, reduceIte, B_X6_readPrize_0]
  have := t_readWhole (d := d) (lo := 0) (hi := 99) (Q := fun v w' => o_istore 1 (o_aload 0 (o_getR 6 2 (o_getR 9 0 (o_iconst 9 (o_iald (o_istore 2 (o_aload 0 (o_getR 6 0 (o_getI 8 5 (o_ifne (o_iload 2 (o_iconst 4 (o_icmpge (o_aload 0 (o_getR 6 2 (o_getR 9 9 (o_iload 2 (o_iload 1 (o_iast (o_aload 0 (o_getR 6 2 (o_getR 9 0 (o_iconst 9 (o_dup2 (o_iald (o_iconst 1 (o_iadd (o_iast (B_X6_readPrize_J1 (d + 6) 0 Q)))))))))))))))) (B_X6_readPrize_J1 (d + 6) 0 Q)))) (B_X6_readPrize_J1 (d + 6) 0 Q)))))))))) ) [.ref 22, .null, .null] (v.toList ++ []) w') (by decide) (by decide) hC (fun w1 ha1 hC1 => by
    have hT1 : ToldR w1 T := hT.ag ha1 (fun j i a b z => by omega)
    have k9 : w1.1 29 9 = nI k := by rw [hT1.1]; exact hk
    have fr1 : ∀ j i, 22 ≤ j → j ≤ 28 ∨ j = 42 ∨ j = 43 → w1.1 j i = w.1 j i := fun j i a b => (ha1 j i (by omega)).1
    cases hb : stB none (eWhole B n 0 99 τ) with
    | some e =>
      rw [hb] at hC1
      obtain ⟨b1, b2, b3, b4⟩ : w1.1 44 5 = nI e.1 ∧ 1 ≤ e.1 ∧ e.1 ≤ 7 ∧ w1.1 44 6 = nI e.2 := hC1.2.2.2.2
      have e0 : (nI e.1 = 0) = False := eq_false fun z => by have := (nI_eq (b := 0) (by omega) (by decide)).mp z; omega
      simp +decide (disch := omega) only [↓EQA, CEA, LIA, NIA, Nat.lt_irrefl, Option.toList_some, Option.toList_none, List.cons_append, List.nil_append, true_and, and_true, Nat.reduceAdd, Nat.reduceLeDiff, not_true_eq_false, not_false_eq_true, if_true, if_false, ite_true, ite_false, Int32.reduceLT, ite_not, eq_self, or_true, true_or, ite_self, reduceIte, k9, b1, e0, B_X6_readPrize_J1]
      exact hQ w1 (ha1.wk fun j i z => by omega) (by rw [hb]; exact hC1) fr1 (fun z => by rw [hb] at z; cases z)
    | none =>
      rw [hb] at hC1
      have k5 : w1.1 44 5 = 0 := hC1.2.2.2.2
      have k9' : (wI w1 38 k (nI (valT B τ))).1 29 9 = nI k := by rw [wI_ne (by decide)]; exact k9
      simp +decide (disch := omega) only [↓EQA, CEA, LIA, NIA, Nat.lt_irrefl, Option.toList_some, Option.toList_none, List.cons_append, List.nil_append, true_and, and_true, Nat.reduceAdd, Nat.reduceLeDiff, not_true_eq_false, not_false_eq_true, if_true, if_false, ite_true, ite_false, Int32.reduceLT, ite_not, eq_self, or_true, true_or, ite_self, reduceIte, k9, k5, hk4, k9', nI_1, B_X6_readPrize_J1]
      have ha2 : Ag (fun j _ => j = 38 ∨ j = 29) w1 (wI (wI w1 38 k (nI (valT B τ))) 29 9 (nI (k + 1))) := (Ag.rf.wI (Or.inl rfl)).wI (Or.inr rfl)
      refine hQ _ ((ha1.wk fun j i z => by omega).tr (ha2.wk fun j i z => by omega)) (by rw [hb]; exact hC1.ag ha2 (fun i z => by omega) (fun i z => by omega)) (fun j i a b => by rw [(ha2 j i (by omega)).1]; exact fr1 j i a b) (fun _ => ?_)
      exact ToldR.upd (j := 0) (ToldR.upd (j := 9) hT1 (by decide)) (by decide))
  exact this
end Lines
