/-! ===== a line of friends ===== -/
section Lines7
variable {d : Nat} {w : Mem} {Q : Option Value → Mem → Prop} {B : Nat → Nat} {n c k : Nat} {τ : Tk3} {N : Nat → Nm4} {T : Tv}
def fd1 (B : Nat → Nat) (N : Nat → Nm4) (c : Nat) (τ : Tk3) : Cs := cst (eNum B N c 7) (τ, none)
def fd2 (B : Nat → Nat) (n : Nat) (N : Nat → Nm4) (c : Nat) (τ : Tk3) : Cs := cst (nxA3 B n) (fd1 B N c τ)
def fd3 (B : Nat → Nat) (n : Nat) (N : Nat → Nm4) (c : Nat) (τ : Tk3) : Cs := cst (eNum B N c 7) (fd2 B n N c τ)
def fdM (B : Nat → Nat) (n : Nat) (N : Nat → Nm4) (c : Nat) (τ : Tk3) : Nat := nuV B N c 7 (fd2 B n N c τ).1
def fd4 (B : Nat → Nat) (n : Nat) (N : Nat → Nm4) (c : Nat) (T : Tv) (τ : Tk3) : Cs := blIf (decide (nuV B N c 7 τ = fdM B n N c τ) || bb (FO T (nuV B N c 7 τ)) (nI (fdM B n N c τ))) 3 (fd3 B n N c τ)
def fd5 (B : Nat → Nat) (n : Nat) (N : Nat → Nm4) (c : Nat) (T : Tv) (τ : Tk3) : Cs := cst (nxA3 B n) (fd4 B n N c T τ)
theorem t_readFriend (hC : CSt w B n τ none) (hN : NMs w n c N) (hNn : NMn c N) (hT : ToldR w T) (hZ : SZ T) (hk : T 0 8 = nI k) (hk6 : k < 6) (hQ : ∀ w', Ag RdP w w' → CSt w' B n (fd5 B n N c T τ).1 (fd5 B n N c T τ).2 → (∀ j i, (22 ≤ j ∧ j ≤ 28) ∨ j = 42 ∨ j = 43 → w'.1 j i = w.1 j i) → ((fd5 B n N c T τ).2 = none → ToldR w' (updT (updT T 8 k ((1 <<< (nI (nuV B N c 7 τ) &&& 31)) ||| (1 <<< (nI (fdM B n N c τ) &&& 31)))) 0 8 (nI (k + 1)))) → Q none w') : Cl (d + 8) m_X6_readFriend [.ref 22] w Q := by
  have hl5 : nuV B N c 7 τ < 5 := nu7 hNn
  have hm5 : fdM B n N c τ < 5 := nu7 hNn
  have e12 : (nI (nuV B N c 7 τ) = nI (fdM B n N c τ)) = (nuV B N c 7 τ = fdM B n N c τ) := eq_n (by omega) (by omega)
  have two : ∀ w4, Ag TkP w w4 → CSt w4 B n (fd4 B n N c T τ).1 (fd4 B n N c T τ).2 → B_X6_readFriend_J2 (d + 7) 0 Q [.ref 22, .int (nI (nuV B N c 7 τ)), .int (nI (fdM B n N c τ)), .null] [] w4 := by
    intro w4 ha4 hC4
    simp +decide (disch := omega) only [↓EQA, CEA, LIA, NIA, Nat.lt_irrefl, Option.toList_some, Option.toList_none, List.cons_append, List.nil_append, true_and, and_true, Nat.reduceAdd, Nat.reduceLeDiff, not_true_eq_false, not_false_eq_true, if_true, if_false, ite_true, ite_false, Int32.reduceLT, ite_not, eq_self, or_true, true_or, ite_self, reduceIte, B_X6_readFriend_J2]
    refine t_stepS hC4 fun w5 ha5 hC5 => ?_
    have hC5' : CSt w5 B n (fd5 B n N c T τ).1 (fd5 B n N c T τ).2 := cs_nx hC5
    have hb : Ag TkP w w5 := ha4.tr ha5
    have hT5 : ToldR w5 T := hT.ag hb (fun j i a b z => by omega)
    have k8 : w5.1 29 8 = nI k := by rw [hT5.1]; exact hk
    have fr1 : ∀ j i, (22 ≤ j ∧ j ≤ 28) ∨ j = 42 ∨ j = 43 → w5.1 j i = w.1 j i := fun j i a => (hb j i (by omega)).1
    cases hbl : (fd5 B n N c T τ).2 with
    | some e =>
      obtain ⟨b1, e0⟩ := bl_no (e := e) (by rw [← hbl]; exact hC5'.2.2.2.2)
      simp +decide (disch := omega) only [↓EQA, CEA, LIA, NIA, Nat.lt_irrefl, Option.toList_some, Option.toList_none, List.cons_append, List.nil_append, true_and, and_true, Nat.reduceAdd, Nat.reduceLeDiff, not_true_eq_false, not_false_eq_true, if_true, if_false, ite_true, ite_false, Int32.reduceLT, ite_not, eq_self, or_true, true_or, ite_self, reduceIte, k8, b1, e0, B_X6_readFriend_J1, B_X6_readFriend_J2, B_X6_readFriend_J3]
      exact hQ w5 (hb.wk fun j i z => by omega) hC5' fr1 (fun z => by rw [hbl] at z; cases z)
    | none =>
      have b5 : w5.1 44 5 = 0 := by have := hC5'.2.2.2.2; rw [hbl] at this; exact this
      have r8 : ∀ v, (wI w5 37 k v).1 29 8 = nI k := fun v => by rw [wI_ne (by decide)]; exact k8
      have e6 : (nI k < 6) = True := eq_true (nI_lt (b := 6) hk6 (by decide))
      simp +decide (disch := omega) only [↓EQA, CEA, LIA, NIA, Nat.lt_irrefl, Option.toList_some, Option.toList_none, List.cons_append, List.nil_append, true_and, and_true, Nat.reduceAdd, Nat.reduceLeDiff, not_true_eq_false, not_false_eq_true, if_true, if_false, ite_true, ite_false, Int32.reduceLT, ite_not, eq_self, or_true, true_or, ite_self, reduceIte, k8, b5, e6, hk6, r8, nI_1, B_X6_readFriend_J1, B_X6_readFriend_J2, B_X6_readFriend_J3]
      generalize ((1 : Int32) <<< (nI (nuV B N c 7 τ) &&& 31)) ||| (1 <<< (nI (fdM B n N c τ) &&& 31)) = v1 at hQ ⊢
      have ha6 : Ag (fun j _ => j = 37 ∨ j = 29) w5 (wI (wI w5 37 k v1) 29 8 (nI (k + 1))) := (Ag.rf.wI (Or.inl rfl)).wI (Or.inr rfl)
      refine hQ _ ((hb.wk fun j i z => by omega).tr (ha6.wk fun j i z => by omega)) (hC5'.ag ha6 (fun i z => by omega) (fun i z => by omega)) (fun j i a => by rw [(ha6 j i (by omega)).1]; exact fr1 j i a) (fun _ => ?_)
      exact ToldR.upd (j := 0) (ToldR.upd (j := 8) hT5 (by decide)) (by decide)
  have one : ∀ w3, Ag TkP w w3 → CSt w3 B n (fd3 B n N c τ).1 (fd3 B n N c τ).2 → (decide (nuV B N c 7 τ = fdM B n N c τ) || bb (FO T (nuV B N c 7 τ)) (nI (fdM B n N c τ))) = true → B_X6_readFriend_J1 (d + 7) 0 Q [.ref 22, .int (nI (nuV B N c 7 τ)), .int (nI (fdM B n N c τ)), .null] [] w3 := by
    intro w3 ha3 hC3 hp
    simp +decide (disch := omega) only [↓EQA, CEA, LIA, NIA, Nat.lt_irrefl, Option.toList_some, Option.toList_none, List.cons_append, List.nil_append, true_and, and_true, Nat.reduceAdd, Nat.reduceLeDiff, not_true_eq_false, not_false_eq_true, if_true, if_false, ite_true, ite_false, Int32.reduceLT, ite_not, eq_self, or_true, true_or, ite_self, reduceIte, B_X6_readFriend_J1]
    refine t_blame (f := 3) hC3 (by decide) (by decide) fun w4 ha4 hC4 => ?_
    simp +decide (disch := omega) only [↓EQA, CEA, LIA, NIA, Nat.lt_irrefl, Option.toList_some, Option.toList_none, List.cons_append, List.nil_append, true_and, and_true, Nat.reduceAdd, Nat.reduceLeDiff, not_true_eq_false, not_false_eq_true, if_true, if_false, ite_true, ite_false, Int32.reduceLT, ite_not, eq_self, or_true, true_or, ite_self, reduceIte]
    refine two w4 (ha3.tr ha4) ?_
    unfold fd4 blIf
    rw [if_pos hp]
    exact hC4
  refine Cl_of k_X6_readFriend.1 (Nat.le_of_ble_eq_true rfl) (show Wp m_X6_readFriend _ 0 _ 0 [.ref 22, .null, .null, .null] [] _ from S_X6_readFriend_0 _ _ _ ?_)
  simp +decide (disch := omega) only [↓EQA, CEA, LIA, NIA, Nat.lt_irrefl, Option.toList_some, Option.toList_none, List.cons_append, List.nil_append, true_and, and_true, Nat.reduceAdd, Nat.reduceLeDiff, not_true_eq_false, not_false_eq_true, if_true, if_false, ite_true, ite_false, Int32.reduceLT, ite_not, eq_self, or_true, true_or, ite_self, reduceIte, B_X6_readFriend_0]
  refine t_numberOfName (so := 7) hC hN (by decide) fun w1 ha1 hC1 => ?_
  have hC1' : CSt w1 B n (fd1 B N c τ).1 (fd1 B N c τ).2 := cs_num (s := (τ, none)) hC1
  simp +decide (disch := omega) only [↓EQA, CEA, LIA, NIA, Nat.lt_irrefl, Option.toList_some, Option.toList_none, List.cons_append, List.nil_append, true_and, and_true, Nat.reduceAdd, Nat.reduceLeDiff, not_true_eq_false, not_false_eq_true, if_true, if_false, ite_true, ite_false, Int32.reduceLT, ite_not, eq_self, or_true, true_or, ite_self, reduceIte]
  refine t_stepS hC1' fun w2 ha2 hC2 => ?_
  have hC2' : CSt w2 B n (fd2 B n N c τ).1 (fd2 B n N c τ).2 := cs_nx hC2
  simp +decide (disch := omega) only [↓EQA, CEA, LIA, NIA, Nat.lt_irrefl, Option.toList_some, Option.toList_none, List.cons_append, List.nil_append, true_and, and_true, Nat.reduceAdd, Nat.reduceLeDiff, not_true_eq_false, not_false_eq_true, if_true, if_false, ite_true, ite_false, Int32.reduceLT, ite_not, eq_self, or_true, true_or, ite_self, reduceIte]
  have hN2 : NMs w2 n c N := hN.ag (ha1.tr ha2) (fun j i a b z => by omega)
  refine t_numberOfName (so := 7) hC2' hN2 (by decide) fun w3 ha3 hC3 => ?_
  have hC3' : CSt w3 B n (fd3 B n N c τ).1 (fd3 B n N c τ).2 := cs_num hC3
  have h13 : Ag TkP w w3 := (ha1.tr ha2).tr ha3
  have hT3 : ToldR w3 T := hT.ag h13 (fun j i a b z => by omega)
  have eM : nuV B N c 7 (fd2 B n N c τ).1 = fdM B n N c τ := rfl
  rw [eM]
  simp +decide (disch := omega) only [↓EQA, CEA, LIA, NIA, Nat.lt_irrefl, Option.toList_some, Option.toList_none, List.cons_append, List.nil_append, true_and, and_true, Nat.reduceAdd, Nat.reduceLeDiff, not_true_eq_false, not_false_eq_true, if_true, if_false, ite_true, ite_false, Int32.reduceLT, ite_not, eq_self, or_true, true_or, ite_self, reduceIte, e12]
  by_cases q : nuV B N c 7 τ = fdM B n N c τ
  · rw [if_pos q]
    exact one w3 h13 hC3' (by simp [q])
  · rw [if_neg q]
    refine t_friendsOfS hT3 hZ ?_
    simp +decide (disch := omega) only [↓EQA, CEA, LIA, NIA, Nat.lt_irrefl, Option.toList_some, Option.toList_none, List.cons_append, List.nil_append, true_and, and_true, Nat.reduceAdd, Nat.reduceLeDiff, not_true_eq_false, not_false_eq_true, if_true, if_false, ite_true, ite_false, Int32.reduceLT, ite_not, eq_self, or_true, true_or, ite_self, reduceIte]
    cases q2 : bb (FO T (nuV B N c 7 τ)) (nI (fdM B n N c τ))
    · simp only [Bool.false_eq_true, if_false]
      refine two w3 h13 ?_
      unfold fd4 blIf
      rw [if_neg (by simp [q, q2])]
      exact hC3'
    · simp only [if_true]
      exact one w3 h13 hC3' (by simp [q2])
/-- how many lines of a sort there may be -/
def roN (l : Nat) : Nat := if l = 5 then 4 else if l = 6 then 4 else if l = 7 then 5 else if l = 8 then 6 else if l = 9 then 4 else if l = 10 then 5 else 0
theorem t_roomFor {l : Nat} (hl : 5 ≤ l ∧ l ≤ 10) (hQ : Q (some (.int (nI (roN l)))) w) : Cl (d + 1) m_X6_roomFor [.int (nI l)] w Q := by
  refine Cl_of k_X6_roomFor.1 (Nat.le_of_ble_eq_true rfl) (show Wp m_X6_roomFor _ 0 _ 0 [.int (nI l)] [] _ from S_X6_roomFor_0 _ _ _ ?_)
  rcases (by omega : l = 5 ∨ l = 6 ∨ l = 7 ∨ l = 8 ∨ l = 9 ∨ l = 10) with rfl | rfl | rfl | rfl | rfl | rfl
  · exact hQ
  · exact hQ
  · exact hQ
  · exact hQ
  · exact hQ
  · exact hQ
end Lines7
