/-! ===== a line of a house ===== -/
section Lines3
variable {d : Nat} {w : Mem} {Q : Option Value → Mem → Prop} {B : Nat → Nat} {n c k : Nat} {τ : Tk3} {N : Nat → Nm4} {T : Tv} {D : Nat → Nat}
def hs2 (B : Nat → Nat) (n : Nat) (N : Nat → Nm4) (c : Nat) (τ : Tk3) : Cs := cst (eKind B n) (bd1 B n N c τ)
def hs3 (B : Nat → Nat) (n : Nat) (N : Nat → Nm4) (c : Nat) (τ : Tk3) : Cs := cst (eSide B n) (hs2 B n N c τ)
def hs4 (B : Nat → Nat) (n : Nat) (N : Nat → Nm4) (c : Nat) (τ : Tk3) : Cs := cst (eWord B n 20) (hs3 B n N c τ)
def hs5 (B : Nat → Nat) (n : Nat) (N : Nat → Nm4) (c : Nat) (τ : Tk3) : Cs := cst (eWhole B n 0 50) (hs4 B n N c τ)
def hs6 (B : Nat → Nat) (n : Nat) (N : Nat → Nm4) (c : Nat) (τ : Tk3) : Cs := cst (eWord B n 21) (hs5 B n N c τ)
def hs7 (B : Nat → Nat) (n : Nat) (N : Nat → Nm4) (c : Nat) (τ : Tk3) : Cs := cst (eWhole B n 1 6) (hs6 B n N c τ)
/-- lanes with the house k's laid -/
def lanD (D : Nat → Nat) (k s : Nat) : Nat → Nat := updD D 5 (if s = 1 then stb (D 5) k else clb (D 5) k)
theorem t_takeLaneD {s : Nat} (hC : RC w 42 43 (RS D)) (hD : DOK D) (hk : k < 4) (hs : s ≤ 1) (hQ : ∀ w', Ag (fun j _ => j = 42) w w' → RC w' 42 43 (RS (lanD D k s)) → DOK (lanD D k s) → Q none w') : Cl (d + 1) m_X4_takeLane [.ref 42, .int (nI k), .int (nI s)] w Q := by
  have up : ∀ v, v < 16 → RC (wI w 42 5 (nI v)) 42 43 (RS (updD D 5 v)) ∧ DOK (updD D 5 v) := by
    intro v hv
    refine ⟨?_, lan_ok hD hv⟩
    rw [RS_lan]
    obtain ⟨a1, a2, a3, a4, a5⟩ := hC
    have r : ∀ i, i ≠ 5 → (wI w 42 5 (nI v)).1 42 i = w.1 42 i := fun i hi => by rw [wI_get, if_neg (fun z => hi z.2)]
    exact ⟨fun a b => by rw [wI_ne (by decide)]; exact a1 a b, by rw [r 2 (by decide)]; exact a2, by rw [r 3 (by decide)]; exact a3, by rw [r 4 (by decide)]; exact a4, by simp [wI]⟩
  rcases (by omega : s = 0 ∨ s = 1) with rfl | rfl
  · have hl : clb (D 5) k < 16 := (tl16 ⟨D 5, hD.2.1⟩ ⟨k, hk⟩).2.2.1
    refine t_takeLane0S hC hD.rok hk ?_
    exact hQ _ (Ag.rf.wI rfl) (up _ hl).1 (up _ hl).2
  · have hl : stb (D 5) k < 16 := (tl16 ⟨D 5, hD.2.1⟩ ⟨k, hk⟩).2.2.2
    refine t_takeLane1S hC hD.rok hk ?_
    exact hQ _ (Ag.rf.wI rfl) (up _ hl).1 (up _ hl).2
theorem sdV_le : sdV B τ ≤ 1 := by unfold sdV; split <;> decide
theorem t_readHouse (hC : CSt w B n τ none) (hN : NMs w n c N) (hc : c < 13) (hT : ToldR w T) (hR : RC w 42 43 (RS D)) (hD : DOK D) (hk : T 0 6 = nI k) (hk4 : k < 4) (hQ : ∀ w', Ag RdP w w' → CSt w' B n (hs7 B n N c τ).1 (hs7 B n N c τ).2 → (∀ i, w'.1 22 i = w.1 22 i) → ((hs7 B n N c τ).2 = none → NMs w' n (c + 1) (adN N c (τ.1, τ.2.1, 6, k)) ∧ ToldR w' (updT (updT (updT (updT T 3 k (nI (kiV B (bd1 B n N c τ).1))) 4 k (nI (valT B (hs4 B n N c τ).1))) 5 k (nI (valT B (hs6 B n N c τ).1))) 0 6 (nI (k + 1))) ∧ RC w' 42 43 (RS (lanD D k (sdV B (hs2 B n N c τ).1))) ∧ DOK (lanD D k (sdV B (hs2 B n N c τ).1))) → Q none w') : Cl (d + 8) m_X6_readHouse [.ref 22] w Q := by
  refine Cl_of k_X6_readHouse.1 (Nat.le_of_ble_eq_true rfl) (show Wp m_X6_readHouse _ 0 _ 0 [.ref 22, .null, .null, .null, .null, .null] [] _ from S_X6_readHouse_0 _ _ _ ?_)
  simp +decide (disch := omega) only [↓EQA, CEA, LIA, NIA, Nat.lt_irrefl, Option.toList_some, Option.toList_none, List.cons_append, List.nil_append, true_and, and_true, Nat.reduceAdd, Nat.reduceLeDiff, not_true_eq_false, not_false_eq_true, if_true, if_false, ite_true, ite_false, Int32.reduceLT, ite_not, eq_self, or_true, true_or, ite_self, reduceIte, B_X6_readHouse_0]
  refine t_tellName (so := 6) (nu := k) hC hN (fun _ => hc) (by decide) (by omega) (by rw [hT.1]; exact hk) fun w1 ha1 hC1 hN1 hN1' => ?_
  simp +decide (disch := omega) only [↓EQA, CEA, LIA, NIA, Nat.lt_irrefl, Option.toList_some, Option.toList_none, List.cons_append, List.nil_append, true_and, and_true, Nat.reduceAdd, Nat.reduceLeDiff, not_true_eq_false, not_false_eq_true, if_true, if_false, ite_true, ite_false, Int32.reduceLT, ite_not, eq_self, or_true, true_or, ite_self, reduceIte]
  have hC1' : CSt w1 B n (bd1 B n N c τ).1 (bd1 B n N c τ).2 := hC1
  refine t_readKind hC1' fun w2 ha2 hC2 => ?_
  simp +decide (disch := omega) only [↓EQA, CEA, LIA, NIA, Nat.lt_irrefl, Option.toList_some, Option.toList_none, List.cons_append, List.nil_append, true_and, and_true, Nat.reduceAdd, Nat.reduceLeDiff, not_true_eq_false, not_false_eq_true, if_true, if_false, ite_true, ite_false, Int32.reduceLT, ite_not, eq_self, or_true, true_or, ite_self, reduceIte]
  have hC2' : CSt w2 B n (hs2 B n N c τ).1 (hs2 B n N c τ).2 := hC2
  refine t_readSide hC2' fun w3 ha3 hC3 => ?_
  simp +decide (disch := omega) only [↓EQA, CEA, LIA, NIA, Nat.lt_irrefl, Option.toList_some, Option.toList_none, List.cons_append, List.nil_append, true_and, and_true, Nat.reduceAdd, Nat.reduceLeDiff, not_true_eq_false, not_false_eq_true, if_true, if_false, ite_true, ite_false, Int32.reduceLT, ite_not, eq_self, or_true, true_or, ite_self, reduceIte]
  have hC3' : CSt w3 B n (hs3 B n N c τ).1 (hs3 B n N c τ).2 := hC3
  refine t_readWord (i := 20) hC3' (by decide) fun w4 ha4 hC4 => ?_
  simp +decide (disch := omega) only [↓EQA, CEA, LIA, NIA, Nat.lt_irrefl, Option.toList_some, Option.toList_none, List.cons_append, List.nil_append, true_and, and_true, Nat.reduceAdd, Nat.reduceLeDiff, not_true_eq_false, not_false_eq_true, if_true, if_false, ite_true, ite_false, Int32.reduceLT, ite_not, eq_self, or_true, true_or, ite_self, reduceIte]
  have hC4' : CSt w4 B n (hs4 B n N c τ).1 (hs4 B n N c τ).2 := hC4
  refine t_readWhole (lo := 0) (hi := 50) (by decide) (by decide) hC4' fun w5 ha5 hC5 => ?_
  simp +decide (disch := omega) only [↓EQA, CEA, LIA, NIA, Nat.lt_irrefl, Option.toList_some, Option.toList_none, List.cons_append, List.nil_append, true_and, and_true, Nat.reduceAdd, Nat.reduceLeDiff, not_true_eq_false, not_false_eq_true, if_true, if_false, ite_true, ite_false, Int32.reduceLT, ite_not, eq_self, or_true, true_or, ite_self, reduceIte]
  have hC5' : CSt w5 B n (hs5 B n N c τ).1 (hs5 B n N c τ).2 := hC5
  refine t_readWord (i := 21) hC5' (by decide) fun w6 ha6 hC6 => ?_
  simp +decide (disch := omega) only [↓EQA, CEA, LIA, NIA, Nat.lt_irrefl, Option.toList_some, Option.toList_none, List.cons_append, List.nil_append, true_and, and_true, Nat.reduceAdd, Nat.reduceLeDiff, not_true_eq_false, not_false_eq_true, if_true, if_false, ite_true, ite_false, Int32.reduceLT, ite_not, eq_self, or_true, true_or, ite_self, reduceIte]
  have hC6' : CSt w6 B n (hs6 B n N c τ).1 (hs6 B n N c τ).2 := hC6
  refine t_readWhole (lo := 1) (hi := 6) (by decide) (by decide) hC6' fun w7 ha7 hC7 => ?_
  have hC7' : CSt w7 B n (hs7 B n N c τ).1 (hs7 B n N c τ).2 := hC7
  have hx : Ag TkP w1 w7 := ((((ha2.tr ha3).tr ha4).tr ha5).tr ha6).tr ha7
  have hb : Ag (fun j i => (23 ≤ j ∧ j ≤ 27) ∨ j = 44) w w7 := (ha1.wk fun j i z => by omega).tr (hx.wk fun j i z => by omega)
  have hT7 : ToldR w7 T := hT.ag hb (fun j i a b z => by omega)
  have k6 : w7.1 29 6 = nI k := by rw [hT7.1]; exact hk
  have hR7 : RC w7 42 43 (RS D) := hR.ag hb (fun i z => by omega) (fun i z => by omega)
  have fr1 : ∀ i, w7.1 22 i = w.1 22 i := fun i => (hb 22 i (by omega)).1
  cases hbl : (hs7 B n N c τ).2 with
  | some e =>
    obtain ⟨b1, e0⟩ := bl_no (e := e) (by rw [← hbl]; exact hC7'.2.2.2.2)
    simp +decide (disch := omega) only [↓EQA, CEA, LIA, NIA, Nat.lt_irrefl, Option.toList_some, Option.toList_none, List.cons_append, List.nil_append, true_and, and_true, Nat.reduceAdd, Nat.reduceLeDiff, not_true_eq_false, not_false_eq_true, if_true, if_false, ite_true, ite_false, Int32.reduceLT, ite_not, eq_self, or_true, true_or, ite_self, reduceIte, k6, b1, e0, B_X6_readHouse_J1]
    exact hQ w7 (hb.wk fun j i z => by omega) hC7' fr1 (fun z => by rw [hbl] at z; cases z)
  | none =>
    have b5 : w7.1 44 5 = 0 := by have := hC7'.2.2.2.2; rw [hbl] at this; exact this
    have n6 := (cst_none (f := eWhole B n 1 6) (s := hs6 B n N c τ) hbl).1
    have n5 := (cst_none (f := eWord B n 21) (s := hs5 B n N c τ) n6).1
    have n4 := (cst_none (f := eWhole B n 0 50) (s := hs4 B n N c τ) n5).1
    have n3 := (cst_none (f := eWord B n 20) (s := hs3 B n N c τ) n4).1
    have n2 := (cst_none (f := eSide B n) (s := hs2 B n N c τ) n3).1
    have n1 := (cst_none (f := eKind B n) (s := bd1 B n N c τ) n2).1
    have hN7 : NMs w7 n (c + 1) (adN N c (τ.1, τ.2.1, 6, k)) := (hN1 n1).ag hx (fun j i a b z => by omega)
    simp +decide (disch := omega) only [↓EQA, CEA, LIA, NIA, Nat.lt_irrefl, Option.toList_some, Option.toList_none, List.cons_append, List.nil_append, true_and, and_true, Nat.reduceAdd, Nat.reduceLeDiff, not_true_eq_false, not_false_eq_true, if_true, if_false, ite_true, ite_false, Int32.reduceLT, ite_not, eq_self, or_true, true_or, ite_self, reduceIte, k6, b5, hk4]
    generalize hv1 : nI (kiV B (bd1 B n N c τ).1) = v1 at hQ ⊢
    generalize hv2 : nI (valT B (hs4 B n N c τ).1) = v2 at hQ ⊢
    generalize hv3 : nI (valT B (hs6 B n N c τ).1) = v3 at hQ ⊢
    have ha8 : Ag (fun j _ => j = 32 ∨ j = 33 ∨ j = 34) w7 (wI (wI (wI w7 32 k v1) 33 k v2) 34 k v3) := ((Ag.rf.wI (Or.inl rfl)).wI (Or.inr (Or.inl rfl))).wI (Or.inr (Or.inr rfl))
    have hT8 : ToldR (wI (wI (wI w7 32 k v1) 33 k v2) 34 k v3) (updT (updT (updT T 3 k v1) 4 k v2) 5 k v3) := ToldR.upd (j := 5) (ToldR.upd (j := 4) (ToldR.upd (j := 3) hT7 (by decide)) (by decide)) (by decide)
    generalize wI (wI (wI w7 32 k v1) 33 k v2) 34 k v3 = w8 at ha8 hT8 ⊢
    refine t_takeLaneD (hR7.ag ha8 (fun i z => by omega) (fun i z => by omega)) hD hk4 sdV_le fun w9 ha9 hR9 hD9 => ?_
    have k69 : w9.1 29 6 = nI k := by rw [(ha9 29 6 (by omega)).1, (ha8 29 6 (by omega)).1]; exact k6
    simp +decide (disch := omega) only [↓EQA, CEA, LIA, NIA, Nat.lt_irrefl, Option.toList_some, Option.toList_none, List.cons_append, List.nil_append, true_and, and_true, Nat.reduceAdd, Nat.reduceLeDiff, not_true_eq_false, not_false_eq_true, if_true, if_false, ite_true, ite_false, Int32.reduceLT, ite_not, eq_self, or_true, true_or, ite_self, reduceIte, k69, nI_1, B_X6_readHouse_J1]
    have ha10 : Ag (fun j _ => j = 29) w9 (wI w9 29 6 (nI (k + 1))) := Ag.rf.wI rfl
    have hy : Ag (fun j _ => j = 32 ∨ j = 33 ∨ j = 34 ∨ j = 42 ∨ j = 29) w7 (wI w9 29 6 (nI (k + 1))) := ((ha8.wk fun j i z => by omega).tr (ha9.wk fun j i z => by omega)).tr (ha10.wk fun j i z => by omega)
    refine hQ _ ((hb.wk fun j i z => by omega).tr (hy.wk fun j i z => by omega)) (hC7'.ag hy (fun i z => by omega) (fun i z => by omega)) (fun i => by rw [(hy 22 i (by omega)).1]; exact fr1 i) (fun _ => ⟨hN7.ag hy (fun j i a b z => by omega), ?_, hR9.ag ha10 (fun i z => by omega) (fun i z => by omega), hD9⟩)
    exact ToldR.upd (j := 0) (hT8.ag ha9 (fun j i a b z => by omega)) (by decide)
end Lines3
