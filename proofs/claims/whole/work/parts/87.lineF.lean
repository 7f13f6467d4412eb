/-! ===== a line as a function of what was read before it ===== -/
/-- what is told, the places, the friends, the names, how many -/
abbrev St5 : Type := Tv × (Nat → Nat) × (Nat → Nat) × (Nat → Nm4) × Nat
def prI (a b : Nat) : Int32 := (1 <<< (nI a &&& 31)) ||| (1 <<< (nI b &&& 31))
def lRg (B : Nat → Nat) (n : Nat) (S : St5) (t : Tk3) : Cs × St5 := (rg10 B n t, rgT B n t S.1, updD S.2.1 7 (valT B (rg1 B n t).1), S.2.2.1, S.2.2.2.1, S.2.2.2.2)
def lAb (B : Nat → Nat) (n : Nat) (S : St5) (t : Tk3) : Cs × St5 := (ab6 B n S.2.2.2.1 S.2.2.2.2 S.1 S.2.1 t, S.1, updD S.2.1 (nuV B S.2.2.2.1 S.2.2.2.2 7 t) (abH B n S.2.2.2.1 S.2.2.2.2 S.2.1 t + 1), S.2.2.1, S.2.2.2.1, S.2.2.2.2)
def tBd (B : Nat → Nat) (n : Nat) (T : Tv) (N : Nat → Nm4) (c : Nat) (t : Tk3) : Tv := updT (updT (updT T 1 (nB T) (nI (valT B (bd2 B n N c t).1))) 2 (nB T) (nI (sdV B (bd3 B n N c t).1))) 0 5 (nI (nB T + 1))
def lBd (B : Nat → Nat) (n : Nat) (S : St5) (t : Tk3) : Cs × St5 := (bd4 B n S.2.2.2.1 S.2.2.2.2 t, tBd B n S.1 S.2.2.2.1 S.2.2.2.2 t, S.2.1, S.2.2.1, adN S.2.2.2.1 S.2.2.2.2 (t.1, t.2.1, 5, nB S.1), S.2.2.2.2 + 1)
def tHs (B : Nat → Nat) (n : Nat) (T : Tv) (N : Nat → Nm4) (c : Nat) (t : Tk3) : Tv := updT (updT (updT (updT T 3 (nH T) (nI (kiV B (bd1 B n N c t).1))) 4 (nH T) (nI (valT B (hs4 B n N c t).1))) 5 (nH T) (nI (valT B (hs6 B n N c t).1))) 0 6 (nI (nH T + 1))
def lHs (B : Nat → Nat) (n : Nat) (S : St5) (t : Tk3) : Cs × St5 := (hs7 B n S.2.2.2.1 S.2.2.2.2 t, tHs B n S.1 S.2.2.2.1 S.2.2.2.2 t, lanD S.2.1 (nH S.1) (sdV B (hs2 B n S.2.2.2.1 S.2.2.2.2 t).1), S.2.2.1, adN S.2.2.2.1 S.2.2.2.2 (t.1, t.2.1, 6, nH S.1), S.2.2.2.2 + 1)
def tLd (B : Nat → Nat) (n : Nat) (T : Tv) (N : Nat → Nm4) (c : Nat) (t : Tk3) : Tv := updT (updT (updT T 6 (nL T) (nI (valT B (ld2 B n N c t).1))) 7 (nL T) (nI (valT B (ld4 B n N c t).1))) 0 7 (nI (nL T + 1))
def lLd (B : Nat → Nat) (n : Nat) (S : St5) (t : Tk3) : Cs × St5 := (ld5 B n S.2.2.2.1 S.2.2.2.2 t, tLd B n S.1 S.2.2.2.1 S.2.2.2.2 t, S.2.1, S.2.2.1, adN S.2.2.2.1 S.2.2.2.2 (t.1, t.2.1, 7, nL S.1), S.2.2.2.2 + 1)
def tFd (T : Tv) (a b : Nat) : Tv := updT (updT T 8 (nF T) (prI a b)) 0 8 (nI (nF T + 1))
def fFd (F : Nat → Nat) (a b : Nat) : Nat → Nat := updD (updD F a (F a ||| 2 ^ b)) b (F b ||| 2 ^ a)
def lFd (B : Nat → Nat) (n : Nat) (S : St5) (t : Tk3) : Cs × St5 := (fd5 B n S.2.2.2.1 S.2.2.2.2 S.1 t, tFd S.1 (nuV B S.2.2.2.1 S.2.2.2.2 7 t) (fdM B n S.2.2.2.1 S.2.2.2.2 t), S.2.1, fFd S.2.2.1 (nuV B S.2.2.2.1 S.2.2.2.2 7 t) (fdM B n S.2.2.2.1 S.2.2.2.2 t), S.2.2.2.1, S.2.2.2.2)
def tPz (B : Nat → Nat) (T : Tv) (t : Tk3) : Tv := updT (updT T 9 (nP T) (nI (valT B t))) 0 9 (nI (nP T + 1))
def lPz (B : Nat → Nat) (n : Nat) (S : St5) (t : Tk3) : Cs × St5 := (cst (eWhole B n 0 99) (t, none), tPz B S.1 t, S.2)
def tSw (B : Nat → Nat) (n : Nat) (T : Tv) (N : Nat → Nm4) (c : Nat) (t : Tk3) : Tv := updT (updT (updT (updT T 10 (nS T) (nI (nuV B N c 6 t))) 11 (nS T) (nI (nuV B N c 6 (sw2 B n N c t).1))) 12 (nS T) (nI (nuV B N c 5 (sw5 B n N c t).1))) 0 10 (nI (nS T + 1))
def lSw (B : Nat → Nat) (n : Nat) (S : St5) (t : Tk3) : Cs × St5 := (sw7 B n S.2.2.2.1 S.2.2.2.2 t, tSw B n S.1 S.2.2.2.1 S.2.2.2.2 t, S.2)
/-- a line that needs the regatta's, and room -/
def gte (S : St5) (τ : Tk3) (r : Bool) (X : Cs × St5) : Cs × St5 := if S.2.1 7 = 0 then ((τ, some (6, τ.1)), S) else if r = true then X else ((τ, some (5, τ.1)), S)
def lnF (B : Nat → Nat) (n : Nat) (S : St5) (τ : Tk3) : Cs × St5 :=
  if isWb B τ 0 = true then (if S.2.1 7 = 0 then lRg B n S (nxT B n τ) else ((τ, some (3, τ.1)), S))
  else if isWb B τ 1 = true then gte S τ true (lAb B n S (nxT B n τ))
  else if isWb B τ 2 = true then gte S τ (decide (nB S.1 < 4)) (lBd B n S (nxT B n τ))
  else if isWb B τ 3 = true then gte S τ (decide (nH S.1 < 4)) (lHs B n S (nxT B n τ))
  else if isWb B τ 4 = true then gte S τ (decide (nL S.1 < 5)) (lLd B n S (nxT B n τ))
  else if isWb B τ 5 = true then gte S τ (decide (nF S.1 < 6)) (lFd B n S (nxT B n τ))
  else if isWb B τ 6 = true then gte S τ (decide (nP S.1 < 4)) (lPz B n S (nxT B n τ))
  else if isWb B τ 7 = true then gte S τ (decide (nS S.1 < 5)) (lSw B n S (nxT B n τ))
  else ((τ, some (1, τ.1)), S)
/-- what is told so far is within its bounds -/
abbrev TK2 (T : Tv) : Prop := (∀ k, k < nB T → wn (T 1 k) 1 30 ∧ wn (T 2 k) 0 1) ∧ (∀ h, h < nH T → wn (T 3 h) 0 3 ∧ wn (T 4 h) 0 50 ∧ wn (T 5 h) 1 6) ∧ (∀ l, l < nL T → wn (T 6 l) 0 30 ∧ wn (T 7 l) 0 9) ∧ (∀ i, i < nP T → wn (T 9 i) 0 99) ∧ (∀ i, i < nS T → ∃ a b k, T 10 i = nI a ∧ T 11 i = nI b ∧ T 12 i = nI k ∧ a < nH T ∧ b < nH T ∧ k < nB T)
/-- all friends of one, as the pairs tell -/
def rwF (T : Tv) (l : Nat) : Int32 := fld (fun i a => if bb (T 8 i) (nI l) then a ||| T 8 i else a) (nF T) 0
abbrev FRV (T : Tv) (F : Nat → Nat) : Prop := FRM T F ∧ (∀ l, l < 5 → F l < 32 ∧ ∃ x, x < 32 ∧ rwF T l = nI x ∧ FO T l = nI (F l)) ∧ (∀ a b, a < 5 → b < 5 → (F a).testBit b = (F b).testBit a) ∧ ∀ l, nL T ≤ l → l < 5 → F l = 0
abbrev WRg (T : Tv) (D : Nat → Nat) : Prop := T 0 0 = nI (D 7) ∧ (D 7 = 0 → ∀ i, i ≤ 10 → T 0 i = 0) ∧ (D 7 ≠ 0 → wn (T 0 1) 1 6 ∧ wn (T 0 2) 0 30 ∧ wn (T 0 3) 0 100 ∧ wn (T 0 4) 0 9)
abbrev DRV (T : Tv) (D : Nat → Nat) : Prop := DOK D ∧ DH T D ∧ (∀ l, nL T ≤ l → l < 5 → D l = 0) ∧ D 6 = 0 ∧ D 5 < 2 ^ nH T
/-- what was read before a line -/
abbrev RDV (B : Nat → Nat) (n : Nat) (T : Tv) (D F : Nat → Nat) (N : Nat → Nm4) (c : Nat) : Prop := SZ T ∧ WRg T D ∧ TK2 T ∧ DRV T D ∧ NMP B n (nB T) (nH T) (nL T) c N ∧ FRV T F
/-- the reference's row of it -/
abbrev GRl (T : Tv) (D F : Nat → Nat) (G : Nat → Int32) : Prop := (∀ i, i ≤ 10 → G i = T 0 i) ∧ (∀ k, k < nB T → G (11 + 2 * k) = T 1 k ∧ G (11 + 2 * k + 1) = T 2 k) ∧ (∀ h, h < nH T → G (19 + 4 * h) = T 3 h ∧ G (19 + 4 * h + 1) = nI (D 5 / 2 ^ h % 2) ∧ G (19 + 4 * h + 2) = T 4 h ∧ G (19 + 4 * h + 3) = T 5 h) ∧ (∀ l, l < nL T → G (35 + 4 * l) = T 6 l ∧ G (35 + 4 * l + 1) = T 7 l) ∧ (∀ l, l < 5 → G (35 + 4 * l + 2) = nI (D l) ∧ G (35 + 4 * l + 3) = nI (F l)) ∧ (∀ i, i < nP T → G (55 + i) = T 9 i) ∧ (∀ i, i < nS T → G (59 + 3 * i) = T 10 i ∧ G (59 + 3 * i + 1) = T 11 i ∧ G (59 + 3 * i + 2) = T 12 i)
abbrev CRl (w : Mem) (n : Nat) (T : Tv) (D : Nat → Nat) (N : Nat → Nm4) (c : Nat) : Prop := ToldR w T ∧ RC w 42 43 (RS D) ∧ NMs w n c N ∧ w.1 22 4 = bI (¬ D 7 = 0)
abbrev MRl (w : Mem) (B : Nat → Nat) (T : Tv) (D F : Nat → Nat) (N : Nat → Nm4) (c : Nat) : Prop := (∃ G, R63 w G ∧ GRl T D F G) ∧ MNM w B c N
section LineF
variable {B : Nat → Nat} {n b h l c : Nat} {τ t : Tk3} {s : Cs} {N : Nat → Nm4} {T : Tv} {D F : Nat → Nat} {S : St5} {G : Nat → Int32}
theorem updT_ne {a b j i : Nat} {v : Int32} (h : ¬ (a = j ∧ b = i)) : updT T j i v a b = T a b := if_neg h
theorem updT_eq {j i : Nat} {v : Int32} : updT T j i v j i = v := if_pos ⟨rfl, rfl⟩
theorem updG_ne {a i : Nat} {v : Int32} (h : ¬ a = i) : updG G i v a = G a := if_neg h
theorem updG_eq {i : Nat} {v : Int32} : updG G i v i = v := if_pos rfl
theorem whole_in {lo hi : Nat} (h : (cst (eWhole B n lo hi) s).2 = none) : lo ≤ valT B s.1 ∧ valT B s.1 ≤ hi := by
  obtain ⟨a, ha⟩ := (cst_none h).2
  unfold eWhole at ha
  by_cases q : s.1.2.2 = 2
  · rw [if_pos q] at ha
    by_cases q2 : valT B s.1 < lo ∨ hi < valT B s.1
    · rw [if_pos q2] at ha; cases ha
    · omega
  · rw [if_neg q] at ha; cases ha
theorem kiV_le : kiV B t ≤ 3 := by unfold kiV; split <;> (try split) <;> (try split) <;> decide
/-- a name is told -/
theorem NMP.add {b' h' l' so nu : Nat} (hP : NMP B n b h l c N) (hT : TKp B n t) (ht : (cst (eTell B n N c) (t, none)).2 = none) (hb : b ≤ 4) (hh : h ≤ 4) (hc : b' + h' + l' = b + h + l + 1) (hle : b ≤ b' ∧ h ≤ h' ∧ l ≤ l') (hso : (so = 5 ∧ nu = b ∧ nu < b' ∧ b < 4) ∨ (so = 6 ∧ nu = h ∧ nu < h' ∧ h < 4) ∨ (so = 7 ∧ nu = l ∧ nu < l')) : NMP B n b' h' l' (c + 1) (adN N c (t.1, t.2.1, so, nu)) := by
  obtain ⟨p1, p2, p3, p4⟩ := hP
  obtain ⟨a, ha⟩ := (cst_none ht).2
  have ha' : eTell B n N c t = .inr a := ha
  unfold eTell at ha'
  have q : isNm B t = true := by
    cases q : isNm B t with
    | true => rfl
    | false => rw [q] at ha'; cases ha'
  rw [if_pos q] at ha'
  have q2 : ¬ fnN B t N c < c := by
    intro q2
    rw [if_pos q2] at ha'; cases ha'
  have h1 : t.2.2 = 1 := by
    unfold isNm at q
    simp only [Bool.and_eq_true, decide_eq_true_eq] at q
    exact q.1
  obtain ⟨l8, l1⟩ : t.2.1 - t.1 ≤ 8 ∧ 1 ≤ t.2.1 - t.1 := hT.2.2 h1
  have hT1 : t.1 ≤ t.2.1 := hT.1.1
  have hT2 : t.2.1 ≤ n := hT.1.2.1
  have hno : ∀ i, i < c → smB B t (N i) = false := by
    intro i hi
    have := (frst_spec (fun i => smB B t (N i)) c).2.1 i (by show i < fnN B t N c; omega)
    exact this
  have eN : ∀ i, i < c → adN N c (t.1, t.2.1, so, nu) i = N i := fun i hi => if_neg (by omega)
  have ec : adN N c (t.1, t.2.1, so, nu) c = (t.1, t.2.1, so, nu) := if_pos rfl
  have hsl : ∀ i, i < c → slN (N i) ≠ slN (t.1, t.2.1, so, nu) := by
    intro i hi e
    have := (p2 i hi).2
    have e2 : slN (t.1, t.2.1, so, nu) = if so = 6 then nu else if so = 5 then 4 + nu else 8 + nu := rfl
    rw [e2] at e
    unfold slN at e
    rcases this with ⟨e1, y⟩ | ⟨e1, y⟩ | ⟨e1, y⟩ <;> rw [e1] at e <;> rcases hso with ⟨f1, f2, f3⟩ | ⟨f1, f2, f3⟩ | ⟨f1, f2, f3⟩ <;> rw [f1] at e <;> simp at e <;> omega
  refine ⟨by omega, fun i hi => ?_, fun i j hi hj e => ?_, fun i j hi hj ne => ?_⟩
  · by_cases z : i = c
    · subst z
      rw [ec]
      exact ⟨⟨hT1, hT2, l1, l8⟩, by show (so = 5 ∧ nu < b') ∨ (so = 6 ∧ nu < h') ∨ (so = 7 ∧ nu < l'); omega⟩
    · rw [eN i (by omega)]
      have := p2 i (by omega)
      exact ⟨this.1, by have := this.2; omega⟩
  · by_cases z : i = c
    · by_cases y : j = c
      · omega
      · rw [z, ec, eN j (by omega)] at e
        exact absurd e.symm (hsl j (by omega))
    · by_cases y : j = c
      · rw [y, ec, eN i (by omega)] at e
        exact absurd e (hsl i (by omega))
      · rw [eN i (by omega), eN j (by omega)] at e
        exact p3 i j (by omega) (by omega) e
  · by_cases z : i = c
    · rw [z, ec, eN j (by omega)]
      cases y : smB B ((N j).1, (N j).2.1, 1) (t.1, t.2.1, so, nu) with
      | false => rfl
      | true =>
        have y2 := smB_iff.mp y
        have y21 : (N j).2.1 - (N j).1 = t.2.1 - t.1 := y2.1
        have : smB B t (N j) = true := smB_iff.mpr ⟨y21.symm, fun k hk => (y2.2 k (by show k < t.2.1 - t.1; omega)).symm⟩
        rw [hno j (by omega)] at this; cases this
    · by_cases y : j = c
      · rw [y, ec, eN i (by omega)]
        exact hno i (by omega)
      · rw [eN i (by omega), eN j (by omega)]
        exact p4 i j (by omega) (by omega) ne
end LineF
