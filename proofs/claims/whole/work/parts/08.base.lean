/-! folds: a loop that counts up, as a function -/
def fld {α : Type} (f : Nat → α → α) : Nat → α → α
  | 0, a => a
  | n + 1, a => f n (fld f n a)
theorem fld_loop {α : Type} {f : Nat → α → α} {n : Nat} {a : α} (head : Nat → α → Prop) (hs : ∀ j, j < n → head (j + 1) (f j (fld f j a)) → head j (fld f j a)) (he : head n (fld f n a)) : head 0 a := by
  have key : ∀ i j, j + i = n → head j (fld f j a) := by
    intro i
    induction i with
    | zero => intro j hj; have : j = n := by omega
              subst this; exact he
    | succ i ih => intro j hj; exact hs j (by omega) (ih (j + 1) (by omega))
  exact key n 0 (by omega)
theorem fld_congr {α : Type} {f g : Nat → α → α} {n : Nat} (h : ∀ j a, j < n → f j a = g j a) (a : α) : fld f n a = fld g n a := by
  induction n with
  | zero => rfl
  | succ n ih =>
    show f n (fld f n a) = g n (fld g n a)
    rw [ih (fun j a hj => h j a (by omega)), h n _ (by omega)]
/-- how many of the first n -/
def cnt (p : Nat → Bool) : Nat → Nat
  | 0 => 0
  | n + 1 => if p n then cnt p n + 1 else cnt p n
theorem cnt_le (p : Nat → Bool) (n : Nat) : cnt p n ≤ n := by
  induction n with
  | zero => exact Nat.le_refl 0
  | succ n ih => unfold cnt; split <;> omega
theorem cnt_congr {p q : Nat → Bool} {n : Nat} (h : ∀ j, j < n → p j = q j) : cnt p n = cnt q n := by
  induction n with
  | zero => rfl
  | succ n ih => unfold cnt; rw [h n (by omega), ih (fun j hj => h j (by omega))]
/-- a loop that counts -/
theorem cnt_loop {p : Nat → Bool} {n : Nat} (head : Nat → Int32 → Prop) (hs : ∀ j, j < n → head (j + 1) (if p j then nI (cnt p j + 1) else nI (cnt p j)) → head j (nI (cnt p j))) (he : head n (nI (cnt p n))) : head 0 0 := by
  have key : ∀ i j, j + i = n → head j (nI (cnt p j)) := by
    intro i
    induction i with
    | zero => intro j hj; have : j = n := by omega
              subst this; exact he
    | succ i ih =>
      intro j hj
      refine hs j (by omega) ?_
      have h := ih (j + 1) (by omega)
      unfold cnt at h
      split <;> rename_i hp
      · rw [if_pos hp] at h; exact h
      · rw [if_neg hp] at h; exact h
  exact key n 0 (by omega)
/-- the first of the first n; n itself where there is none -/
def frst (p : Nat → Bool) : Nat → Nat
  | 0 => 0
  | n + 1 => if frst p n < n then frst p n else if p n then n else n + 1
theorem frst_spec (p : Nat → Bool) (n : Nat) : frst p n ≤ n ∧ (∀ j, j < frst p n → p j = false) ∧ (frst p n < n → p (frst p n) = true) := by
  induction n with
  | zero => exact ⟨Nat.le_refl 0, fun j hj => absurd hj (Nat.not_lt_zero j), fun h => absurd h (Nat.lt_irrefl 0)⟩
  | succ n ih =>
    obtain ⟨h1, h2, h3⟩ := ih
    unfold frst
    split
    · next h => exact ⟨by omega, h2, fun _ => h3 h⟩
    · next h =>
      have hn : frst p n = n := by omega
      rw [hn] at h2
      split
      · next hp => exact ⟨by omega, h2, fun _ => hp⟩
      · next hp =>
        refine ⟨Nat.le_refl _, fun j hj => ?_, fun h => absurd h (Nat.lt_irrefl _)⟩
        by_cases e : j = n
        · subst e; simpa using hp
        · exact h2 j (by omega)
theorem frst_eq {p : Nat → Bool} {n i : Nat} (h : i ≤ n) (h1 : ∀ j, j < i → p j = false) (h2 : i < n → p i = true) : frst p n = i := by
  obtain ⟨g1, g2, g3⟩ := frst_spec p n
  rcases Nat.lt_trichotomy (frst p n) i with q | q | q
  · have := g3 (by omega)
    rw [h1 _ q] at this
    cases this
  · exact q
  · have := g2 i q
    rw [h2 (by omega)] at this
    cases this
/-- a loop that looks for the first -/
theorem frst_loop {p : Nat → Bool} {n : Nat} (head : Nat → Prop) (hf : ∀ i, i < n → p i = true → frst p n = i → head i) (hs : ∀ i, i < n → p i = false → head (i + 1) → head i) (he : frst p n = n → head n) : head 0 := by
  have key : ∀ m i, i + m = n → (∀ j, j < i → p j = false) → head i := by
    intro m
    induction m with
    | zero =>
      intro i hi h
      have : i = n := by omega
      subst this
      exact he (frst_eq (Nat.le_refl _) h (fun q => absurd q (Nat.lt_irrefl _)))
    | succ m ih =>
      intro i hi h
      cases hp : p i with
      | true => exact hf i (by omega) hp (frst_eq (by omega) h (fun _ => hp))
      | false =>
        refine hs i (by omega) hp (ih (i + 1) (by omega) fun j hj => ?_)
        by_cases e : j = i
        · subst e; exact hp
        · exact h j (by omega)
  exact key n 0 (by omega) (fun j hj => absurd hj (Nat.not_lt_zero j))
theorem i0 : (0 : Int32) = nI 0 := rfl
theorem vi {j n : Nat} (h : j < n) (hn : n < 2 ^ 31) : vp_in (nI j) n = True := eq_true (vp_in_nI h hn)
theorem tn {j : Nat} (h : j < 2 ^ 31) : (nI j).toNatClampNeg = j := nI_clamp h
theorem lt_t {a b : Nat} (h : a < b) (hb : b < 2 ^ 31) : (nI a < nI b) = True := eq_true (nI_lt h hb)
theorem lt_f {a b : Nat} (h : b ≤ a) (hb : a < 2 ^ 31) : (nI a < nI b) = False := eq_false (nI_nlt h hb)
theorem neg_f {a : Nat} (h : a < 2 ^ 31) : (nI a < 0) = False := eq_false (nI_pos h)
theorem lt_n {a b : Nat} (ha : a < 2 ^ 31) (hb : b < 2 ^ 31) : (nI a < nI b) = (a < b) := propext (nI_ltI ha hb)
theorem eq_n {a b : Nat} (ha : a < 2 ^ 31) (hb : b < 2 ^ 31) : (nI a = nI b) = (a = b) := propext (nI_eq ha hb)
/-! what the text tells, as thirteen rows; a race as it is seen: aboard (house, lodger), water, lanes, lit, rain by bend -/
abbrev Tv : Type := Nat → Nat → Int32
abbrev Vw : Type := (Nat → Nat → Bool) × Int32 × (Nat → Int32) × (Nat → Bool) × (Nat → Bool)
abbrev Told (w : Mem) (T : Tv) : Prop := w.1 3 = T 0 ∧ w.1 4 = T 1 ∧ w.1 5 = T 2 ∧ w.1 6 = T 3 ∧ w.1 7 = T 4 ∧ w.1 8 = T 5 ∧ w.1 9 = T 6 ∧ w.1 10 = T 7 ∧ w.1 11 = T 8 ∧ w.1 12 = T 9 ∧ w.1 13 = T 10 ∧ w.1 14 = T 11 ∧ w.1 15 = T 12
def nB (T : Tv) : Nat := (T 0 5).toNatClampNeg
def nH (T : Tv) : Nat := (T 0 6).toNatClampNeg
def nL (T : Tv) : Nat := (T 0 7).toNatClampNeg
def nF (T : Tv) : Nat := (T 0 8).toNatClampNeg
def nP (T : Tv) : Nat := (T 0 9).toNatClampNeg
def nS (T : Tv) : Nat := (T 0 10).toNatClampNeg
abbrev SZ (T : Tv) : Prop := (T 0 5 = nI (nB T) ∧ T 0 6 = nI (nH T) ∧ T 0 7 = nI (nL T) ∧ T 0 8 = nI (nF T) ∧ T 0 9 = nI (nP T) ∧ T 0 10 = nI (nS T)) ∧ nB T ≤ 4 ∧ nH T ≤ 4 ∧ nL T ≤ 5 ∧ nF T ≤ 6 ∧ nP T ≤ 4 ∧ nS T ≤ 5
def WT (T : Tv) (V : Vw) (h : Nat) : Int32 := fld (fun l a => if V.1 h l then a + T 6 l else a) (nL T) (if T 3 h = 2 then T 4 h / 2 else T 4 h)
def RW (T : Tv) (V : Vw) (h : Nat) : Int32 := fld (fun l a => if V.1 h l then a + T 7 l else a) (nL T) 0
def CN (T : Tv) (V : Vw) (h : Nat) : Nat := cnt (V.1 h) (nL T)
def PW (T : Tv) (V : Vw) (h : Nat) : Int32 := V.2.1 + if T 3 h = 1 then (if CN T V h < 2 then RW T V h else 2 * RW T V h) else RW T V h
def OU (T : Tv) (V : Vw) (h j : Nat) : Int32 := if T 3 h = 3 then 0 else if V.2.2.1 h = T 2 j then 0 else 2
def PR (T : Tv) (V : Vw) (j : Nat) (po : Int32) : Int32 := po + if V.2.2.2.2 j then T 0 4 else 0
def TB (T : Tv) (V : Vw) (h j : Nat) (we po : Int32) : Int32 := if PR T V j po < 1 then 0 else if V.2.2.2.1 h then ((T 1 j + OU T V h j) * (we + 10) + PR T V j po - 1) / PR T V j po - ((T 1 j + OU T V h j) * (we + 10) + PR T V j po - 1) / PR T V j po / 10 else ((T 1 j + OU T V h j) * (we + 10) + PR T V j po - 1) / PR T V j po
def TM (T : Tv) (V : Vw) (h j : Nat) : Int32 := TB T V h j (WT T V h) (PW T V h)
def LO (T : Tv) (h : Nat) : Int32 := if 0 < T 0 5 then (if T 0 1 < T 5 h then T 5 h - T 0 1 else 0) else 0
def SF (T : Tv) (V : Vw) (h n : Nat) : Int32 := fld (fun j a => a + TM T V h j) n (LO T h * T 0 2)
def TO (T : Tv) (V : Vw) (h : Nat) : Int32 := SF T V h (nB T)
/-- a number within bounds -/
abbrev wn (x : Int32) (lo hi : Nat) : Prop := ∃ n, x = nI n ∧ lo ≤ n ∧ n ≤ hi
/-- what is told is within its bounds -/
def TOK (T : Tv) : Prop := wn (T 0 0) 1 20 ∧ wn (T 0 1) 1 6 ∧ wn (T 0 2) 0 30 ∧ wn (T 0 3) 0 100 ∧ wn (T 0 4) 0 9 ∧ (∀ k, k < nB T → wn (T 1 k) 1 30 ∧ wn (T 2 k) 0 1) ∧ (∀ h, h < nH T → wn (T 3 h) 0 3 ∧ wn (T 4 h) 0 50 ∧ wn (T 5 h) 1 6) ∧ (∀ l, l < nL T → wn (T 6 l) 0 30 ∧ wn (T 7 l) 0 9) ∧ (∀ i, i < nP T → wn (T 9 i) 0 99) ∧ (∀ i, i < nS T → ∃ a b k, T 10 i = nI a ∧ T 11 i = nI b ∧ T 12 i = nI k ∧ a < nH T ∧ b < nH T ∧ k < nB T) ∧ 1 ≤ nH T
/-- no power is wanting -/
def POS (T : Tv) (V : Vw) : Prop := ∀ h j, h < nH T → j < nB T → ¬ PR T V j (PW T V h) < 1
/-- the told in the reference's row r -/
abbrev ToldM (w : Mem) (T : Tv) : Prop := (∀ i, i ≤ 10 → w.1 62 i = T 0 i) ∧ (∀ k, k < nB T → w.1 62 (11 + 2 * k) = T 1 k ∧ w.1 62 (11 + 2 * k + 1) = T 2 k) ∧ (∀ h, h < nH T → w.1 62 (19 + 4 * h) = T 3 h ∧ w.1 62 (19 + 4 * h + 2) = T 4 h ∧ w.1 62 (19 + 4 * h + 3) = T 5 h) ∧ (∀ l, l < nL T → w.1 62 (35 + 4 * l) = T 6 l ∧ w.1 62 (35 + 4 * l + 1) = T 7 l) ∧ (∀ i, i < nP T → w.1 62 (55 + i) = T 9 i) ∧ (∀ i, i < nS T → w.1 62 (59 + 3 * i) = T 10 i ∧ w.1 62 (59 + 3 * i + 1) = T 11 i ∧ w.1 62 (59 + 3 * i + 2) = T 12 i)
/-- a row of the reference as it is seen -/
abbrev RM (w : Mem) (row : Nat) (V : Vw) : Prop := (∀ h l, h < 4 → l < 5 → (w.1 row l = nI (h + 1)) = (V.1 h l = true)) ∧ w.1 row 7 = V.2.1 ∧ (∀ h, h < 4 → w.1 row 5 >>> (nI h &&& 31) &&& 1 = V.2.2.1 h) ∧ (∀ h, h < 4 → bb (w.1 row 6) (nI h) = V.2.2.2.1 h) ∧ (∀ j, j < 4 → bb (w.1 59 22) (nI j) = V.2.2.2.2 j)
