/-! ===== what a line keeps ===== -/
section RvKeep
variable {B : Nat → Nat} {n b h l c : Nat} {τ t : Tk3} {s : Cs} {N : Nat → Nm4} {T : Tv} {D F : Nat → Nat} {S : St5} {G : Nat → Int32}
theorem usN_s {f : Nat → Nat} {n : Nat} : usN f (n + 1) = usN f n + f n := rfl
theorem usN_one {f f' : Nat → Nat} {a δ : Nat} : ∀ n, a < n → (∀ i, i < n → i ≠ a → f' i = f i) → f' a = f a + δ → usN f' n = usN f n + δ := by
  intro n
  induction n with
  | zero => intro h; omega
  | succ n ih =>
    intro ha he hd
    rw [usN_s, usN_s]
    by_cases q : a = n
    · subst q
      rw [usN_congr fun i hi => he i (by omega) (by omega), hd]
      omega
    · rw [ih (by omega) (fun i hi => he i (by omega)) hd, he n (by omega) (fun z => q z.symm)]
      omega
theorem cnt_add {p p' : Nat → Bool} {a n : Nat} (ha : a < n) (he : ∀ i, i < n → i ≠ a → p' i = p i) (h0 : p a = false) : cnt p' n = cnt p n + if p' a = true then 1 else 0 := by
  rw [cnt_us, cnt_us]
  refine usN_one n ha (fun i hi hn => by rw [he i hi hn]) ?_
  rw [h0]
  cases p' a <;> rfl
theorem fFd_bit {x y a b : Nat} (hne : x ≠ y) : (fFd F x y a).testBit b = ((F a).testBit b || (decide (a = x ∧ b = y) || decide (a = y ∧ b = x))) := by
  unfold fFd updD
  by_cases q : a = y
  · subst q
    rw [if_pos rfl, Nat.testBit_or, Nat.testBit_two_pow]
    have e1 : decide (a = x ∧ b = a) = false := by simp; intro z; exact absurd z.symm hne
    have e2 : decide (a = a ∧ b = x) = decide (x = b) := by simp [eq_comm]
    rw [e1, e2, Bool.false_or]
  · rw [if_neg q]
    have e2 : decide (a = y ∧ b = x) = false := by simp [q]
    rw [e2, Bool.or_false]
    by_cases q2 : a = x
    · subst q2
      rw [if_pos rfl, Nat.testBit_or, Nat.testBit_two_pow]
      have e1 : decide (a = a ∧ b = y) = decide (y = b) := by simp [eq_comm]
      rw [e1]
    · rw [if_neg q2]
      have e1 : decide (a = x ∧ b = y) = false := by simp [q2]
      rw [e1, Bool.or_false]
/-- how many pairs, with one more -/
theorem fr_sum {x y m : Nat} (P : Nat → Nat → Bool) (hx : x < m) (hyx : y < x) (h0 : (F x).testBit y = false) (F' : Nat → Nat) (hF' : ∀ a b, (F' a).testBit b = ((F a).testBit b || (decide (a = x ∧ b = y) || decide (a = y ∧ b = x)))) : usN (fun l => cnt (fun m => (F' l).testBit m && P l m) l) m = usN (fun l => cnt (fun m => (F l).testBit m && P l m) l) m + if P x y = true then 1 else 0 := by
  refine usN_one m hx (fun i hi hn => cnt_congr fun j hj => ?_) ?_
  · rw [hF']
    have e1 : decide (i = x ∧ j = y) = false := by simp [hn]
    have e2 : decide (i = y ∧ j = x) = false := by simp; omega
    rw [e1, e2, Bool.or_false, Bool.or_false]
  · have := cnt_add (p := fun m => (F x).testBit m && P x m) (p' := fun m => (F' x).testBit m && P x m) (a := y) (n := x) hyx (fun i hi hn => ?_) (by rw [h0]; rfl)
    · rw [this]
      have e : ((F' x).testBit y && P x y) = P x y := by
        rw [hF']
        have e1 : decide (x = x ∧ y = y) = true := by simp
        rw [e1]; simp
      rw [e]
    · show ((F' x).testBit i && P x i) = ((F x).testBit i && P x i)
      rw [hF']
      have e1 : decide (x = x ∧ i = y) = false := by simp [hn]
      have e2 : decide (x = y ∧ i = x) = false := by simp; omega
      rw [e1, e2, Bool.or_false, Bool.or_false]
theorem pr_bb : ∀ a b l : Fin 5, a ≠ b → bb (prI a.val b.val) (nI l.val) = decide (l.val = a.val ∨ l.val = b.val) := by decide +kernel
theorem pr_n : ∀ a b : Fin 5, a ≠ b → prI a.val b.val = nI (2 ^ a.val + 2 ^ b.val) := by decide +kernel
theorem pr_or : ∀ x : Fin 32, ∀ a b : Fin 5, a ≠ b → nI x.val ||| prI a.val b.val = nI (x.val ||| (2 ^ a.val ||| 2 ^ b.val)) ∧ (x.val ||| (2 ^ a.val ||| 2 ^ b.val)) < 32 ∧ clb (x.val ||| (2 ^ a.val ||| 2 ^ b.val)) a.val = clb x.val a.val ||| 2 ^ b.val ∧ clb (x.val ||| (2 ^ a.val ||| 2 ^ b.val)) b.val = clb x.val b.val ||| 2 ^ a.val := by decide +kernel
theorem mk_cl : ∀ x : Fin 32, ∀ l : Fin 5, nI x.val &&& (((1 : Int32) <<< (nI l.val &&& 31)) ^^^ (-1)) = nI (clb x.val l.val) ∧ clb x.val l.val < 32 := by decide +kernel
theorem or_n : ∀ x : Fin 32, ∀ l : Fin 5, nI x.val ||| (1 <<< (nI l.val &&& 31)) = nI (x.val ||| 2 ^ l.val) ∧ (x.val ||| 2 ^ l.val) < 32 := by decide +kernel
theorem bb_n : ∀ x : Fin 32, ∀ l : Fin 5, bb (nI x.val) (nI l.val) = x.val.testBit l.val := by decide +kernel
/-- two are friends -/
theorem FRV.add {x y : Nat} (hZ : SZ T) (hF : FRV T F) (hx : x < nL T) (hy : y < nL T) (hne : x ≠ y) (h6 : nF T < 6) (hno : bb (FO T x) (nI y) = false) : FRV (tFd T x y) (fFd F x y) := by
  obtain ⟨⟨A, C, f1, f2⟩, g1, g2, g3⟩ := hF
  have hl5 : nL T ≤ 5 := hZ.2.2.2.1
  have e8 : nF (tFd T x y) = nF T + 1 := tn (by omega)
  have eL : nL (tFd T x y) = nL T := rfl
  have old : ∀ i, i < nF T → tFd T x y 8 i = T 8 i := fun i hi => by
    unfold tFd
    rw [updT_ne (by omega), updT_ne (by omega)]
  have new : tFd T x y 8 (nF T) = prI x y := by
    unfold tFd
    rw [updT_ne (by omega), updT_eq]
  obtain ⟨gx1, xx, gx2, gx3, gx4⟩ := g1 x (by omega)
  have hbit : (F x).testBit y = false := by
    rw [gx4, bb_n ⟨F x, gx1⟩ ⟨y, by omega⟩] at hno
    exact hno
  have hbit2 : (F y).testBit x = false := by rw [g2 y x (by omega) (by omega)]; exact hbit
  have hfb : ∀ a b, (fFd F x y a).testBit b = ((F a).testBit b || (decide (a = x ∧ b = y) || decide (a = y ∧ b = x))) := fun a b => fFd_bit hne
  have rw1 : ∀ l, rwF (tFd T x y) l = if bb (prI x y) (nI l) then rwF T l ||| prI x y else rwF T l := by
    intro l
    unfold rwF
    rw [e8]
    show (fun i a => if bb (tFd T x y 8 i) (nI l) then a ||| tFd T x y 8 i else a) (nF T) (fld (fun i a => if bb (tFd T x y 8 i) (nI l) then a ||| tFd T x y 8 i else a) (nF T) 0) = _
    rw [fld_congr (g := fun i a => if bb (T 8 i) (nI l) then a ||| T 8 i else a) (fun j a hj => by rw [old j hj]) 0]
    dsimp only
    rw [new]
  have nexy : (⟨x, by omega⟩ : Fin 5) ≠ ⟨y, by omega⟩ := fun z => hne (congrArg Fin.val z)
  have FOr : ∀ T' l, FO T' l = rwF T' l &&& ((1 <<< (nI l &&& 31)) ^^^ (-1)) := fun _ _ => rfl
  refine ⟨?_, fun l hl => ?_, fun a b ha hb => ?_, fun l h1 h2 => ?_⟩
  · obtain ⟨A', C', ha1, ha2, ha3⟩ : ∃ A' C' : Nat → Nat, A' (nF T) = max x y ∧ C' (nF T) = min x y ∧ ∀ i, i < nF T → A' i = A i ∧ C' i = C i := ⟨fun i => if i = nF T then max x y else A i, fun i => if i = nF T then min x y else C i, if_pos rfl, if_pos rfl, fun i hi => ⟨if_neg (Nat.ne_of_lt hi), if_neg (Nat.ne_of_lt hi)⟩⟩
    refine ⟨A', C', fun i hi => ?_, fun P => ?_⟩
    · rw [e8] at hi
      by_cases q : i = nF T
      · rw [q, ha1, ha2, new, pr_n ⟨x, by omega⟩ ⟨y, by omega⟩ nexy, eL]
        rcases Nat.lt_or_ge x y with z | z
        · rw [Nat.max_eq_right (Nat.le_of_lt z), Nat.min_eq_left (Nat.le_of_lt z)]
          exact ⟨z, hy, by rw [Nat.add_comm]⟩
        · rw [Nat.max_eq_left z, Nat.min_eq_right z]
          exact ⟨by omega, hx, rfl⟩
      · rw [(ha3 i (by omega)).1, (ha3 i (by omega)).2, old i (by omega), eL]
        exact f1 i (by omega)
    · rw [e8, eL, usN_s]
      rw [usN_congr (g := fun i => if P (A i) (C i) then 1 else 0) (fun j hj => by rw [(ha3 j hj).1, (ha3 j hj).2]), f2 P, ha1, ha2]
      rcases Nat.lt_or_ge x y with z | z
      · rw [Nat.max_eq_right (Nat.le_of_lt z), Nat.min_eq_left (Nat.le_of_lt z)]
        exact (fr_sum P hy z hbit2 (fFd F x y) (fun a b => by rw [hfb, Bool.or_comm (decide (a = x ∧ b = y))])).symm
      · rw [Nat.max_eq_left z, Nat.min_eq_right z]
        exact (fr_sum P hx (by omega) hbit (fFd F x y) hfb).symm
  · obtain ⟨q1, x0, q2, q3, q4⟩ := g1 l hl
    have o := pr_or ⟨x0, q2⟩ ⟨x, by omega⟩ ⟨y, by omega⟩ nexy
    dsimp only at o
    have q5 : F l = clb x0 l := by
      have m1 := mk_cl ⟨x0, q2⟩ ⟨l, hl⟩
      dsimp only at m1
      rw [FOr, q3, m1.1] at q4
      exact ((nI_eq (a := clb x0 l) (b := F l) (by omega) (by omega)).mp q4).symm
    have hb2 := pr_bb ⟨x, by omega⟩ ⟨y, by omega⟩ ⟨l, hl⟩ nexy
    dsimp only at hb2
    by_cases z : l = x ∨ l = y
    · have r1 : rwF (tFd T x y) l = nI (x0 ||| (2 ^ x ||| 2 ^ y)) := by
        rw [rw1, hb2, if_pos (by simpa using z), q3, o.1]
      have r2 : fFd F x y l = clb (x0 ||| (2 ^ x ||| 2 ^ y)) l := by
        unfold fFd updD
        by_cases z2 : l = y
        · rw [if_pos z2, ← z2, q5, z2]
          rw [o.2.2.2]
        · have z3 : l = x := by omega
          rw [if_neg z2, if_pos z3, ← z3, q5, z3, o.2.2.1]
      have r3 := mk_cl ⟨_, o.2.1⟩ ⟨l, hl⟩
      dsimp only at r3
      refine ⟨by rw [r2]; exact r3.2, _, o.2.1, r1, ?_⟩
      rw [FOr, r1, r3.1, r2]
    · have r1 : rwF (tFd T x y) l = rwF T l := by rw [rw1, hb2, if_neg (by simpa using z)]
      have r2 : fFd F x y l = F l := by
        unfold fFd updD
        rw [if_neg (by omega), if_neg (by omega)]
      refine ⟨by rw [r2]; exact q1, x0, q2, by rw [r1]; exact q3, ?_⟩
      rw [FOr, r1, r2]
      exact q4
  · rw [hfb, hfb, g2 a b ha hb]
    have e1 : decide (a = x ∧ b = y) = decide (b = y ∧ a = x) := by simp [and_comm]
    have e2 : decide (a = y ∧ b = x) = decide (b = x ∧ a = y) := by simp [and_comm]
    rw [e1, e2, Bool.or_comm (decide (b = y ∧ a = x))]
  · have h1' : nL T ≤ l := h1
    unfold fFd updD
    rw [if_neg (by omega), if_neg (by omega)]
    exact g3 l h1' h2
end RvKeep
