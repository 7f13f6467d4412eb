/-! ===== what every call begins and ends with ===== -/
section Pub0
variable {d : Nat} {w w1 wg wc : Mem} {Q : Option Value → Mem → Prop} {T : Tv} {D F : Nat → Nat} {h : Nat} {x y : Int32}
theorem IMd.ag {P : Nat → Nat → Prop} {w2 : Mem} (hM : IMd w1 T D F) (ha : Ag P w1 w2) (h1 : ∀ i, ¬ P 62 i) (h2 : ∀ i, ¬ P 64 i) (h3 : ¬ P 59 14) (h4 : w2.1 59 22 = 0) : IMd w2 T D F := by
  obtain ⟨m1, m2, m3, m4, m5, m6⟩ := hM
  exact ⟨m1.ag ha h1, m2.ag ha h1, m3.ag ha h2, h4, by rw [(ha 59 14 h3).1]; exact m5, fun l hl => by rw [(ha 62 _ (h1 _)).1]; exact m6 l hl⟩
theorem u_goodG (hM : IMd w1 T D F) (hQ : ∀ wg, IMd wg T D F → Ag QM w1 wg → wg.1 59 11 = 0 → Q none wg) : Cl (d + 1) m_X11_good [.ref 59] w1 Q := by
  have ha : Ag (fun j i => j = 59 ∧ (i = 0 ∨ i = 11)) w1 (wI (wI w1 59 0 0) 59 11 0) := (Ag.rf.wI ⟨rfl, Or.inl rfl⟩).wI ⟨rfl, Or.inr rfl⟩
  exact u_good (hQ _ (hM.ag ha (fun i z => by omega) (fun i z => by omega) (by omega) (by rw [(ha 59 22 (by omega)).1]; exact hM.2.2.2.1)) (ha.wk fun j i z => by omega) (by simp [wI]))
theorem u_dryG (hM : IMd wg T D F) (hA : Ag QM w1 wg) (h11 : wg.1 59 11 = 0) (hQ : ∀ w', IMd w' T D F → Ag QM w1 w' → w'.1 59 11 = 0 → Q none w') : Cl (d + 1) m_X11_dry [.ref 59] wg Q := by
  have ha : Ag (fun j i => j = 59 ∧ i = 22) wg (wI wg 59 22 0) := Ag.rf.wI ⟨rfl, rfl⟩
  exact u_dry (hQ _ (hM.ag ha (fun i z => by omega) (fun i z => by omega) (by omega) (by simp [wI])) (hA.tr (ha.wk fun j i z => by omega)) (by rw [← h11]; simp [wI]))
theorem u_noG (hM : IMd wg T D F) (hA : Ag QM w1 wg) (hQ : ∀ w', MAf w1 w' y → Q (some (.int (-1))) w') : Cl (d + 1) m_X11_no [.ref 59, .int y] wg Q :=
  u_no (hQ _ ⟨hA.wI (Or.inl ⟨rfl, Or.inr (Or.inl rfl)⟩), by rw [← hM.2.2.2.1]; simp [wI], by simp [wI]⟩)
theorem u_isNotG (hM : IMd wg T D F) (hA : Ag QM w1 wg) (hQ : ∀ w', MAf w1 w' y → Q (some (.int 0)) w') : Cl (d + 1) m_X11_isNot [.ref 59, .int y] wg Q :=
  u_isNot (hQ _ ⟨hA.wI (Or.inl ⟨rfl, Or.inr (Or.inl rfl)⟩), by rw [← hM.2.2.2.1]; simp [wI], by simp [wI]⟩)
theorem t_grantedG (hA : Ag QC w wc) (hc : CCH wc T) (hQ : ∀ w', CAf w w' T 0 → Q (some (.int x)) w') : Cl (d + 1) m_X10_granted [.ref 0, .int x] wc Q :=
  t_granted (hQ _ ⟨hA.wI (Or.inl ⟨rfl, rfl⟩), hc.ag (P := fun j _ => j = 0) (Ag.rf.wI rfl) (fun i _ z => by omega) (fun i z => by omega), by simp [wI]⟩)
theorem t_refusedG (hA : Ag QC w wc) (hc : CCH wc T) (hQ : ∀ w', CAf w w' T y → Q (some (.int (-1))) w') : Cl (d + 1) m_X10_refused [.ref 0, .int y] wc Q :=
  t_refused (hQ _ ⟨hA.wI (Or.inl ⟨rfl, rfl⟩), hc.ag (P := fun j _ => j = 0) (Ag.rf.wI rfl) (fun i _ z => by omega) (fun i z => by omega), by simp [wI]⟩)
theorem t_doneG (hA : Ag QC w wc) (hc : CCH wc T) (hQ : ∀ w', CAf w w' T y → Q (some (.int (bI (y = 0)))) w') : Cl (d + 1) m_X10_done [.ref 0, .int y] wc Q :=
  t_done (hQ _ ⟨hA.wI (Or.inl ⟨rfl, rfl⟩), hc.ag (P := fun j _ => j = 0) (Ag.rf.wI rfl) (fun i _ z => by omega) (fun i z => by omega), by simp [wI]⟩)
theorem PWT.pu (hP : PWT T D F) (h1 : 1 ≤ nH T) : PU T D F := hP.elim (fun z => z.2) fun z => absurd z.1 (by omega)
theorem PWT.hL (hP : PWT T D F) {k : Nat} (h1 : k < nL T) : 1 ≤ nH T := by
  rcases Nat.lt_or_ge 0 (nH T) with z | z
  · exact z
  · have := hP.none (by omega); omega
theorem PWT.hB (hP : PWT T D F) {k : Nat} (h1 : k < nB T) : 1 ≤ nH T := by
  rcases Nat.lt_or_ge 0 (nH T) with z | z
  · exact z
  · have := hP.none (by omega); omega
theorem RM64 (hU : PU T D F) (hM : IMd wg T D F) : RM wg 64 (VC (RS D)) := RM_of (s := 0) hM.2.2.1 hU.2.2.1 (by decide) hM.2.2.2.1
theorem POS0 (hU : PU T D F) : POS T (VC (RS D)) := POS_of hU.1 hU.2.1 ⟨D 7, rfl, hU.2.2.2.2.2.1, hU.2.2.1.2.2.2⟩
theorem CCHq {P : Nat → Nat → Prop} (h : CCH w T) (ha : Ag P w wc) (h1 : ∀ i, ¬ P 45 i) (h2 : ∀ i, ¬ P 52 i) : CCH wc T := h.ag ha (fun i _ => h1 i) h2
theorem MAfq {P : Nat → Nat → Prop} {w2 : Mem} (hA : Ag QM w1 wg) (hM : IMd wg T D F) (h11 : wg.1 59 11 = 0) (ha : Ag P wg w2) (hs : ∀ j i, P j i → QM j i) (h1 : ¬ P 59 22) (h2 : ¬ P 59 11) : MAf w1 w2 0 := ⟨hA.tr (ha.wk hs), by rw [(ha 59 22 h1).1]; exact hM.2.2.2.1, by rw [(ha 59 11 h2).1]; exact h11⟩
theorem e14 (hM : IMd wg T D F) (h1 : 1 ≤ nH T) : wg.1 59 14 = 1 := by rw [hM.2.2.2.2.1]; exact if_pos h1
theorem e14n (hM : IMd wg T D F) (h1 : ¬ 1 ≤ nH T) : wg.1 59 14 = 0 := by rw [hM.2.2.2.2.1]; exact if_neg h1
theorem u_layRanksG (hU : PU T D F) (hM : IMd wg T D F) (hQ : ∀ w', Ag (fun j i => j = 67 ∨ j = 68 ∨ (j = 59 ∧ i = 25)) wg w' → MST w' (TO T (VC (RS D))) (nH T) (VC (RS D)).2.2.2.1 → Q none w') : Cl (d + 6) m_X11_layRanks [.ref 59, .ref 64] wg Q := u_layRanks hM.1 hU.1 hU.2.1 (RM64 hU hM) rfl (POS0 hU) (Or.inl rfl) (lit_wn hU hM.2.2.1) hQ
/-- the ranks of n houses are all of 0 .. n - 1 -/
theorem cnt4 (p : Nat → Bool) : cnt p 1 = (p 0).toNat ∧ cnt p 2 = (p 0).toNat + (p 1).toNat ∧ cnt p 3 = (p 0).toNat + (p 1).toNat + (p 2).toNat ∧ cnt p 4 = (p 0).toNat + (p 1).toNat + (p 2).toNat + (p 3).toNat := by
  unfold cnt cnt cnt cnt cnt
  cases p 0 <;> cases p 1 <;> cases p 2 <;> cases p 3 <;> decide
theorem on4 : ∀ a b c e f g : Bool, ¬ (a = true ∧ e = true ∧ b = false) → ¬ (a = false ∧ e = false ∧ b = true) → ¬ (a = true ∧ f = true ∧ c = false) → ¬ (a = false ∧ f = false ∧ c = true) → ¬ (b = true ∧ g = true ∧ c = false) → ¬ (b = false ∧ g = false ∧ c = true) → ¬ (e = true ∧ g = true ∧ f = false) → ¬ (e = false ∧ g = false ∧ f = true) → ∀ r : Fin 4, (!a).toNat + (!b).toNat + (!c).toNat = r.val ∨ a.toNat + (!e).toNat + (!f).toNat = r.val ∨ b.toNat + e.toNat + (!g).toNat = r.val ∨ c.toNat + f.toNat + g.toNat = r.val := by
  intro a b c e f g h1 h2 h3 h4 h5 h6 h7 h8
  cases a <;> cases b <;> cases c <;> cases e <;> cases f <;> cases g <;> first | exact absurd ⟨rfl, rfl, rfl⟩ h1 | exact absurd ⟨rfl, rfl, rfl⟩ h2 | exact absurd ⟨rfl, rfl, rfl⟩ h3 | exact absurd ⟨rfl, rfl, rfl⟩ h4 | exact absurd ⟨rfl, rfl, rfl⟩ h5 | exact absurd ⟨rfl, rfl, rfl⟩ h6 | exact absurd ⟨rfl, rfl, rfl⟩ h7 | exact absurd ⟨rfl, rfl, rfl⟩ h8 | decide
theorem on3 : ∀ a b e : Bool, ¬ (a = true ∧ e = true ∧ b = false) → ¬ (a = false ∧ e = false ∧ b = true) → ∀ r : Fin 3, (!a).toNat + (!b).toNat = r.val ∨ a.toNat + (!e).toNat = r.val ∨ b.toNat + e.toNat = r.val := by decide
theorem on2 : ∀ a : Bool, ∀ r : Fin 2, (!a).toNat = r.val ∨ a.toNat = r.val := by decide
theorem onto {b : Nat → Nat → Bool} {n r : Nat} (hn : n ≤ 4) (hr : r < n) (ir : ∀ h, b h h = false) (tt : ∀ g h, g < h → b h g = !b g h) (tr : ∀ f g h, b f g = true → b g h = true → b f h = true) : ∃ h, h < n ∧ cnt (fun g => b g h) n = r := by
  have cy : ∀ f g h, f < g → g < h → ¬ (b f g = true ∧ b g h = true ∧ b f h = false) ∧ ¬ (b f g = false ∧ b g h = false ∧ b f h = true) := by
    intro f g h h1 h2
    refine ⟨fun z => ?_, fun z => ?_⟩
    · have := tr f g h z.1 z.2.1
      rw [z.2.2] at this; cases this
    · have e1 : b g f = true := by rw [tt f g h1, z.1]; rfl
      have e2 : b h g = true := by rw [tt g h h2, z.2.1]; rfl
      have := tr h g f e2 e1
      rw [tt f h (by omega), z.2.2] at this; cases this
  rcases (by omega : n = 1 ∨ n = 2 ∨ n = 3 ∨ n = 4) with rfl | rfl | rfl | rfl
  · refine ⟨0, by omega, ?_⟩
    rw [(cnt4 _).1, ir]; show 0 = r; omega
  · have := on2 (b 0 1) ⟨r, hr⟩
    rcases this with z | z
    · exact ⟨0, by omega, by rw [(cnt4 _).2.1, ir, tt 0 1 (by decide)]; show 0 + _ = r; rw [z, Nat.zero_add]⟩
    · exact ⟨1, by omega, by rw [(cnt4 _).2.1, ir]; exact z⟩
  · have := on3 (b 0 1) (b 0 2) (b 1 2) (cy 0 1 2 (by decide) (by decide)).1 (cy 0 1 2 (by decide) (by decide)).2 ⟨r, hr⟩
    rcases this with z | z | z
    · exact ⟨0, by omega, by rw [(cnt4 _).2.2.1, ir, tt 0 1 (by decide), tt 0 2 (by decide)]; show 0 + _ + _ = r; rw [Nat.zero_add, z]⟩
    · exact ⟨1, by omega, by rw [(cnt4 _).2.2.1, ir, tt 1 2 (by decide)]; show _ + 0 + _ = r; rw [Nat.add_zero, z]⟩
    · exact ⟨2, by omega, by rw [(cnt4 _).2.2.1, ir]; exact z⟩
  · have := on4 (b 0 1) (b 0 2) (b 0 3) (b 1 2) (b 1 3) (b 2 3) (cy 0 1 2 (by decide) (by decide)).1 (cy 0 1 2 (by decide) (by decide)).2 (cy 0 1 3 (by decide) (by decide)).1 (cy 0 1 3 (by decide) (by decide)).2 (cy 0 2 3 (by decide) (by decide)).1 (cy 0 2 3 (by decide) (by decide)).2 (cy 1 2 3 (by decide) (by decide)).1 (cy 1 2 3 (by decide) (by decide)).2 ⟨r, hr⟩
    rcases this with z | z | z | z
    · exact ⟨0, by omega, by rw [(cnt4 _).2.2.2, ir, tt 0 1 (by decide), tt 0 2 (by decide), tt 0 3 (by decide)]; show 0 + _ + _ + _ = r; rw [Nat.zero_add, z]⟩
    · exact ⟨1, by omega, by rw [(cnt4 _).2.2.2, ir, tt 1 2 (by decide), tt 1 3 (by decide)]; show _ + 0 + _ + _ = r; rw [Nat.add_zero, z]⟩
    · exact ⟨2, by omega, by rw [(cnt4 _).2.2.2, ir, tt 2 3 (by decide)]; show _ + _ + 0 + _ = r; rw [Nat.add_zero, z]⟩
    · exact ⟨3, by omega, by rw [(cnt4 _).2.2.2, ir]; exact z⟩
theorem rk_onto {X : Nat → Int32} {n : Nat} {L : Nat → Bool} {r : Nat} (hn : n ≤ 4) (hr : r < n) : ∃ h, h < n ∧ rkX X n L h = r := by
  refine onto hn hr (fun h => befX_irr) (fun g h hgh => ?_) (fun f g h h1 h2 => ?_)
  · unfold befX
    by_cases q : outX X n L g = outX X n L h
    · rw [if_pos q.symm, if_pos q]
      rcases (show X g < X h ∨ X g = X h ∨ X h < X g from by
        by_cases a : X g < X h
        · exact Or.inl a
        · by_cases b : X h < X g
          · exact Or.inr (Or.inr b)
          · exact Or.inr (Or.inl (Int32.le_antisymm (Int32.not_lt.mp b) (Int32.not_lt.mp a)))) with z | z | z
      · have n1 : ¬ X h < X g := fun y => Int32.lt_irrefl (Int32.lt_trans y z)
        have n2 : ¬ X h = X g := fun y => by rw [y] at z; exact Int32.lt_irrefl z
        simp [z, n1, n2]
      · rw [z]
        have n1 : ¬ X h < X h := Int32.lt_irrefl
        simp [n1, hgh]
        omega
      · have n1 : ¬ X g < X h := fun y => Int32.lt_irrefl (Int32.lt_trans y z)
        have n2 : ¬ X g = X h := fun y => by rw [y] at z; exact Int32.lt_irrefl z
        simp [z, n1, n2]
    · rw [if_neg (fun y => q y.symm), if_neg q]
      cases a : outX X n L g <;> cases c : outX X n L h <;> simp_all
  · unfold befX at h1 h2 ⊢
    have tr : ∀ a b c : Int32, a < b → b < c → a < c := fun a b c => Int32.lt_trans
    by_cases q1 : outX X n L f = outX X n L g <;> by_cases q2 : outX X n L g = outX X n L h
    · rw [if_pos q1] at h1
      rw [if_pos q2] at h2
      rw [if_pos (q1.trans q2)]
      simp only [Bool.or_eq_true, Bool.and_eq_true, decide_eq_true_eq] at h1 h2 ⊢
      rcases h1 with a | ⟨a, b⟩ <;> rcases h2 with c | ⟨c, e⟩
      · exact Or.inl (tr _ _ _ a c)
      · rw [c] at a; exact Or.inl a
      · rw [← a] at c; exact Or.inl c
      · exact Or.inr ⟨a.trans c, by omega⟩
    · rw [if_neg q2] at h2
      rw [if_neg (fun z => q2 (q1.symm.trans z))]
      exact h2
    · rw [if_neg q1] at h1
      rw [if_neg (fun z => q1 (z.trans q2.symm)), ← q2]
      exact h1
    · rw [if_neg q1] at h1
      rw [if_neg q2] at h2
      exact absurd (h1.trans h2.symm) q2
end Pub0
