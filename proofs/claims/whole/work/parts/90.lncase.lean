/-! ===== a line, by its first word ===== -/
section LineCases
variable {B : Nat → Nat} {n b h l c : Nat} {τ t : Tk3} {s : Cs} {N : Nat → Nm4} {T : Tv} {D F : Nat → Nat} {S : St5} {G : Nat → Int32}
theorem wd8 : ∀ i j : Fin 8, i ≠ j → wln i.val ≠ wln j.val ∨ (0 < wln i.val ∧ 0 < wln j.val ∧ wd i.val 0 ≠ wd j.val 0) := by decide +kernel
theorem ln_ex {i : Nat} (h : isWb B τ i = true) (hi : i < 8) (j : Nat) (hj : j < 8) (hne : i ≠ j) : isWb B τ j = false := isWb_ne h (wd8 ⟨i, hi⟩ ⟨j, hj⟩ (fun z => hne (congrArg Fin.val z)))
theorem lnF_0 (h : isWb B τ 0 = true) : lnF B n S τ = (if S.2.1 7 = 0 then lRg B n S (nxT B n τ) else ((τ, some (3, τ.1)), S)) := by
  unfold lnF
  rw [if_pos h]
theorem lnI_0 (h : isWb B τ 0 = true) : lnI B τ = 11 := by
  unfold lnI
  rw [if_pos h]
theorem lnF_1 (h : isWb B τ 1 = true) : lnF B n S τ = gte S τ true (lAb B n S (nxT B n τ)) := by
  unfold lnF
  rw [if_neg (by rw [ln_ex h (by decide) 0 (by decide) (by decide)]; decide), if_pos h]
theorem lnI_1 (h : isWb B τ 1 = true) : lnI B τ = 12 := by
  unfold lnI
  rw [if_neg (by rw [ln_ex h (by decide) 0 (by decide) (by decide)]; decide), if_pos h]
theorem lnF_2 (h : isWb B τ 2 = true) : lnF B n S τ = gte S τ (decide (nB S.1 < 4)) (lBd B n S (nxT B n τ)) := by
  unfold lnF
  rw [if_neg (by rw [ln_ex h (by decide) 0 (by decide) (by decide)]; decide), if_neg (by rw [ln_ex h (by decide) 1 (by decide) (by decide)]; decide), if_pos h]
theorem lnI_2 (h : isWb B τ 2 = true) : lnI B τ = 5 := by
  unfold lnI
  rw [if_neg (by rw [ln_ex h (by decide) 0 (by decide) (by decide)]; decide), if_neg (by rw [ln_ex h (by decide) 1 (by decide) (by decide)]; decide), if_pos h]
theorem lnF_3 (h : isWb B τ 3 = true) : lnF B n S τ = gte S τ (decide (nH S.1 < 4)) (lHs B n S (nxT B n τ)) := by
  unfold lnF
  rw [if_neg (by rw [ln_ex h (by decide) 0 (by decide) (by decide)]; decide), if_neg (by rw [ln_ex h (by decide) 1 (by decide) (by decide)]; decide), if_neg (by rw [ln_ex h (by decide) 2 (by decide) (by decide)]; decide), if_pos h]
theorem lnI_3 (h : isWb B τ 3 = true) : lnI B τ = 6 := by
  unfold lnI
  rw [if_neg (by rw [ln_ex h (by decide) 0 (by decide) (by decide)]; decide), if_neg (by rw [ln_ex h (by decide) 1 (by decide) (by decide)]; decide), if_neg (by rw [ln_ex h (by decide) 2 (by decide) (by decide)]; decide), if_pos h]
theorem lnF_4 (h : isWb B τ 4 = true) : lnF B n S τ = gte S τ (decide (nL S.1 < 5)) (lLd B n S (nxT B n τ)) := by
  unfold lnF
  rw [if_neg (by rw [ln_ex h (by decide) 0 (by decide) (by decide)]; decide), if_neg (by rw [ln_ex h (by decide) 1 (by decide) (by decide)]; decide), if_neg (by rw [ln_ex h (by decide) 2 (by decide) (by decide)]; decide), if_neg (by rw [ln_ex h (by decide) 3 (by decide) (by decide)]; decide), if_pos h]
theorem lnI_4 (h : isWb B τ 4 = true) : lnI B τ = 7 := by
  unfold lnI
  rw [if_neg (by rw [ln_ex h (by decide) 0 (by decide) (by decide)]; decide), if_neg (by rw [ln_ex h (by decide) 1 (by decide) (by decide)]; decide), if_neg (by rw [ln_ex h (by decide) 2 (by decide) (by decide)]; decide), if_neg (by rw [ln_ex h (by decide) 3 (by decide) (by decide)]; decide), if_pos h]
theorem lnF_5 (h : isWb B τ 5 = true) : lnF B n S τ = gte S τ (decide (nF S.1 < 6)) (lFd B n S (nxT B n τ)) := by
  unfold lnF
  rw [if_neg (by rw [ln_ex h (by decide) 0 (by decide) (by decide)]; decide), if_neg (by rw [ln_ex h (by decide) 1 (by decide) (by decide)]; decide), if_neg (by rw [ln_ex h (by decide) 2 (by decide) (by decide)]; decide), if_neg (by rw [ln_ex h (by decide) 3 (by decide) (by decide)]; decide), if_neg (by rw [ln_ex h (by decide) 4 (by decide) (by decide)]; decide), if_pos h]
theorem lnI_5 (h : isWb B τ 5 = true) : lnI B τ = 8 := by
  unfold lnI
  rw [if_neg (by rw [ln_ex h (by decide) 0 (by decide) (by decide)]; decide), if_neg (by rw [ln_ex h (by decide) 1 (by decide) (by decide)]; decide), if_neg (by rw [ln_ex h (by decide) 2 (by decide) (by decide)]; decide), if_neg (by rw [ln_ex h (by decide) 3 (by decide) (by decide)]; decide), if_neg (by rw [ln_ex h (by decide) 4 (by decide) (by decide)]; decide), if_pos h]
theorem lnF_6 (h : isWb B τ 6 = true) : lnF B n S τ = gte S τ (decide (nP S.1 < 4)) (lPz B n S (nxT B n τ)) := by
  unfold lnF
  rw [if_neg (by rw [ln_ex h (by decide) 0 (by decide) (by decide)]; decide), if_neg (by rw [ln_ex h (by decide) 1 (by decide) (by decide)]; decide), if_neg (by rw [ln_ex h (by decide) 2 (by decide) (by decide)]; decide), if_neg (by rw [ln_ex h (by decide) 3 (by decide) (by decide)]; decide), if_neg (by rw [ln_ex h (by decide) 4 (by decide) (by decide)]; decide), if_neg (by rw [ln_ex h (by decide) 5 (by decide) (by decide)]; decide), if_pos h]
theorem lnI_6 (h : isWb B τ 6 = true) : lnI B τ = 9 := by
  unfold lnI
  rw [if_neg (by rw [ln_ex h (by decide) 0 (by decide) (by decide)]; decide), if_neg (by rw [ln_ex h (by decide) 1 (by decide) (by decide)]; decide), if_neg (by rw [ln_ex h (by decide) 2 (by decide) (by decide)]; decide), if_neg (by rw [ln_ex h (by decide) 3 (by decide) (by decide)]; decide), if_neg (by rw [ln_ex h (by decide) 4 (by decide) (by decide)]; decide), if_neg (by rw [ln_ex h (by decide) 5 (by decide) (by decide)]; decide), if_pos h]
theorem lnF_7 (h : isWb B τ 7 = true) : lnF B n S τ = gte S τ (decide (nS S.1 < 5)) (lSw B n S (nxT B n τ)) := by
  unfold lnF
  rw [if_neg (by rw [ln_ex h (by decide) 0 (by decide) (by decide)]; decide), if_neg (by rw [ln_ex h (by decide) 1 (by decide) (by decide)]; decide), if_neg (by rw [ln_ex h (by decide) 2 (by decide) (by decide)]; decide), if_neg (by rw [ln_ex h (by decide) 3 (by decide) (by decide)]; decide), if_neg (by rw [ln_ex h (by decide) 4 (by decide) (by decide)]; decide), if_neg (by rw [ln_ex h (by decide) 5 (by decide) (by decide)]; decide), if_neg (by rw [ln_ex h (by decide) 6 (by decide) (by decide)]; decide), if_pos h]
theorem lnI_7 (h : isWb B τ 7 = true) : lnI B τ = 10 := by
  unfold lnI
  rw [if_neg (by rw [ln_ex h (by decide) 0 (by decide) (by decide)]; decide), if_neg (by rw [ln_ex h (by decide) 1 (by decide) (by decide)]; decide), if_neg (by rw [ln_ex h (by decide) 2 (by decide) (by decide)]; decide), if_neg (by rw [ln_ex h (by decide) 3 (by decide) (by decide)]; decide), if_neg (by rw [ln_ex h (by decide) 4 (by decide) (by decide)]; decide), if_neg (by rw [ln_ex h (by decide) 5 (by decide) (by decide)]; decide), if_neg (by rw [ln_ex h (by decide) 6 (by decide) (by decide)]; decide), if_pos h]
theorem lnF_no (q0 : isWb B τ 0 = false) (q1 : isWb B τ 1 = false) (q2 : isWb B τ 2 = false) (q3 : isWb B τ 3 = false) (q4 : isWb B τ 4 = false) (q5 : isWb B τ 5 = false) (q6 : isWb B τ 6 = false) (q7 : isWb B τ 7 = false) : lnF B n S τ = ((τ, some (1, τ.1)), S) := by
  unfold lnF
  rw [q0, q1, q2, q3, q4, q5, q6, q7]
  rfl
theorem lnI_no (q0 : isWb B τ 0 = false) (q1 : isWb B τ 1 = false) (q2 : isWb B τ 2 = false) (q3 : isWb B τ 3 = false) (q4 : isWb B τ 4 = false) (q5 : isWb B τ 5 = false) (q6 : isWb B τ 6 = false) (q7 : isWb B τ 7 = false) : lnI B τ = -1 := by
  unfold lnI
  rw [q0, q1, q2, q3, q4, q5, q6, q7]
  rfl
theorem gte_none {r : Bool} {X : Cs × St5} (h : (gte S τ r X).1.2 = none) : S.2.1 7 ≠ 0 ∧ r = true ∧ gte S τ r X = X := by
  unfold gte at h ⊢
  by_cases q : S.2.1 7 = 0
  · rw [if_pos q] at h; cases h
  · rw [if_neg q] at h ⊢
    by_cases q2 : r = true
    · rw [if_pos q2]; exact ⟨q, q2, rfl⟩
    · rw [if_neg q2] at h; cases h
theorem abl_none (hP : NMP B n b h l c N) (hb : (ab6 B n N c T D t).2 = none) : nuV B N c 7 t < l ∧ abH B n N c D t < h := by
  have n4 := (blIf_none (nx_none hb)).1
  have m4 := num_one (s := ab3 B n N c D t) (so := 6) n4
  have n1 := (blIf_none (nx_none m4.1)).1
  have m1 := num_one (s := (t, none)) (so := 7) n1
  constructor
  · rw [show nuV B N c 7 t = nuV B N c 7 ((t, none) : Cs).1 from rfl, m1.2.2.2.2.2.2]
    exact (nu_lt hP m1.2.2.2.2.1).1 m1.2.2.2.2.2.1
  · show nuV B N c 6 (ab3 B n N c D t).1 < h
    rw [m4.2.2.2.2.2.2]
    exact (nu_lt hP m4.2.2.2.2.1).2.1 m4.2.2.2.2.2.1
theorem fdl_none (hP : NMP B n b h l c N) (hb : (fd5 B n N c T t).2 = none) : nuV B N c 7 t < l ∧ fdM B n N c t < l ∧ nuV B N c 7 t ≠ fdM B n N c t ∧ bb (FO T (nuV B N c 7 t)) (nI (fdM B n N c t)) = false := by
  have n4 := blIf_none (nx_none hb)
  have m3 := num_one (s := fd2 B n N c t) (so := 7) n4.1
  have n1 : (fd1 B N c t).2 = none := nx_none m3.1
  have m1 := num_one (s := (t, none)) (so := 7) n1
  have hp := n4.2.2
  simp only [Bool.or_eq_false_iff, decide_eq_false_iff_not] at hp
  refine ⟨?_, ?_, hp.1, hp.2⟩
  · rw [show nuV B N c 7 t = nuV B N c 7 ((t, none) : Cs).1 from rfl, m1.2.2.2.2.2.2]
    exact (nu_lt hP m1.2.2.2.2.1).1 m1.2.2.2.2.2.1
  · show nuV B N c 7 (fd2 B n N c t).1 < l
    rw [m3.2.2.2.2.2.2]
    exact (nu_lt hP m3.2.2.2.2.1).1 m3.2.2.2.2.2.1
theorem nxT_ok (hT : TKp B n τ) : TKp B n (nxT B n τ) := tk_ok hT.1.2.1
abbrev RDVs (B : Nat → Nat) (n : Nat) (S : St5) : Prop := RDV B n S.1 S.2.1 S.2.2.1 S.2.2.2.1 S.2.2.2.2
theorem rv_step (hV : RDVs B n S) (hT : TKp B n τ) (hb : (lnF B n S τ).1.2 = none) : RDVs B n (lnF B n S τ).2 := by
  obtain ⟨T, D, F, N, c⟩ := S
  have hT' := nxT_ok hT
  cases q0 : isWb B τ 0 with
  | true =>
    rw [lnF_0 q0] at hb ⊢
    by_cases h7 : D 7 = 0
    · rw [if_pos h7] at hb ⊢
      exact (rv_rg (G := fun _ => 0) hV h7 hb).1
    · rw [if_neg h7] at hb; cases hb
  | false =>
    cases q1 : isWb B τ 1 with
    | true =>
      rw [lnF_1 q1] at hb ⊢
      obtain ⟨g1, g2, g3⟩ := gte_none hb
      rw [g3] at hb ⊢
      exact (rv_ab (G := fun _ => 0) hV (abl_none hV.2.2.2.2.1 hb).1 (abl_none hV.2.2.2.2.1 hb).2).1
    | false =>
      cases q2 : isWb B τ 2 with
      | true =>
        rw [lnF_2 q2] at hb ⊢
        obtain ⟨g1, g2, g3⟩ := gte_none hb
        rw [g3] at hb ⊢
        exact (rv_bd (G := fun _ => 0) hV hT' g1 (by simpa using g2) hb).1
      | false =>
        cases q3 : isWb B τ 3 with
        | true =>
          rw [lnF_3 q3] at hb ⊢
          obtain ⟨g1, g2, g3⟩ := gte_none hb
          rw [g3] at hb ⊢
          exact (rv_hs (G := fun _ => 0) hV hT' g1 (by simpa using g2) hb).1
        | false =>
          cases q4 : isWb B τ 4 with
          | true =>
            rw [lnF_4 q4] at hb ⊢
            obtain ⟨g1, g2, g3⟩ := gte_none hb
            rw [g3] at hb ⊢
            exact (rv_ld (G := fun _ => 0) hV hT' g1 (by simpa using g2) hb).1
          | false =>
            cases q5 : isWb B τ 5 with
            | true =>
              rw [lnF_5 q5] at hb ⊢
              obtain ⟨g1, g2, g3⟩ := gte_none hb
              rw [g3] at hb ⊢
              have f := fdl_none hV.2.2.2.2.1 hb
              exact (rv_fd (G := fun _ => 0) hV g1 (by simpa using g2) f.1 f.2.1 f.2.2.1 f.2.2.2).1
            | false =>
              cases q6 : isWb B τ 6 with
              | true =>
                rw [lnF_6 q6] at hb ⊢
                obtain ⟨g1, g2, g3⟩ := gte_none hb
                rw [g3] at hb ⊢
                exact (rv_pz (G := fun _ => 0) hV g1 (by simpa using g2) hb).1
              | false =>
                cases q7 : isWb B τ 7 with
                | true =>
                  rw [lnF_7 q7] at hb ⊢
                  obtain ⟨g1, g2, g3⟩ := gte_none hb
                  rw [g3] at hb ⊢
                  exact (rv_sw (G := fun _ => 0) hV g1 (by simpa using g2) hb).1
                | false =>
                  rw [lnF_no q0 q1 q2 q3 q4 q5 q6 q7] at hb; cases hb
end LineCases
