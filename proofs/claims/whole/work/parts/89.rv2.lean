/-! ===== what each line keeps ===== -/
section RvLines
variable {B : Nat → Nat} {n b h l c : Nat} {τ t : Tk3} {s : Cs} {N : Nat → Nm4} {T : Tv} {D F : Nat → Nat} {S : St5} {G : Nat → Int32}
theorem rv_rg (hV : RDV B n T D F N c) (h7 : D 7 = 0) (hb : (rg10 B n t).2 = none) : RDV B n (rgT B n t T) (updD D 7 (valT B (rg1 B n t).1)) F N c ∧ (GRl T D F G → GRl (rgT B n t T) (updD D 7 (valT B (rg1 B n t).1)) F (updG (updG (updG (updG (updG G 1 (nI (valT B (rg3 B n t).1))) 2 (nI (valT B (rg5 B n t).1))) 3 (nI (valT B (rg7 B n t).1))) 4 (nI (valT B (rg9 B n t).1))) 0 (nI (valT B (rg1 B n t).1)))) := by
  obtain ⟨hZ, hW, hK, hD, hP, hF⟩ := id hV
  have n9 := (cst_none (f := eWhole B n 0 9) (s := rg9 B n t) hb).1
  have n8 := (cst_none (f := eWord B n 12) (s := rg8 B n t) n9).1
  have n7 := (cst_none (f := eWhole B n 0 100) (s := rg7 B n t) n8).1
  have n6 := (cst_none (f := eWord B n 11) (s := rg6 B n t) n7).1
  have n5 := (cst_none (f := eWhole B n 0 30) (s := rg5 B n t) n6).1
  have n4 := (cst_none (f := eWord B n 10) (s := rg4 B n t) n5).1
  have n3 := (cst_none (f := eWhole B n 1 6) (s := rg3 B n t) n4).1
  have n2 := (cst_none (f := eWord B n 9) (s := rg2 B n t) n3).1
  have v0 := whole_in (s := rg1 B n t) n2
  have v1 := whole_in (s := rg3 B n t) n4
  have v2 := whole_in (s := rg5 B n t) n6
  have v3 := whole_in (s := rg7 B n t) n8
  have v4 := whole_in (s := rg9 B n t) hb
  have d7 : updD D 7 (valT B (rg1 B n t).1) 7 = valT B (rg1 B n t).1 := if_pos rfl
  have dn : ∀ i, i ≠ 7 → updD D 7 (valT B (rg1 B n t).1) i = D i := fun i hi => if_neg hi
  have r0 : rgT B n t T 0 0 = nI (valT B (rg1 B n t).1) := by unfold rgT; rw [updT_ne (by decide), updT_ne (by decide), updT_ne (by decide), updT_ne (by decide), updT_eq]
  have r1 : rgT B n t T 0 1 = nI (valT B (rg3 B n t).1) := by unfold rgT; rw [updT_ne (by decide), updT_ne (by decide), updT_ne (by decide), updT_eq]
  have r2 : rgT B n t T 0 2 = nI (valT B (rg5 B n t).1) := by unfold rgT; rw [updT_ne (by decide), updT_ne (by decide), updT_eq]
  have r3 : rgT B n t T 0 3 = nI (valT B (rg7 B n t).1) := by unfold rgT; rw [updT_ne (by decide), updT_eq]
  have r4 : rgT B n t T 0 4 = nI (valT B (rg9 B n t).1) := by unfold rgT; rw [updT_eq]
  refine ⟨⟨hZ, ⟨by rw [d7]; exact r0, fun z => by rw [d7] at z; omega, fun _ => ⟨⟨_, r1, v1.1, v1.2⟩, ⟨_, r2, v2.1, v2.2⟩, ⟨_, r3, v3.1, v3.2⟩, ⟨_, r4, v4.1, v4.2⟩⟩⟩, hK, ⟨wat_ok hD.1 v0.2, fun i hi => by rw [dn i (by omega)]; exact hD.2.1 i hi, fun i h1 h2 => by rw [dn i (by omega)]; exact hD.2.2.1 i h1 h2, by rw [dn 6 (by decide)]; exact hD.2.2.2.1, by rw [dn 5 (by decide)]; exact hD.2.2.2.2⟩, hP, hF⟩, fun hG => ?_⟩
  obtain ⟨g1, g2, g3, g4, g5, g6, g7⟩ := hG
  have gG : ∀ a, 5 ≤ a → (updG (updG (updG (updG (updG G 1 (nI (valT B (rg3 B n t).1))) 2 (nI (valT B (rg5 B n t).1))) 3 (nI (valT B (rg7 B n t).1))) 4 (nI (valT B (rg9 B n t).1))) 0 (nI (valT B (rg1 B n t).1))) a = G a := fun a ha => by
    rw [updG_ne (by omega), updG_ne (by omega), updG_ne (by omega), updG_ne (by omega), updG_ne (by omega)]
  refine ⟨fun i hi => ?_, fun k hk => ?_, fun h hh => ?_, fun l hl => ?_, fun l hl => ?_, fun i hi => ?_, fun i hi => ?_⟩
  · rcases (by omega : i = 0 ∨ i = 1 ∨ i = 2 ∨ i = 3 ∨ i = 4 ∨ 5 ≤ i) with rfl | rfl | rfl | rfl | rfl | q
    · rw [updG_eq, r0]
    · rw [updG_ne (by decide), updG_ne (by decide), updG_ne (by decide), updG_ne (by decide), updG_eq, r1]
    · rw [updG_ne (by decide), updG_ne (by decide), updG_ne (by decide), updG_eq, r2]
    · rw [updG_ne (by decide), updG_ne (by decide), updG_eq, r3]
    · rw [updG_ne (by decide), updG_eq, r4]
    · rw [gG i q, g1 i hi]
      unfold rgT
      rw [updT_ne (by omega), updT_ne (by omega), updT_ne (by omega), updT_ne (by omega), updT_ne (by omega)]
  · rw [gG _ (by omega), gG _ (by omega)]; exact g2 k hk
  · rw [gG _ (by omega), gG _ (by omega), gG _ (by omega), gG _ (by omega), dn 5 (by decide)]; exact g3 h hh
  · rw [gG _ (by omega), gG _ (by omega)]; exact g4 l hl
  · rw [gG _ (by omega), gG _ (by omega), dn l (by omega)]; exact g5 l hl
  · rw [gG _ (by omega)]; exact g6 i hi
  · rw [gG _ (by omega), gG _ (by omega), gG _ (by omega)]; exact g7 i hi
theorem rv_ab {v g : Nat} (hV : RDV B n T D F N c) (hv : v < nL T) (hg : g < nH T) : RDV B n T (updD D v (g + 1)) F N c ∧ (GRl T D F G → GRl T (updD D v (g + 1)) F (updG G (35 + 4 * v + 2) (nI (g + 1)))) := by
  obtain ⟨hZ, hW, hK, hD, hP, hF⟩ := id hV
  have hz := hZ.2
  have dv : updD D v (g + 1) v = g + 1 := if_pos rfl
  have dn : ∀ i, i ≠ v → updD D v (g + 1) i = D i := fun i hi => if_neg hi
  refine ⟨⟨hZ, ⟨by rw [dn 7 (by omega)]; exact hW.1, by rw [dn 7 (by omega)]; exact hW.2.1, by rw [dn 7 (by omega)]; exact hW.2.2⟩, hK, ⟨⟨fun i hi => ?_, by rw [dn 5 (by omega)]; exact hD.1.2.1, by rw [dn 6 (by omega)]; exact hD.1.2.2.1, by rw [dn 7 (by omega)]; exact hD.1.2.2.2⟩, fun i hi => ?_, fun i h1 h2 => by rw [dn i (by omega)]; exact hD.2.2.1 i h1 h2, by rw [dn 6 (by omega)]; exact hD.2.2.2.1, by rw [dn 5 (by omega)]; exact hD.2.2.2.2⟩, hP, hF⟩, fun hG => ?_⟩
  · by_cases q : i = v
    · rw [q, dv]; omega
    · rw [dn i q]; exact hD.1.1 i hi
  · by_cases q : i = v
    · rw [q, dv]; exact hg
    · rw [dn i q]; exact hD.2.1 i hi
  obtain ⟨g1, g2, g3, g4, g5, g6, g7⟩ := hG
  have gG : ∀ a, a ≠ 35 + 4 * v + 2 → updG G (35 + 4 * v + 2) (nI (g + 1)) a = G a := fun a ha => updG_ne ha
  refine ⟨fun i hi => ?_, fun k hk => ?_, fun h hh => ?_, fun l hl => ?_, fun l hl => ?_, fun i hi => ?_, fun i hi => ?_⟩
  · rw [gG i (by omega)]; exact g1 i hi
  · rw [gG _ (by omega), gG _ (by omega)]; exact g2 k hk
  · rw [gG _ (by omega), gG _ (by omega), gG _ (by omega), gG _ (by omega), dn 5 (by omega)]; exact g3 h hh
  · rw [gG _ (by omega), gG _ (by omega)]; exact g4 l hl
  · rw [gG (35 + 4 * l + 3) (by omega)]
    by_cases q : l = v
    · rw [q, dv, updG_eq]; exact ⟨rfl, (g5 v (by omega)).2⟩
    · rw [gG _ (by omega), dn l q]; exact g5 l hl
  · rw [gG _ (by omega)]; exact g6 i hi
  · rw [gG _ (by omega), gG _ (by omega), gG _ (by omega)]; exact g7 i hi
theorem rv_bd (hV : RDV B n T D F N c) (hT : TKp B n t) (h7 : D 7 ≠ 0) (hr : nB T < 4) (hb : (bd4 B n N c t).2 = none) : RDV B n (tBd B n T N c t) D F (adN N c (t.1, t.2.1, 5, nB T)) (c + 1) ∧ (GRl T D F G → GRl (tBd B n T N c t) D F (updG (updG (updG G (11 + 2 * nB T) (nI (valT B (bd2 B n N c t).1))) (11 + 2 * nB T + 1) (nI (sdV B (bd3 B n N c t).1))) 5 (nI (nB T + 1)))) := by
  obtain ⟨hZ, hW, hK, hD, hP, hF⟩ := id hV
  obtain ⟨⟨z5, z6, z7, z8, z9, z10⟩, b1, b2, b3, b4, b5, b6⟩ := id hZ
  have n3 := (cst_none (f := eSide B n) (s := bd3 B n N c t) hb).1
  have n2 := (cst_none (f := eWhole B n 1 30) (s := bd2 B n N c t) n3).1
  have n1 := (cst_none (f := eWord B n 13) (s := bd1 B n N c t) n2).1
  have v1 := whole_in (s := bd2 B n N c t) n3
  have e5 : nB (tBd B n T N c t) = nB T + 1 := tn (by omega)
  have o1 : ∀ i, i < nB T → tBd B n T N c t 1 i = T 1 i := fun i hi => by unfold tBd; rw [updT_ne (by omega), updT_ne (by omega), updT_ne (by omega)]
  have o2 : ∀ i, i < nB T → tBd B n T N c t 2 i = T 2 i := fun i hi => by unfold tBd; rw [updT_ne (by omega), updT_ne (by omega), updT_ne (by omega)]
  have w1 : tBd B n T N c t 1 (nB T) = nI (valT B (bd2 B n N c t).1) := by unfold tBd; rw [updT_ne (by omega), updT_ne (by omega), updT_eq]
  have w2 : tBd B n T N c t 2 (nB T) = nI (sdV B (bd3 B n N c t).1) := by unfold tBd; rw [updT_ne (by omega), updT_eq]
  refine ⟨⟨⟨⟨by rw [e5]; rfl, z6, z7, z8, z9, z10⟩, by rw [e5]; omega, b2, b3, b4, b5, b6⟩, ⟨hW.1, fun z => absurd z h7, hW.2.2⟩, ⟨fun k hk => ?_, hK.2.1, hK.2.2.1, hK.2.2.2.1, fun i hi => ?_⟩, hD, ?_, hF⟩, fun hG => ?_⟩
  · rw [e5] at hk
    by_cases q : k = nB T
    · rw [q, w1, w2]; exact ⟨⟨_, rfl, v1.1, v1.2⟩, ⟨_, rfl, Nat.zero_le _, sdV_le⟩⟩
    · rw [o1 k (by omega), o2 k (by omega)]; exact hK.1 k (by omega)
  · obtain ⟨a, b', k, q1, q2, q3, q4, q5, q6⟩ := hK.2.2.2.2 i hi
    exact ⟨a, b', k, q1, q2, q3, q4, q5, by rw [e5]; omega⟩
  · rw [e5]
    show NMP B n (nB T + 1) (nH T) (nL T) (c + 1) (adN N c (t.1, t.2.1, 5, nB T))
    exact NMP.add hP hT n1 b1 b2 (by omega) (by omega) (by omega)
  obtain ⟨g1, g2, g3, g4, g5, g6, g7⟩ := hG
  have gG : ∀ a, a ≠ 11 + 2 * nB T → a ≠ 11 + 2 * nB T + 1 → a ≠ 5 → (updG (updG (updG G (11 + 2 * nB T) (nI (valT B (bd2 B n N c t).1))) (11 + 2 * nB T + 1) (nI (sdV B (bd3 B n N c t).1))) 5 (nI (nB T + 1))) a = G a := fun a h1 h2 h3 => by
    rw [updG_ne h3, updG_ne h2, updG_ne h1]
  refine ⟨fun i hi => ?_, fun k hk => ?_, fun h hh => ?_, fun l hl => ?_, fun l hl => ?_, fun i hi => ?_, fun i hi => ?_⟩
  · by_cases q : i = 5
    · subst q; rfl
    · rw [gG i (by omega) (by omega) q, g1 i hi]
      unfold tBd
      rw [updT_ne (by omega), updT_ne (by omega), updT_ne (by omega)]
  · rw [e5] at hk
    by_cases q : k = nB T
    · rw [q, w1, w2]
      exact ⟨by rw [updG_ne (by omega), updG_ne (by omega), updG_eq], by rw [updG_ne (by omega), updG_eq]⟩
    · rw [o1 k (by omega), o2 k (by omega), gG _ (by omega) (by omega) (by omega), gG _ (by omega) (by omega) (by omega)]
      exact g2 k (by omega)
  · rw [gG _ (by omega) (by omega) (by omega), gG _ (by omega) (by omega) (by omega), gG _ (by omega) (by omega) (by omega), gG _ (by omega) (by omega) (by omega)]; exact g3 h hh
  · rw [gG _ (by omega) (by omega) (by omega), gG _ (by omega) (by omega) (by omega)]; exact g4 l hl
  · rw [gG _ (by omega) (by omega) (by omega), gG _ (by omega) (by omega) (by omega)]; exact g5 l hl
  · rw [gG _ (by omega) (by omega) (by omega)]; exact g6 i hi
  · rw [gG _ (by omega) (by omega) (by omega), gG _ (by omega) (by omega) (by omega), gG _ (by omega) (by omega) (by omega)]; exact g7 i hi
theorem lan16 : ∀ x : Fin 16, ∀ k : Fin 4, x.val < 2 ^ k.val → stb x.val k.val < 2 ^ (k.val + 1) ∧ clb x.val k.val < 2 ^ (k.val + 1) ∧ stb x.val k.val / 2 ^ k.val % 2 = 1 ∧ clb x.val k.val / 2 ^ k.val % 2 = 0 ∧ ∀ h : Fin 4, h.val < k.val → stb x.val k.val / 2 ^ h.val % 2 = x.val / 2 ^ h.val % 2 ∧ clb x.val k.val / 2 ^ h.val % 2 = x.val / 2 ^ h.val % 2 := by decide +kernel
theorem rv_hs (hV : RDV B n T D F N c) (hT : TKp B n t) (h7 : D 7 ≠ 0) (hr : nH T < 4) (hb : (hs7 B n N c t).2 = none) : RDV B n (tHs B n T N c t) (lanD D (nH T) (sdV B (hs2 B n N c t).1)) F (adN N c (t.1, t.2.1, 6, nH T)) (c + 1) ∧ (GRl T D F G → GRl (tHs B n T N c t) (lanD D (nH T) (sdV B (hs2 B n N c t).1)) F (updG (updG (updG (updG (updG G (19 + 4 * nH T) (nI (kiV B (bd1 B n N c t).1))) (19 + 4 * nH T + 1) (nI (sdV B (hs2 B n N c t).1))) (19 + 4 * nH T + 2) (nI (valT B (hs4 B n N c t).1))) (19 + 4 * nH T + 3) (nI (valT B (hs6 B n N c t).1))) 6 (nI (nH T + 1)))) := by
  obtain ⟨hZ, hW, hK, hD, hP, hF⟩ := id hV
  obtain ⟨⟨z5, z6, z7, z8, z9, z10⟩, b1, b2, b3, b4, b5, b6⟩ := id hZ
  have n6 := (cst_none (f := eWhole B n 1 6) (s := hs6 B n N c t) hb).1
  have n5 := (cst_none (f := eWord B n 21) (s := hs5 B n N c t) n6).1
  have n4 := (cst_none (f := eWhole B n 0 50) (s := hs4 B n N c t) n5).1
  have n3 := (cst_none (f := eWord B n 20) (s := hs3 B n N c t) n4).1
  have n2 := (cst_none (f := eSide B n) (s := hs2 B n N c t) n3).1
  have n1 := (cst_none (f := eKind B n) (s := bd1 B n N c t) n2).1
  have v4 := whole_in (s := hs4 B n N c t) n5
  have v6 := whole_in (s := hs6 B n N c t) hb
  have hki : kiV B (bd1 B n N c t).1 ≤ 3 := kiV_le
  have hsd : sdV B (hs2 B n N c t).1 ≤ 1 := sdV_le
  have e6 : nH (tHs B n T N c t) = nH T + 1 := tn (by omega)
  have o3 : ∀ j i, j ≠ 0 → i < nH T → tHs B n T N c t j i = T j i := fun j i hj hi => by unfold tHs; rw [updT_ne (by omega), updT_ne (by omega), updT_ne (by omega), updT_ne (by omega)]
  have w3 : tHs B n T N c t 3 (nH T) = nI (kiV B (bd1 B n N c t).1) := by unfold tHs; rw [updT_ne (by omega), updT_ne (by omega), updT_ne (by omega), updT_eq]
  have w4 : tHs B n T N c t 4 (nH T) = nI (valT B (hs4 B n N c t).1) := by unfold tHs; rw [updT_ne (by omega), updT_ne (by omega), updT_eq]
  have w5 : tHs B n T N c t 5 (nH T) = nI (valT B (hs6 B n N c t).1) := by unfold tHs; rw [updT_ne (by omega), updT_eq]
  have dn : ∀ i, i ≠ 5 → lanD D (nH T) (sdV B (hs2 B n N c t).1) i = D i := fun i hi => by unfold lanD updD; rw [if_neg hi]
  have L := lan16 ⟨D 5, hD.1.2.1⟩ ⟨nH T, hr⟩ hD.2.2.2.2
  dsimp only at L
  have hpow : 2 ^ (nH T + 1) ≤ 2 ^ 4 := Nat.pow_le_pow_right (by decide) (by omega)
  have d5 : lanD D (nH T) (sdV B (hs2 B n N c t).1) 5 < 2 ^ (nH T + 1) ∧ lanD D (nH T) (sdV B (hs2 B n N c t).1) 5 / 2 ^ nH T % 2 = sdV B (hs2 B n N c t).1 ∧ ∀ h, h < nH T → lanD D (nH T) (sdV B (hs2 B n N c t).1) 5 / 2 ^ h % 2 = D 5 / 2 ^ h % 2 := by
    unfold lanD updD
    rw [if_pos rfl]
    rcases (by omega : sdV B (hs2 B n N c t).1 = 0 ∨ sdV B (hs2 B n N c t).1 = 1) with q | q
    · rw [q, if_neg (by decide)]
      exact ⟨L.2.1, L.2.2.2.1, fun h hh => (L.2.2.2.2 ⟨h, by omega⟩ hh).2⟩
    · rw [q, if_pos rfl]
      exact ⟨L.1, L.2.2.1, fun h hh => (L.2.2.2.2 ⟨h, by omega⟩ hh).1⟩
  refine ⟨⟨⟨⟨z5, by rw [e6]; rfl, z7, z8, z9, z10⟩, b1, by rw [e6]; omega, b3, b4, b5, b6⟩, ⟨by rw [dn 7 (by decide)]; exact hW.1, fun z => by rw [dn 7 (by decide)] at z; exact absurd z h7, fun z => by rw [dn 7 (by decide)] at z; exact hW.2.2 z⟩, ⟨hK.1, fun k hk => ?_, hK.2.2.1, hK.2.2.2.1, fun i hi => ?_⟩, ⟨⟨fun i hi => by rw [dn i (by omega)]; exact hD.1.1 i hi, by have := d5.1; omega, by rw [dn 6 (by decide)]; exact hD.1.2.2.1, by rw [dn 7 (by decide)]; exact hD.1.2.2.2⟩, fun i hi => by rw [dn i (by omega), e6]; have := hD.2.1 i hi; omega, fun i h1 h2 => by rw [dn i (by omega)]; exact hD.2.2.1 i h1 h2, by rw [dn 6 (by decide)]; exact hD.2.2.2.1, by rw [e6]; exact d5.1⟩, ?_, hF⟩, fun hG => ?_⟩
  · rw [e6] at hk
    by_cases q : k = nH T
    · rw [q, w3, w4, w5]; exact ⟨⟨_, rfl, Nat.zero_le _, hki⟩, ⟨_, rfl, v4.1, v4.2⟩, ⟨_, rfl, v6.1, v6.2⟩⟩
    · rw [o3 3 k (by decide) (by omega), o3 4 k (by decide) (by omega), o3 5 k (by decide) (by omega)]; exact hK.2.1 k (by omega)
  · obtain ⟨a, b', k, q1, q2, q3, q4, q5, q6⟩ := hK.2.2.2.2 i hi
    exact ⟨a, b', k, q1, q2, q3, by rw [e6]; omega, by rw [e6]; omega, q6⟩
  · rw [e6]
    show NMP B n (nB T) (nH T + 1) (nL T) (c + 1) (adN N c (t.1, t.2.1, 6, nH T))
    exact NMP.add hP hT n1 b1 b2 (by omega) (by omega) (by omega)
  obtain ⟨g1, g2, g3, g4, g5, g6, g7⟩ := hG
  have gG : ∀ a, (a < 19 + 4 * nH T ∨ 19 + 4 * nH T + 3 < a) → a ≠ 6 → (updG (updG (updG (updG (updG G (19 + 4 * nH T) (nI (kiV B (bd1 B n N c t).1))) (19 + 4 * nH T + 1) (nI (sdV B (hs2 B n N c t).1))) (19 + 4 * nH T + 2) (nI (valT B (hs4 B n N c t).1))) (19 + 4 * nH T + 3) (nI (valT B (hs6 B n N c t).1))) 6 (nI (nH T + 1))) a = G a := fun a h1 h2 => by
    rw [updG_ne h2, updG_ne (by omega), updG_ne (by omega), updG_ne (by omega), updG_ne (by omega)]
  refine ⟨fun i hi => ?_, fun k hk => ?_, fun h hh => ?_, fun l hl => ?_, fun l hl => ?_, fun i hi => ?_, fun i hi => ?_⟩
  · by_cases q : i = 6
    · subst q; rfl
    · rw [gG i (by omega) q, g1 i hi]
      unfold tHs
      rw [updT_ne (by omega), updT_ne (by omega), updT_ne (by omega), updT_ne (by omega)]
  · have h4 : k < 4 := by have hk' : k < nB T := hk; omega
    rw [gG _ (by omega) (by omega), gG _ (by omega) (by omega)]; exact g2 k hk
  · rw [e6] at hh
    by_cases q : h = nH T
    · rw [q, w3, w4, w5, d5.2.1]
      exact ⟨by rw [updG_ne (by omega), updG_ne (by omega), updG_ne (by omega), updG_ne (by omega), updG_eq], by rw [updG_ne (by omega), updG_ne (by omega), updG_ne (by omega), updG_eq], by rw [updG_ne (by omega), updG_ne (by omega), updG_eq], by rw [updG_ne (by omega), updG_eq]⟩
    · rw [o3 3 h (by decide) (by omega), o3 4 h (by decide) (by omega), o3 5 h (by decide) (by omega), d5.2.2 h (by omega), gG _ (by omega) (by omega), gG _ (by omega) (by omega), gG _ (by omega) (by omega), gG _ (by omega) (by omega)]
      exact g3 h (by omega)
  · rw [gG _ (by omega) (by omega), gG _ (by omega) (by omega)]; exact g4 l hl
  · rw [gG _ (by omega) (by omega), gG _ (by omega) (by omega), dn l (by omega)]; exact g5 l hl
  · rw [gG _ (by omega) (by omega)]; exact g6 i hi
  · rw [gG _ (by omega) (by omega), gG _ (by omega) (by omega), gG _ (by omega) (by omega)]; exact g7 i hi
theorem rv_ld (hV : RDV B n T D F N c) (hT : TKp B n t) (h7 : D 7 ≠ 0) (hr : nL T < 5) (hb : (ld5 B n N c t).2 = none) : RDV B n (tLd B n T N c t) D F (adN N c (t.1, t.2.1, 7, nL T)) (c + 1) ∧ (GRl T D F G → GRl (tLd B n T N c t) D F (updG (updG (updG G (35 + 4 * nL T) (nI (valT B (ld2 B n N c t).1))) (35 + 4 * nL T + 1) (nI (valT B (ld4 B n N c t).1))) 7 (nI (nL T + 1)))) := by
  obtain ⟨hZ, hW, hK, hD, hP, hF⟩ := id hV
  obtain ⟨⟨z5, z6, z7, z8, z9, z10⟩, b1, b2, b3, b4, b5, b6⟩ := id hZ
  have n4 := (cst_none (f := eWhole B n 0 9) (s := ld4 B n N c t) hb).1
  have n3 := (cst_none (f := eWord B n 23) (s := ld3 B n N c t) n4).1
  have n2 := (cst_none (f := eWhole B n 0 30) (s := ld2 B n N c t) n3).1
  have n1 := (cst_none (f := eWord B n 22) (s := bd1 B n N c t) n2).1
  have v2 := whole_in (s := ld2 B n N c t) n3
  have v4 := whole_in (s := ld4 B n N c t) hb
  have e7 : nL (tLd B n T N c t) = nL T + 1 := tn (by omega)
  have o6 : ∀ j i, j ≠ 0 → i < nL T → tLd B n T N c t j i = T j i := fun j i hj hi => by unfold tLd; rw [updT_ne (by omega), updT_ne (by omega), updT_ne (by omega)]
  have w6 : tLd B n T N c t 6 (nL T) = nI (valT B (ld2 B n N c t).1) := by unfold tLd; rw [updT_ne (by omega), updT_ne (by omega), updT_eq]
  have w7 : tLd B n T N c t 7 (nL T) = nI (valT B (ld4 B n N c t).1) := by unfold tLd; rw [updT_ne (by omega), updT_eq]
  obtain ⟨⟨A, C, f1, f2⟩, f3, f4, f5⟩ := hF
  refine ⟨⟨⟨⟨z5, z6, by rw [e7]; rfl, z8, z9, z10⟩, b1, b2, by rw [e7]; omega, b4, b5, b6⟩, ⟨hW.1, fun z => absurd z h7, hW.2.2⟩, ⟨hK.1, hK.2.1, fun k hk => ?_, hK.2.2.2.1, hK.2.2.2.2⟩, ⟨hD.1, hD.2.1, fun i h1 h2 => hD.2.2.1 i (by rw [e7] at h1; omega) h2, hD.2.2.2.1, hD.2.2.2.2⟩, ?_, ⟨⟨A, C, fun i hi => ?_, fun P => ?_⟩, f3, f4, fun i h1 h2 => f5 i (by rw [e7] at h1; omega) h2⟩⟩, fun hG => ?_⟩
  · rw [e7] at hk
    by_cases q : k = nL T
    · rw [q, w6, w7]; exact ⟨⟨_, rfl, v2.1, v2.2⟩, ⟨_, rfl, v4.1, v4.2⟩⟩
    · rw [o6 6 k (by decide) (by omega), o6 7 k (by decide) (by omega)]; exact hK.2.2.1 k (by omega)
  · rw [e7]
    show NMP B n (nB T) (nH T) (nL T + 1) (c + 1) (adN N c (t.1, t.2.1, 7, nL T))
    exact NMP.add hP hT n1 b1 b2 (by omega) (by omega) (by omega)
  · have := f1 i hi
    rw [e7]
    exact ⟨this.1, by omega, this.2.2⟩
  · rw [e7, usN_s]
    show usN (fun i => if P (A i) (C i) then 1 else 0) (nF T) = _
    rw [f2 P, cnt_false (p := fun m => (F (nL T)).testBit m && P (nL T) m) (fun j hj => by rw [f5 (nL T) (Nat.le_refl _) hr, Nat.zero_testBit]; rfl)]
    rfl
  obtain ⟨g1, g2, g3, g4, g5, g6, g7⟩ := hG
  have gG : ∀ a, a ≠ 35 + 4 * nL T → a ≠ 35 + 4 * nL T + 1 → a ≠ 7 → (updG (updG (updG G (35 + 4 * nL T) (nI (valT B (ld2 B n N c t).1))) (35 + 4 * nL T + 1) (nI (valT B (ld4 B n N c t).1))) 7 (nI (nL T + 1))) a = G a := fun a h1 h2 h3 => by
    rw [updG_ne h3, updG_ne h2, updG_ne h1]
  refine ⟨fun i hi => ?_, fun k hk => ?_, fun h hh => ?_, fun l hl => ?_, fun l hl => ?_, fun i hi => ?_, fun i hi => ?_⟩
  · by_cases q : i = 7
    · subst q; rfl
    · rw [gG i (by omega) (by omega) q, g1 i hi]
      unfold tLd
      rw [updT_ne (by omega), updT_ne (by omega), updT_ne (by omega)]
  · have h4 : k < 4 := by have hk' : k < nB T := hk; omega
    rw [gG _ (by omega) (by omega) (by omega), gG _ (by omega) (by omega) (by omega)]; exact g2 k hk
  · have h4 : h < 4 := by have hh' : h < nH T := hh; omega
    rw [gG _ (by omega) (by omega) (by omega), gG _ (by omega) (by omega) (by omega), gG _ (by omega) (by omega) (by omega), gG _ (by omega) (by omega) (by omega)]; exact g3 h hh
  · rw [e7] at hl
    by_cases q : l = nL T
    · rw [q, w6, w7]
      exact ⟨by rw [updG_ne (by omega), updG_ne (by omega), updG_eq], by rw [updG_ne (by omega), updG_eq]⟩
    · rw [o6 6 l (by decide) (by omega), o6 7 l (by decide) (by omega), gG _ (by omega) (by omega) (by omega), gG _ (by omega) (by omega) (by omega)]
      exact g4 l (by omega)
  · rw [gG _ (by omega) (by omega) (by omega), gG _ (by omega) (by omega) (by omega)]; exact g5 l hl
  · rw [gG _ (by omega) (by omega) (by omega)]; exact g6 i hi
  · rw [gG _ (by omega) (by omega) (by omega), gG _ (by omega) (by omega) (by omega), gG _ (by omega) (by omega) (by omega)]; exact g7 i hi
theorem rv_fd {x y : Nat} (hV : RDV B n T D F N c) (h7 : D 7 ≠ 0) (hr : nF T < 6) (hx : x < nL T) (hy : y < nL T) (hne : x ≠ y) (hno : bb (FO T x) (nI y) = false) : RDV B n (tFd T x y) D (fFd F x y) N c ∧ (GRl T D F G → GRl (tFd T x y) D (fFd F x y) (updG (updG (updG G (35 + 4 * x + 3) (G (35 + 4 * x + 3) ||| (1 <<< (nI y &&& 31)))) (35 + 4 * y + 3) (G (35 + 4 * y + 3) ||| (1 <<< (nI x &&& 31)))) 8 (nI (nF T + 1)))) := by
  obtain ⟨hZ, hW, hK, hD, hP, hF⟩ := id hV
  obtain ⟨⟨z5, z6, z7, z8, z9, z10⟩, b1, b2, b3, b4, b5, b6⟩ := id hZ
  have e8 : nF (tFd T x y) = nF T + 1 := tn (by omega)
  refine ⟨⟨⟨⟨z5, z6, z7, by rw [e8]; rfl, z9, z10⟩, b1, b2, b3, by rw [e8]; omega, b5, b6⟩, ⟨hW.1, fun z => absurd z h7, hW.2.2⟩, hK, hD, hP, FRV.add hZ hF hx hy hne hr hno⟩, fun hG => ?_⟩
  obtain ⟨g1, g2, g3, g4, g5, g6, g7⟩ := hG
  rw [(g5 x (by omega)).2, (g5 y (by omega)).2, (or_n ⟨F x, (hF.2.1 x (by omega)).1⟩ ⟨y, by omega⟩).1, (or_n ⟨F y, (hF.2.1 y (by omega)).1⟩ ⟨x, by omega⟩).1]
  dsimp only
  have gG : ∀ a, a ≠ 35 + 4 * x + 3 → a ≠ 35 + 4 * y + 3 → a ≠ 8 → (updG (updG (updG G (35 + 4 * x + 3) (nI (F x ||| 2 ^ y))) (35 + 4 * y + 3) (nI (F y ||| 2 ^ x))) 8 (nI (nF T + 1))) a = G a := fun a h1 h2 h3 => by
    rw [updG_ne h3, updG_ne h2, updG_ne h1]
  refine ⟨fun i hi => ?_, fun k hk => ?_, fun h hh => ?_, fun l hl => ?_, fun l hl => ?_, fun i hi => ?_, fun i hi => ?_⟩
  · by_cases q : i = 8
    · subst q; rfl
    · rw [gG i (by omega) (by omega) q, g1 i hi]
      unfold tFd
      rw [updT_ne (by omega), updT_ne (by omega)]
  · have h4 : k < 4 := by have hk' : k < nB T := hk; omega
    rw [gG _ (by omega) (by omega) (by omega), gG _ (by omega) (by omega) (by omega)]; exact g2 k hk
  · have h4 : h < 4 := by have hh' : h < nH T := hh; omega
    rw [gG _ (by omega) (by omega) (by omega), gG _ (by omega) (by omega) (by omega), gG _ (by omega) (by omega) (by omega), gG _ (by omega) (by omega) (by omega)]; exact g3 h hh
  · rw [gG _ (by omega) (by omega) (by omega), gG _ (by omega) (by omega) (by omega)]; exact g4 l hl
  · rw [gG (35 + 4 * l + 2) (by omega) (by omega) (by omega)]
    refine ⟨(g5 l hl).1, ?_⟩
    unfold fFd
    by_cases q : l = y
    · rw [q, updG_ne (by omega), updG_eq]
      unfold updD
      rw [if_pos rfl]
    · by_cases q2 : l = x
      · rw [q2, updG_ne (by omega), updG_ne (by omega), updG_eq]
        unfold updD
        rw [if_neg (by omega), if_pos rfl]
      · rw [gG _ (by omega) (by omega) (by omega)]
        unfold updD
        rw [if_neg q, if_neg q2]
        exact (g5 l hl).2
  · have h4 : i < 4 := by have hi' : i < nP T := hi; omega
    rw [gG _ (by omega) (by omega) (by omega)]; exact g6 i hi
  · rw [gG _ (by omega) (by omega) (by omega), gG _ (by omega) (by omega) (by omega), gG _ (by omega) (by omega) (by omega)]; exact g7 i hi
theorem rv_pz (hV : RDV B n T D F N c) (h7 : D 7 ≠ 0) (hr : nP T < 4) (hb : (cst (eWhole B n 0 99) (t, none)).2 = none) : RDV B n (tPz B T t) D F N c ∧ (GRl T D F G → GRl (tPz B T t) D F (updG (updG G (55 + nP T) (nI (valT B t))) 9 (nI (nP T + 1)))) := by
  obtain ⟨hZ, hW, hK, hD, hP, hF⟩ := id hV
  obtain ⟨⟨z5, z6, z7, z8, z9, z10⟩, b1, b2, b3, b4, b5, b6⟩ := id hZ
  have v := whole_in (s := (t, none)) hb
  have e9 : nP (tPz B T t) = nP T + 1 := tn (by omega)
  have o9 : ∀ i, i < nP T → tPz B T t 9 i = T 9 i := fun i hi => by unfold tPz; rw [updT_ne (by omega), updT_ne (by omega)]
  have w9 : tPz B T t 9 (nP T) = nI (valT B t) := by unfold tPz; rw [updT_ne (by omega), updT_eq]
  refine ⟨⟨⟨⟨z5, z6, z7, z8, by rw [e9]; rfl, z10⟩, b1, b2, b3, b4, by rw [e9]; omega, b6⟩, ⟨hW.1, fun z => absurd z h7, hW.2.2⟩, ⟨hK.1, hK.2.1, hK.2.2.1, fun k hk => ?_, hK.2.2.2.2⟩, hD, hP, hF⟩, fun hG => ?_⟩
  · rw [e9] at hk
    by_cases q : k = nP T
    · rw [q, w9]; exact ⟨_, rfl, v.1, v.2⟩
    · rw [o9 k (by omega)]; exact hK.2.2.2.1 k (by omega)
  obtain ⟨g1, g2, g3, g4, g5, g6, g7⟩ := hG
  have gG : ∀ a, a ≠ 55 + nP T → a ≠ 9 → (updG (updG G (55 + nP T) (nI (valT B t))) 9 (nI (nP T + 1))) a = G a := fun a h1 h2 => by
    rw [updG_ne h2, updG_ne h1]
  refine ⟨fun i hi => ?_, fun k hk => ?_, fun h hh => ?_, fun l hl => ?_, fun l hl => ?_, fun i hi => ?_, fun i hi => ?_⟩
  · by_cases q : i = 9
    · subst q; rfl
    · rw [gG i (by omega) q, g1 i hi]
      unfold tPz
      rw [updT_ne (by omega), updT_ne (by omega)]
  · have h4 : k < 4 := by have hk' : k < nB T := hk; omega
    rw [gG _ (by omega) (by omega), gG _ (by omega) (by omega)]; exact g2 k hk
  · have h4 : h < 4 := by have hh' : h < nH T := hh; omega
    rw [gG _ (by omega) (by omega), gG _ (by omega) (by omega), gG _ (by omega) (by omega), gG _ (by omega) (by omega)]; exact g3 h hh
  · have h4 : l < 5 := by have hl' : l < nL T := hl; omega
    rw [gG _ (by omega) (by omega), gG _ (by omega) (by omega)]; exact g4 l hl
  · rw [gG _ (by omega) (by omega), gG _ (by omega) (by omega)]; exact g5 l hl
  · rw [e9] at hi
    by_cases q : i = nP T
    · rw [q, w9, updG_ne (by omega), updG_eq]
    · rw [o9 i (by omega), gG _ (by omega) (by omega)]; exact g6 i (by omega)
  · rw [gG _ (by omega) (by omega), gG _ (by omega) (by omega), gG _ (by omega) (by omega)]; exact g7 i hi
theorem rv_sw (hV : RDV B n T D F N c) (h7 : D 7 ≠ 0) (hr : nS T < 5) (hb : (sw7 B n N c t).2 = none) : RDV B n (tSw B n T N c t) D F N c ∧ (GRl T D F G → GRl (tSw B n T N c t) D F (updG (updG (updG (updG G (59 + 3 * nS T) (nI (nuV B N c 6 t))) (59 + 3 * nS T + 1) (nI (nuV B N c 6 (sw2 B n N c t).1))) (59 + 3 * nS T + 2) (nI (nuV B N c 5 (sw5 B n N c t).1))) 10 (nI (nS T + 1)))) := by
  obtain ⟨hZ, hW, hK, hD, hP, hF⟩ := id hV
  obtain ⟨⟨z5, z6, z7, z8, z9, z10⟩, b1, b2, b3, b4, b5, b6⟩ := id hZ
  have n6 : (sw6 B n N c t).2 = none := nx_none hb
  have m6 := num_one (s := sw5 B n N c t) (so := 5) n6
  have n4 : (sw4 B n N c t).2 = none := nx_none m6.1
  have n3 := (neB_none n4).1
  have m3 := num_one (s := sw2 B n N c t) (so := 6) n3
  have n1 : (sw1 B N c t).2 = none := nx_none m3.1
  have m1 := num_one (s := (t, none)) (so := 6) n1
  have l1 : nuV B N c 6 t < nH T := by
    rw [show nuV B N c 6 t = nuV B N c 6 ((t, none) : Cs).1 from rfl, m1.2.2.2.2.2.2]
    exact (nu_lt hP m1.2.2.2.2.1).2.1 m1.2.2.2.2.2.1
  have l3 : nuV B N c 6 (sw2 B n N c t).1 < nH T := by
    rw [m3.2.2.2.2.2.2]
    exact (nu_lt hP m3.2.2.2.2.1).2.1 m3.2.2.2.2.2.1
  have l5 : nuV B N c 5 (sw5 B n N c t).1 < nB T := by
    rw [m6.2.2.2.2.2.2]
    exact (nu_lt hP m6.2.2.2.2.1).2.2 m6.2.2.2.2.2.1
  have e10 : nS (tSw B n T N c t) = nS T + 1 := tn (by omega)
  have o10 : ∀ j i, j ≠ 0 → i < nS T → tSw B n T N c t j i = T j i := fun j i hj hi => by unfold tSw; rw [updT_ne (by omega), updT_ne (by omega), updT_ne (by omega), updT_ne (by omega)]
  have w10 : tSw B n T N c t 10 (nS T) = nI (nuV B N c 6 t) := by unfold tSw; rw [updT_ne (by omega), updT_ne (by omega), updT_ne (by omega), updT_eq]
  have w11 : tSw B n T N c t 11 (nS T) = nI (nuV B N c 6 (sw2 B n N c t).1) := by unfold tSw; rw [updT_ne (by omega), updT_ne (by omega), updT_eq]
  have w12 : tSw B n T N c t 12 (nS T) = nI (nuV B N c 5 (sw5 B n N c t).1) := by unfold tSw; rw [updT_ne (by omega), updT_eq]
  refine ⟨⟨⟨⟨z5, z6, z7, z8, z9, by rw [e10]; rfl⟩, b1, b2, b3, b4, b5, by rw [e10]; omega⟩, ⟨hW.1, fun z => absurd z h7, hW.2.2⟩, ⟨hK.1, hK.2.1, hK.2.2.1, hK.2.2.2.1, fun k hk => ?_⟩, hD, hP, hF⟩, fun hG => ?_⟩
  · rw [e10] at hk
    by_cases q : k = nS T
    · rw [q, w10, w11, w12]; exact ⟨_, _, _, rfl, rfl, rfl, l1, l3, l5⟩
    · rw [o10 10 k (by decide) (by omega), o10 11 k (by decide) (by omega), o10 12 k (by decide) (by omega)]; exact hK.2.2.2.2 k (by omega)
  obtain ⟨g1, g2, g3, g4, g5, g6, g7⟩ := hG
  have gG : ∀ a, (a < 59 + 3 * nS T ∨ 59 + 3 * nS T + 2 < a) → a ≠ 10 → (updG (updG (updG (updG G (59 + 3 * nS T) (nI (nuV B N c 6 t))) (59 + 3 * nS T + 1) (nI (nuV B N c 6 (sw2 B n N c t).1))) (59 + 3 * nS T + 2) (nI (nuV B N c 5 (sw5 B n N c t).1))) 10 (nI (nS T + 1))) a = G a := fun a h1 h2 => by
    rw [updG_ne h2, updG_ne (by omega), updG_ne (by omega), updG_ne (by omega)]
  refine ⟨fun i hi => ?_, fun k hk => ?_, fun h hh => ?_, fun l hl => ?_, fun l hl => ?_, fun i hi => ?_, fun i hi => ?_⟩
  · by_cases q : i = 10
    · subst q; rfl
    · rw [gG i (by omega) q, g1 i hi]
      unfold tSw
      rw [updT_ne (by omega), updT_ne (by omega), updT_ne (by omega), updT_ne (by omega)]
  · have h4 : k < 4 := by have hk' : k < nB T := hk; omega
    rw [gG _ (by omega) (by omega), gG _ (by omega) (by omega)]; exact g2 k hk
  · have h4 : h < 4 := by have hh' : h < nH T := hh; omega
    rw [gG _ (by omega) (by omega), gG _ (by omega) (by omega), gG _ (by omega) (by omega), gG _ (by omega) (by omega)]; exact g3 h hh
  · have h4 : l < 5 := by have hl' : l < nL T := hl; omega
    rw [gG _ (by omega) (by omega), gG _ (by omega) (by omega)]; exact g4 l hl
  · rw [gG _ (by omega) (by omega), gG _ (by omega) (by omega)]; exact g5 l hl
  · have h4 : i < 4 := by have hi' : i < nP T := hi; omega
    rw [gG _ (by omega) (by omega)]; exact g6 i hi
  · rw [e10] at hi
    by_cases q : i = nS T
    · rw [q, w10, w11, w12]
      exact ⟨by rw [updG_ne (by omega), updG_ne (by omega), updG_ne (by omega), updG_eq], by rw [updG_ne (by omega), updG_ne (by omega), updG_eq], by rw [updG_ne (by omega), updG_eq]⟩
    · rw [o10 10 i (by decide) (by omega), o10 11 i (by decide) (by omega), o10 12 i (by decide) (by omega), gG _ (by omega) (by omega), gG _ (by omega) (by omega), gG _ (by omega) (by omega)]
      exact g7 i (by omega)
end RvLines
