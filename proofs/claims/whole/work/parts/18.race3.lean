/-! ===== a race of the class with its numbers: crews, water, rain, lit, lanes ===== -/
abbrev Rc : Type := (Nat → Nat) × Nat × Nat × Nat × Nat
abbrev RC (w : Mem) (k c : Nat) (R : Rc) : Prop := (∀ h, h < 4 → w.1 c h = nI (R.1 h)) ∧ w.1 k 2 = nI R.2.1 ∧ w.1 k 3 = nI R.2.2.1 ∧ w.1 k 4 = nI R.2.2.2.1 ∧ w.1 k 5 = nI R.2.2.2.2
abbrev ROK (R : Rc) : Prop := (∀ h, h < 4 → R.1 h < 32) ∧ R.2.1 ≤ 20 ∧ R.2.2.1 < 16 ∧ R.2.2.2.1 < 16 ∧ R.2.2.2.2 < 16
def VC (R : Rc) : Vw := (fun h l => (R.1 h).testBit l, nI R.2.1, fun h => nI ((R.2.2.2.2 >>> h) % 2), fun h => (R.2.2.2.1).testBit h, fun j => (R.2.2.1).testBit j)
theorem bb32 : ∀ x : Fin 32, ∀ l : Fin 5, bb (nI x.val) (nI l.val) = x.val.testBit l.val := by decide +kernel
theorem bbN {x l : Nat} (hx : x < 32) (hl : l < 5) : bb (nI x) (nI l) = x.testBit l := bb32 ⟨x, hx⟩ ⟨l, hl⟩
theorem ln16 : ∀ x : Fin 16, ∀ h : Fin 4, nI x.val >>> (nI h.val &&& 31) &&& 1 = nI ((x.val >>> h.val) % 2) := by decide +kernel
theorem lnN {x h : Nat} (hx : x < 16) (hh : h < 4) : nI x >>> (nI h &&& 31) &&& 1 = nI ((x >>> h) % 2) := ln16 ⟨x, hx⟩ ⟨h, hh⟩
theorem RC.rv {w : Mem} {k c : Nat} {R : Rc} (h : RC w k c R) (hR : ROK R) : RV w k c (VC R) := by
  obtain ⟨h1, h2, h3, h4, h5⟩ := h
  obtain ⟨r1, r2, r3, r4, r5⟩ := hR
  exact ⟨fun a ha l hl => by rw [h1 a ha]; exact bbN (r1 a ha) hl, h2, fun a ha => by rw [h5]; exact lnN r5 ha, fun a ha => by rw [h4]; exact bbN (by omega) (by omega), fun a ha => by rw [h3]; exact bbN (by omega) (by omega)⟩
theorem RC.ag {P : Nat → Nat → Prop} {w w1 : Mem} {k c : Nat} {R : Rc} (hV : RC w k c R) (h1 : Ag P w w1) (h : ∀ i, ¬ P k i) (h' : ∀ i, ¬ P c i) : RC w1 k c R := by
  have e1 := h1.row h
  have e2 := h1.row h'
  obtain ⟨a0, a1, a2, a3, a4⟩ := hV
  exact ⟨fun x y => by rw [e2]; exact a0 x y, by rw [e1]; exact a1, by rw [e1]; exact a2, by rw [e1]; exact a3, by rw [e1]; exact a4⟩
def ush (x k : Int32) : Int32 := (x.toUInt32 >>> (k.toUInt32 &&& Int32.toUInt32 31)).toInt32
def bc1 (i : Int32) : Int32 := i - (ush i 1 &&& 1431655765)
def bc2 (a : Int32) : Int32 := (a &&& 858993459) + (ush a 2 &&& 858993459)
def bc3 (b : Int32) : Int32 := (b + ush b 4) &&& 252645135
def bc4 (c : Int32) : Int32 := c + ush c 8
def bc5 (c : Int32) : Int32 := (c + ush c 16) &&& 63
def pc5 (x : Nat) : Nat := cnt (fun l => x.testBit l) 5
theorem bc32 : ∀ y : Fin 32, bc5 (bc4 (bc3 (bc2 (bc1 (nI y.val))))) = nI (pc5 y.val) := by decide +kernel
theorem l64 {a b : Int64} (h : a.toBitVec.toNat = b.toBitVec.toNat) : a = b := Int64.toBitVec_inj.mp (BitVec.eq_of_toNat_eq h)
theorem i32 {a b : Int32} (h : a.toBitVec.toNat = b.toBitVec.toNat) : a = b := Int32.toBitVec_inj.mp (BitVec.eq_of_toNat_eq h)
theorem lN_nat {n : Nat} (h : n < 2 ^ 64) : (lN n).toBitVec.toNat = n := by
  show (BitVec.ofNat 64 n).toNat = n
  rw [BitVec.toNat_ofNat]
  exact Nat.mod_eq_of_lt h
theorem nI_nat {n : Nat} (h : n < 2 ^ 32) : (nI n).toBitVec.toNat = n := by
  show (BitVec.ofNat 32 n).toNat = n
  rw [BitVec.toNat_ofNat]
  exact Nat.mod_eq_of_lt h
theorem nI_and {a b : Nat} (ha : a < 2 ^ 31) (hb : b < 2 ^ 31) : nI a &&& nI b = nI (a &&& b) := i32 (by
  rw [Int32.toBitVec_and, BitVec.toNat_and, nI_nat (by omega), nI_nat (by omega), nI_nat]
  exact Nat.lt_of_le_of_lt Nat.and_le_left (by omega))
theorem nI_or {a b : Nat} (ha : a < 2 ^ 31) (hb : b < 2 ^ 31) : nI a ||| nI b = nI (a ||| b) := i32 (by
  rw [Int32.toBitVec_or, BitVec.toNat_or, nI_nat (by omega), nI_nat (by omega), nI_nat]
  exact Nat.lt_of_lt_of_le (Nat.or_lt_two_pow ha hb) (by decide))
theorem nI_xor {a b : Nat} (ha : a < 2 ^ 31) (hb : b < 2 ^ 31) : nI a ^^^ nI b = nI (a ^^^ b) := i32 (by
  rw [Int32.toBitVec_xor, BitVec.toNat_xor, nI_nat (by omega), nI_nat (by omega), nI_nat]
  exact Nat.lt_of_lt_of_le (Nat.xor_lt_two_pow ha hb) (by decide))
theorem lN_shl {x y k : Nat} {s : Int64} (hs : s.toBitVec.smod 64 = BitVec.ofNat 64 k) (hk : k < 6) (hx : x < 2 ^ 40) (hy : y < 2 ^ k) : (lN x <<< s) ||| lN y = lN (x * 2 ^ k + y) := by
  have hk2 : 2 ^ k ≤ 2 ^ 5 := Nat.pow_le_pow_right (by decide) (by omega)
  have hm : x * 2 ^ k ≤ 2 ^ 40 * 2 ^ 5 := Nat.mul_le_mul (by omega) hk2
  apply l64
  rw [Int64.toBitVec_or, Int64.toBitVec_shiftLeft, hs, BitVec.toNat_or, lN_nat (by omega), lN_nat (by omega), BitVec.shiftLeft_eq', BitVec.toNat_shiftLeft, lN_nat (by omega), BitVec.toNat_ofNat, Nat.mod_eq_of_lt (show k < 2 ^ 64 by omega), Nat.shiftLeft_eq, Nat.mod_eq_of_lt (by omega), ← Nat.shiftLeft_eq, ← Nat.shiftLeft_add_eq_or_of_lt hy]
theorem lN_shr {p k : Nat} {s : Int64} (hs : s.toBitVec.smod 64 = BitVec.ofNat 64 k) (hk : k < 6) (hp : p < 2 ^ 62) : lN p >>> s = lN (p / 2 ^ k) := by
  have hq : p / 2 ^ k ≤ p := Nat.div_le_self _ _
  apply l64
  have hm : (lN p).toBitVec.msb = false := by rw [BitVec.msb_eq_false_iff_two_mul_lt, lN_nat (by omega)]; omega
  rw [Int64.toBitVec_shiftRight, hs, BitVec.sshiftRight_eq', BitVec.sshiftRight_eq_of_msb_false hm, BitVec.toNat_ushiftRight, lN_nat (by omega), lN_nat (by omega), BitVec.toNat_ofNat, Nat.mod_eq_of_lt (show k < 2 ^ 64 by omega), Nat.shiftRight_eq_div_pow]
theorem lN_and {p k : Nat} (hk : k < 6) (hp : p < 2 ^ 62) : lN p &&& lN (2 ^ k - 1) = lN (p % 2 ^ k) := by
  have hk2 : 2 ^ k ≤ 2 ^ 5 := Nat.pow_le_pow_right (by decide) (by omega)
  have hq : p % 2 ^ k ≤ p := Nat.mod_le _ _
  apply l64
  rw [Int64.toBitVec_and, BitVec.toNat_and, lN_nat (by omega), lN_nat (by omega), lN_nat (by omega), Nat.and_two_pow_sub_one_eq_mod]
section Race3
variable {d : Nat} {w : Mem} {Q : Option Value → Mem → Prop} {T : Tv} {R : Rc} {k c h l : Nat}
theorem t_bitCount {x : Nat} (hx : x < 32) (hQ : Q (some (.int (nI (pc5 x)))) w) : Cl (d + 1) m_J6_bitCount_0f7a4 [.int (nI x)] w Q := by
  refine Cl_of k_J6_bitCount_0f7a4.1 (Nat.le_of_ble_eq_true rfl) (show Wp m_J6_bitCount_0f7a4 _ 0 _ 0 [.int (nI x)] [] _ from S_J6_bitCount_0f7a4_0 _ _ _ ?_)
  show Q (some (.int (bc5 (bc4 (bc3 (bc2 (bc1 (nI x)))))))) w
  rw [bc32 ⟨x, hx⟩]
  exact hQ
theorem t_hasRoom (hk : RK k c) (hT : Told w T) (hC : RC w k c R) (hR : ROK R) (hh : h < 4) (hQ : Q (some (.int (bI (nI (pc5 (R.1 h)) < T 5 h)))) w) : Cl (d + 2) m_X4_hasRoom [.ref k, .int (nI h)] w Q := by
  obtain ⟨h1, h2, h3, h4, h5, h6⟩ := hk
  refine Cl_of k_X4_hasRoom.1 (Nat.le_of_ble_eq_true rfl) (show Wp m_X4_hasRoom _ 0 _ 0 [.ref k, .int (nI h)] [] _ from S_X4_hasRoom_0 _ _ _ ?_)
  simp +decide (disch := omega) only [↓EQA, CEA, LIA, NIA, Nat.lt_irrefl, Option.toList_some, Option.toList_none, List.cons_append, List.nil_append, true_and, and_true, Nat.reduceAdd, Nat.reduceLeDiff, not_true_eq_false, not_false_eq_true, if_true, if_false, ite_true, ite_false, Int32.reduceLT, ite_not, eq_self, or_true, true_or, ite_self, reduceIte, B_X4_hasRoom_0, h1, h2, h3, h4, hC.1 h hh]
  refine t_bitCount (hR.1 h hh) ?_
  simp +decide (disch := omega) only [↓EQA, CEA, LIA, NIA, Nat.lt_irrefl, Option.toList_some, Option.toList_none, List.cons_append, List.nil_append, true_and, and_true, Nat.reduceAdd, Nat.reduceLeDiff, not_true_eq_false, not_false_eq_true, if_true, if_false, ite_true, ite_false, Int32.reduceLT, ite_not, eq_self, or_true, true_or, ite_self, reduceIte, mrg, h1, h2, h3, h4, hT]
  simp +decide (disch := omega) only [↓EQA, CEA, LIA, NIA, Nat.lt_irrefl, Option.toList_some, Option.toList_none, List.cons_append, List.nil_append, true_and, and_true, Nat.reduceAdd, Nat.reduceLeDiff, not_true_eq_false, not_false_eq_true, if_true, if_false, ite_true, ite_false, Int32.reduceLT, ite_not, eq_self, or_true, true_or, ite_self, reduceIte, B_X4_hasRoom_J1]
  exact hQ
def plc (R : Rc) (n l : Nat) : Nat := frst (fun h => (R.1 h).testBit l) n
def plI (R : Rc) (n l : Nat) : Int32 := if plc R n l < n then nI (plc R n l) else -2
theorem t_placeOf (hk : RK k c) (hT : Told w T) (hZ : SZ T) (hC : RC w k c R) (hR : ROK R) (hl : l < 5) (hQ : Q (some (.int (plI R (nH T) l))) w) : Cl (d + 1) m_X4_placeOf [.ref k, .int (nI l)] w Q := by
  obtain ⟨h1, h2, h3, h4, h5, h6⟩ := hk
  have hz := hZ.2
  unfold plI plc at hQ
  refine Cl_of k_X4_placeOf.1 (Nat.le_of_ble_eq_true rfl) (show Wp m_X4_placeOf _ 0 _ 0 [.ref k, .int (nI l), .null] [] _ from S_X4_placeOf_0 _ _ _ ?_)
  simp +decide (disch := omega) only [↓EQA, CEA, LIA, NIA, Nat.lt_irrefl, Option.toList_some, Option.toList_none, List.cons_append, List.nil_append, true_and, and_true, Nat.reduceAdd, Nat.reduceLeDiff, not_true_eq_false, not_false_eq_true, if_true, if_false, ite_true, ite_false, Int32.reduceLT, ite_not, eq_self, or_true, true_or, ite_self, reduceIte, B_X4_placeOf_0]
  refine frst_loop (p := fun h => (R.1 h).testBit l) (n := nH T) (fun j => Wp m_X4_placeOf _ 0 Q 2 [.ref k, .int (nI l), .int (nI j)] [] w) ?_ ?_ ?_
  · intro i hi hp he
    refine S_X4_placeOf_L1 _ _ _ ?_
    simp +decide (disch := omega) only [↓EQA, CEA, LIA, NIA, Nat.lt_irrefl, Option.toList_some, Option.toList_none, List.cons_append, List.nil_append, true_and, and_true, Nat.reduceAdd, Nat.reduceLeDiff, not_true_eq_false, not_false_eq_true, if_true, if_false, ite_true, ite_false, Int32.reduceLT, ite_not, eq_self, or_true, true_or, ite_self, reduceIte, B_X4_placeOf_L1, h1, h2, h3, h4, hT, hZ.1, hi, hC.1 i (by omega), bbN (hR.1 i (by omega)) hl, hp]
    rw [he, if_pos hi] at hQ
    exact hQ
  · intro i hi hp hd
    refine S_X4_placeOf_L1 _ _ _ ?_
    simp +decide (disch := omega) only [↓EQA, CEA, LIA, NIA, Nat.lt_irrefl, Option.toList_some, Option.toList_none, List.cons_append, List.nil_append, true_and, and_true, Nat.reduceAdd, Nat.reduceLeDiff, not_true_eq_false, not_false_eq_true, if_true, if_false, ite_true, ite_false, Int32.reduceLT, ite_not, eq_self, or_true, true_or, ite_self, reduceIte, B_X4_placeOf_L1, h1, h2, h3, h4, hT, hZ.1, hi, hC.1 i (by omega), bbN (hR.1 i (by omega)) hl, hp]
    exact hd
  · intro he
    refine S_X4_placeOf_L1 _ _ _ ?_
    simp +decide (disch := omega) only [↓EQA, CEA, LIA, NIA, Nat.lt_irrefl, Option.toList_some, Option.toList_none, List.cons_append, List.nil_append, true_and, and_true, Nat.reduceAdd, Nat.reduceLeDiff, not_true_eq_false, not_false_eq_true, if_true, if_false, ite_true, ite_false, Int32.reduceLT, ite_not, eq_self, or_true, true_or, ite_self, reduceIte, B_X4_placeOf_L1, h1, h2, h3, h4, hT, hZ.1]
    rw [he, if_neg (Nat.lt_irrefl _)] at hQ
    exact hQ
theorem t_fits (hk : RK k c) (hT : Told w T) (hZ : SZ T) (hC : RC w k c R) (hR : ∀ h, h < 4 → R.1 h < 32) (hQ : Q (some (.int (bI (∀ h, h < nH T → ¬ T 5 h < nI (pc5 (R.1 h)))))) w) : Cl (d + 2) m_X4_fits [.ref k] w Q := by
  obtain ⟨h1, h2, h3, h4, h5, h6⟩ := hk
  have hz := hZ.2
  refine Cl_of k_X4_fits.1 (Nat.le_of_ble_eq_true rfl) (show Wp m_X4_fits _ 0 _ 0 [.ref k, .null] [] _ from S_X4_fits_0 _ _ _ ?_)
  simp +decide (disch := omega) only [↓EQA, CEA, LIA, NIA, Nat.lt_irrefl, Option.toList_some, Option.toList_none, List.cons_append, List.nil_append, true_and, and_true, Nat.reduceAdd, Nat.reduceLeDiff, not_true_eq_false, not_false_eq_true, if_true, if_false, ite_true, ite_false, Int32.reduceLT, ite_not, eq_self, or_true, true_or, ite_self, reduceIte, B_X4_fits_0]
  refine frst_loop (p := fun h => decide (T 5 h < nI (pc5 (R.1 h)))) (n := nH T) (fun j => Wp m_X4_fits _ 0 Q 2 [.ref k, .int (nI j)] [] w) ?_ ?_ ?_
  · intro i hi hp he
    have hp2 : T 5 i < nI (pc5 (R.1 i)) := by simpa using hp
    refine S_X4_fits_L1 _ _ _ ?_
    simp +decide (disch := omega) only [↓EQA, CEA, LIA, NIA, Nat.lt_irrefl, Option.toList_some, Option.toList_none, List.cons_append, List.nil_append, true_and, and_true, Nat.reduceAdd, Nat.reduceLeDiff, not_true_eq_false, not_false_eq_true, if_true, if_false, ite_true, ite_false, Int32.reduceLT, ite_not, eq_self, or_true, true_or, ite_self, reduceIte, B_X4_fits_L1, h1, h2, h3, h4, hT, hZ.1, hi, hC.1 i (by omega)]
    refine t_bitCount (hR i (by omega)) ?_
    simp +decide (disch := omega) only [↓EQA, CEA, LIA, NIA, Nat.lt_irrefl, Option.toList_some, Option.toList_none, List.cons_append, List.nil_append, true_and, and_true, Nat.reduceAdd, Nat.reduceLeDiff, not_true_eq_false, not_false_eq_true, if_true, if_false, ite_true, ite_false, Int32.reduceLT, ite_not, eq_self, or_true, true_or, ite_self, reduceIte, h1, h2, h3, h4, hT, hp2]
    have e : bI (∀ h, h < nH T → ¬ T 5 h < nI (pc5 (R.1 h))) = 0 := if_neg fun z => z i hi hp2
    rw [e] at hQ
    exact hQ
  · intro i hi hp hd
    have hp2 : ¬ T 5 i < nI (pc5 (R.1 i)) := by simpa using hp
    refine S_X4_fits_L1 _ _ _ ?_
    simp +decide (disch := omega) only [↓EQA, CEA, LIA, NIA, Nat.lt_irrefl, Option.toList_some, Option.toList_none, List.cons_append, List.nil_append, true_and, and_true, Nat.reduceAdd, Nat.reduceLeDiff, not_true_eq_false, not_false_eq_true, if_true, if_false, ite_true, ite_false, Int32.reduceLT, ite_not, eq_self, or_true, true_or, ite_self, reduceIte, B_X4_fits_L1, h1, h2, h3, h4, hT, hZ.1, hi, hC.1 i (by omega)]
    refine t_bitCount (hR i (by omega)) ?_
    simp +decide (disch := omega) only [↓EQA, CEA, LIA, NIA, Nat.lt_irrefl, Option.toList_some, Option.toList_none, List.cons_append, List.nil_append, true_and, and_true, Nat.reduceAdd, Nat.reduceLeDiff, not_true_eq_false, not_false_eq_true, if_true, if_false, ite_true, ite_false, Int32.reduceLT, ite_not, eq_self, or_true, true_or, ite_self, reduceIte, h1, h2, h3, h4, hT, hp2]
    exact hd
  · intro he
    refine S_X4_fits_L1 _ _ _ ?_
    simp +decide (disch := omega) only [↓EQA, CEA, LIA, NIA, Nat.lt_irrefl, Option.toList_some, Option.toList_none, List.cons_append, List.nil_append, true_and, and_true, Nat.reduceAdd, Nat.reduceLeDiff, not_true_eq_false, not_false_eq_true, if_true, if_false, ite_true, ite_false, Int32.reduceLT, ite_not, eq_self, or_true, true_or, ite_self, reduceIte, B_X4_fits_L1, h1, h2, h3, h4, hT, hZ.1]
    have e : bI (∀ h, h < nH T → ¬ T 5 h < nI (pc5 (R.1 h))) = 1 := if_pos fun h hh => by
      have := (frst_spec (fun h => decide (T 5 h < nI (pc5 (R.1 h)))) (nH T)).2.1 h (by omega)
      simpa using this
    rw [e] at hQ
    exact hQ
theorem aln_shp {t k n : Nat} (h : aln t k = n) (hn : 0 < n) : shp k = some (.inl (t, n)) := by
  unfold aln at h
  split at h
  next t' n' e =>
    split at h
    next e2 => subst e2; subst h; exact e
    next => omega
  next => omega
theorem cpOk_of {t k k' n0 n1 : Nat} {sp dp n : Nat} (h0 : aln t k = n0) (h1 : aln t k' = n1) (hn : 0 < n) (ha : sp + n ≤ n0) (hb : dp + n ≤ n1) (hm : n0 < 2 ^ 31) (hm1 : n1 < 2 ^ 31) : cpOk t k k' (nI sp) (nI dp) (nI n) :=
  ⟨n0, n1, aln_shp h0 (by omega), aln_shp h1 (by omega), nI_pos (by omega), nI_pos (by omega), nI_pos (by omega), by rw [nI_clamp (by omega), nI_clamp (by omega)]; exact ha, by rw [nI_clamp (by omega), nI_clamp (by omega)]; exact hb⟩
theorem cp4 {k k' : Nat} (h0 : aln 0 k = 4) (h1 : aln 0 k' = 4) : cpOk 0 k k' 0 0 4 := cpOk_of (sp := 0) (dp := 0) (n := 4) h0 h1 (by decide) (by decide) (by decide) (by decide) (by decide)
theorem cpI_out {w : Mem} {k sp k' dp n a i : Nat} (h : a ≠ k') : (cpI w k sp k' dp n).1 a i = w.1 a i := by simp [cpI, h]
theorem cpI_at {w : Mem} {k k' n i : Nat} (h : i < n) : (cpI w k 0 k' 0 n).1 k' i = w.1 k i := by simp [cpI, h]
theorem Ag.cpI {P : Nat → Nat → Prop} {w w1 : Mem} {k sp k' dp n : Nat} (h1 : Ag P w w1) (h : ∀ i, dp ≤ i → i < dp + n → P k' i) : Ag P w (cpI w1 k sp k' dp n) := by
  intro j i q
  refine ⟨?_, (h1 j i q).2⟩
  simp only [Jvm.Pilot.@@N@@.cpI]
  split
  · next e => obtain ⟨rfl, e1, e2⟩ := e; exact absurd (h i e1 e2) q
  · exact (h1 j i q).1
theorem wI_get {w : Mem} {k i a b : Nat} {v : Int32} : (wI w k i v).1 a b = if a = k ∧ b = i then v else w.1 a b := rfl
theorem t_become {k' c' : Nat} (hk : RK k c) (hk' : RK k' c') (hn : k ≠ k' ∧ c ≠ c' ∧ k ≠ c ∧ k' ≠ c ∧ k ≠ c') (hC : RC w k' c' R) (hQ : ∀ w', Ag (fun j _ => j = k ∨ j = c) w w' → RC w' k c R → Q none w') : Cl (d + 1) m_X4_become [.ref k, .ref k'] w Q := by
  obtain ⟨h1, h2, h3, h4, h5, h6⟩ := hk
  obtain ⟨g1, g2, g3, g4, g5, g6⟩ := hk'
  obtain ⟨n1, n2, n3, n4, n5⟩ := hn
  obtain ⟨c1, c2, c3, c4, c5⟩ := hC
  refine Cl_of k_X4_become.1 (Nat.le_of_ble_eq_true rfl) (show Wp m_X4_become _ 0 _ 0 [.ref k, .ref k'] [] _ from S_X4_become_0 _ _ _ ?_)
  simp +decide (disch := omega) only [↓EQA, CEA, LIA, NIA, Nat.lt_irrefl, Option.toList_some, Option.toList_none, List.cons_append, List.nil_append, true_and, and_true, Nat.reduceAdd, Nat.reduceLeDiff, not_true_eq_false, not_false_eq_true, if_true, if_false, ite_true, ite_false, Int32.reduceLT, ite_not, eq_self, or_true, true_or, ite_self, reduceIte, B_X4_become_0, h1, h3, h4, g1, g3, g4]
  refine ⟨cp4 g4 h4, ?_⟩
  refine hQ _ (((((Ag.rf.cpI (fun i _ _ => Or.inr rfl)).wI (Or.inl rfl)).wI (Or.inl rfl)).wI (Or.inl rfl)).wI (Or.inl rfl)) ⟨fun h hh => ?_, ?_, ?_, ?_, ?_⟩
  · simp only [wI_get, n3.symm, false_and, if_false, cpI_at hh]; exact c1 h hh
  · simp [wI_get, n1.symm, n4, cpI_out, c2]
  · simp [wI_get, n1.symm, n4, cpI_out, c3]
  · simp [wI_get, n1.symm, n4, cpI_out, c4]
  · simp [wI_get, n1.symm, n4, cpI_out, c5]
def clb (x l : Nat) : Nat := if x.testBit l then x - 2 ^ l else x
def stb (x l : Nat) : Nat := if x.testBit l then x else x + 2 ^ l
theorem clb32 : ∀ x : Fin 32, ∀ l : Fin 5, nI x.val &&& ((1 <<< (nI l.val &&& 31)) ^^^ (-1)) = nI (clb x.val l.val) ∧ clb x.val l.val < 32 ∧ nI x.val ||| (1 <<< (nI l.val &&& 31)) = nI (stb x.val l.val) ∧ stb x.val l.val < 32 := by decide +kernel
theorem clN {x l : Nat} (hx : x < 32) (hl : l < 5) : nI x &&& ((1 <<< (nI l &&& 31)) ^^^ (-1)) = nI (clb x l) := (clb32 ⟨x, hx⟩ ⟨l, hl⟩).1
theorem clb_lt {x l : Nat} (hx : x < 32) (hl : l < 5) : clb x l < 32 := (clb32 ⟨x, hx⟩ ⟨l, hl⟩).2.1
theorem stN {x l : Nat} (hx : x < 32) (hl : l < 5) : nI x ||| (1 <<< (nI l &&& 31)) = nI (stb x l) := (clb32 ⟨x, hx⟩ ⟨l, hl⟩).2.2.1
theorem stb_lt {x l : Nat} (hx : x < 32) (hl : l < 5) : stb x l < 32 := (clb32 ⟨x, hx⟩ ⟨l, hl⟩).2.2.2
theorem put_loop {pl : Int32} (hk : RK k c) (hkc : k ≠ c) (hC : RC w k c R) (hR : ROK R) (hl : l < 5) (hQ : ∀ w', Ag (fun j _ => j = c) w w' → (∀ h, h < 4 → w'.1 c h = nI (clb (R.1 h) l)) → Wp m_X4_put d 0 Q 2 [.ref k, .int (nI l), .int pl, .int (nI 4)] [] w') : Wp m_X4_put d 0 Q 2 [.ref k, .int (nI l), .int pl, .int (nI 0)] [] w := by
  obtain ⟨h1, h2, h3, h4, h5, h6⟩ := hk
  have key : ∀ m j, j + m = 4 → ∀ w1, Ag (fun j _ => j = c) w w1 → (∀ h, h < 4 → w1.1 c h = nI (if h < j then clb (R.1 h) l else R.1 h)) → Wp m_X4_put d 0 Q 2 [.ref k, .int (nI l), .int pl, .int (nI j)] [] w1 := by
    intro m
    induction m with
    | zero =>
      intro j hj w1 ha h7
      have : j = 4 := by omega
      subst this
      exact hQ w1 ha fun h hh => by rw [h7 h hh, if_pos hh]
    | succ m ih =>
      intro j hj w1 ha h7
      have hj4 : j < 4 := by omega
      have e7 := h7 j hj4
      rw [if_neg (Nat.lt_irrefl j)] at e7
      refine S_X4_put_L1 _ _ _ ?_
      simp +decide (disch := omega) only [↓EQA, CEA, LIA, NIA, Nat.lt_irrefl, Option.toList_some, Option.toList_none, List.cons_append, List.nil_append, true_and, and_true, Nat.reduceAdd, Nat.reduceLeDiff, not_true_eq_false, not_false_eq_true, if_true, if_false, ite_true, ite_false, Int32.reduceLT, ite_not, eq_self, or_true, true_or, ite_self, reduceIte, B_X4_put_L1, h1, h3, h4, h5, h6, hj4, e7, clN (hR.1 j hj4) hl]
      refine ih (j + 1) (by omega) _ (ha.wI rfl) fun h hh => ?_
      rw [wI_get]
      by_cases e : h = j
      · subst e; rw [if_pos ⟨rfl, rfl⟩, if_pos (by omega)]
      · rw [if_neg (fun z => e z.2), h7 h hh]
        by_cases q : h < j
        · rw [if_pos q, if_pos (by omega)]
        · rw [if_neg q, if_neg (by omega)]
  exact key 4 0 rfl w Ag.rf fun h hh => by rw [if_neg (Nat.not_lt_zero _)]; exact hC.1 h hh
theorem t_put0 (hk : RK k c) (hkc : k ≠ c) (hC : RC w k c R) (hR : ROK R) (hl : l < 5) (hQ : ∀ w', Ag (fun j _ => j = c) w w' → RC w' k c (fun h => clb (R.1 h) l, R.2) → Q none w') : Cl (d + 1) m_X4_put [.ref k, .int (nI l), .int (-2)] w Q := by
  have hk0 := hk
  obtain ⟨h1, h2, h3, h4, h5, h6⟩ := hk
  refine Cl_of k_X4_put.1 (Nat.le_of_ble_eq_true rfl) (show Wp m_X4_put _ 0 _ 0 [.ref k, .int (nI l), .int (-2), .null] [] _ from S_X4_put_0 _ _ _ ?_)
  simp +decide (disch := omega) only [↓EQA, CEA, LIA, NIA, Nat.lt_irrefl, Option.toList_some, Option.toList_none, List.cons_append, List.nil_append, true_and, and_true, Nat.reduceAdd, Nat.reduceLeDiff, not_true_eq_false, not_false_eq_true, if_true, if_false, ite_true, ite_false, Int32.reduceLT, ite_not, eq_self, or_true, true_or, ite_self, reduceIte, B_X4_put_0]
  refine put_loop hk0 hkc hC hR hl fun w' ha h7 => ?_
  refine S_X4_put_L1 _ _ _ ?_
  simp +decide (disch := omega) only [↓EQA, CEA, LIA, NIA, Nat.lt_irrefl, Option.toList_some, Option.toList_none, List.cons_append, List.nil_append, true_and, and_true, Nat.reduceAdd, Nat.reduceLeDiff, not_true_eq_false, not_false_eq_true, if_true, if_false, ite_true, ite_false, Int32.reduceLT, ite_not, eq_self, or_true, true_or, ite_self, reduceIte, B_X4_put_L1, h1, h3, h4, h5, h6, B_X4_put_J1]
  obtain ⟨c1, c2⟩ := hC
  have e := ha.row (j := k) (fun i z => hkc z)
  exact hQ w' ha ⟨h7, by rw [e]; exact c2⟩
theorem t_put1 {g : Nat} (hk : RK k c) (hkc : k ≠ c) (hC : RC w k c R) (hR : ROK R) (hl : l < 5) (hg : g < 4) (hQ : ∀ w', Ag (fun j _ => j = c) w w' → RC w' k c (fun h => if h = g then stb (clb (R.1 h) l) l else clb (R.1 h) l, R.2) → Q none w') : Cl (d + 1) m_X4_put [.ref k, .int (nI l), .int (nI g)] w Q := by
  have hk0 := hk
  obtain ⟨h1, h2, h3, h4, h5, h6⟩ := hk
  refine Cl_of k_X4_put.1 (Nat.le_of_ble_eq_true rfl) (show Wp m_X4_put _ 0 _ 0 [.ref k, .int (nI l), .int (nI g), .null] [] _ from S_X4_put_0 _ _ _ ?_)
  simp +decide (disch := omega) only [↓EQA, CEA, LIA, NIA, Nat.lt_irrefl, Option.toList_some, Option.toList_none, List.cons_append, List.nil_append, true_and, and_true, Nat.reduceAdd, Nat.reduceLeDiff, not_true_eq_false, not_false_eq_true, if_true, if_false, ite_true, ite_false, Int32.reduceLT, ite_not, eq_self, or_true, true_or, ite_self, reduceIte, B_X4_put_0]
  refine put_loop hk0 hkc hC hR hl fun w' ha h7 => ?_
  refine S_X4_put_L1 _ _ _ ?_
  simp +decide (disch := omega) only [↓EQA, CEA, LIA, NIA, Nat.lt_irrefl, Option.toList_some, Option.toList_none, List.cons_append, List.nil_append, true_and, and_true, Nat.reduceAdd, Nat.reduceLeDiff, not_true_eq_false, not_false_eq_true, if_true, if_false, ite_true, ite_false, Int32.reduceLT, ite_not, eq_self, or_true, true_or, ite_self, reduceIte, B_X4_put_L1, h1, h3, h4, h5, h6, hg, h7 g hg, stN (clb_lt (hR.1 g hg) hl) hl, B_X4_put_J1]
  obtain ⟨c1, c2⟩ := hC
  have e := ha.row (j := k) (fun i z => hkc z)
  refine hQ _ (ha.wI rfl) ⟨fun h hh => ?_, ?_⟩
  · rw [wI_get]
    by_cases q : h = g
    · subst q; rw [if_pos ⟨rfl, rfl⟩]; show _ = nI (if h = h then _ else _); rw [if_pos rfl]
    · rw [if_neg (fun z => q z.2)]; show _ = nI (if h = g then _ else _); rw [if_neg q]; exact h7 h hh
  · rw [wI_ne hkc, e]; exact c2
theorem tl16 : ∀ x : Fin 16, ∀ h : Fin 4, (nI x.val &&& (((1 : Int32) <<< (nI h.val &&& 31)) ^^^ (-1 : Int32))) ||| ((0 : Int32) <<< (nI h.val &&& 31)) = nI (clb x.val h.val) ∧ (nI x.val &&& (((1 : Int32) <<< (nI h.val &&& 31)) ^^^ (-1 : Int32))) ||| ((1 : Int32) <<< (nI h.val &&& 31)) = nI (stb x.val h.val) ∧ clb x.val h.val < 16 ∧ stb x.val h.val < 16 := by decide +kernel
theorem t_takeLane0 (hk : RK k c) (hC : RC w k c R) (hR : ROK R) (hh : h < 4) (hQ : Q none (wI w k 5 (nI (clb R.2.2.2.2 h)))) : Cl (d + 1) m_X4_takeLane [.ref k, .int (nI h), .int 0] w Q := by
  obtain ⟨h1, h2, h3, h4, h5, h6⟩ := hk
  refine Cl_of k_X4_takeLane.1 (Nat.le_of_ble_eq_true rfl) (show Wp m_X4_takeLane _ 0 _ 0 [.ref k, .int (nI h), .int 0] [] _ from S_X4_takeLane_0 _ _ _ ?_)
  simp +decide (disch := omega) only [↓EQA, CEA, LIA, NIA, Nat.lt_irrefl, Option.toList_some, Option.toList_none, List.cons_append, List.nil_append, true_and, and_true, Nat.reduceAdd, Nat.reduceLeDiff, not_true_eq_false, not_false_eq_true, if_true, if_false, ite_true, ite_false, Int32.reduceLT, ite_not, eq_self, or_true, true_or, ite_self, reduceIte, B_X4_takeLane_0, h1, hC.2.2.2.2]
  rw [(tl16 ⟨_, hR.2.2.2.2⟩ ⟨h, hh⟩).1]
  exact hQ
theorem t_takeLane1 (hk : RK k c) (hC : RC w k c R) (hR : ROK R) (hh : h < 4) (hQ : Q none (wI w k 5 (nI (stb R.2.2.2.2 h)))) : Cl (d + 1) m_X4_takeLane [.ref k, .int (nI h), .int 1] w Q := by
  obtain ⟨h1, h2, h3, h4, h5, h6⟩ := hk
  refine Cl_of k_X4_takeLane.1 (Nat.le_of_ble_eq_true rfl) (show Wp m_X4_takeLane _ 0 _ 0 [.ref k, .int (nI h), .int 1] [] _ from S_X4_takeLane_0 _ _ _ ?_)
  simp +decide (disch := omega) only [↓EQA, CEA, LIA, NIA, Nat.lt_irrefl, Option.toList_some, Option.toList_none, List.cons_append, List.nil_append, true_and, and_true, Nat.reduceAdd, Nat.reduceLeDiff, not_true_eq_false, not_false_eq_true, if_true, if_false, ite_true, ite_false, Int32.reduceLT, ite_not, eq_self, or_true, true_or, ite_self, reduceIte, B_X4_takeLane_0, h1, hC.2.2.2.2]
  rw [(tl16 ⟨_, hR.2.2.2.2⟩ ⟨h, hh⟩).2.1]
  exact hQ
/-- which lodgers are elsewhere, as bits -/
def mvB (R R' : Rc) (n : Nat) : Nat := fld (fun h a => a ||| (R.1 h ^^^ R'.1 h)) n 0
abbrev CB (R : Rc) : Prop := ∀ h, h < 4 → R.1 h < 32
theorem mvB_lt {R R' : Rc} (hR : CB R) (hR' : CB R') : ∀ n, n ≤ 4 → mvB R R' n < 32 := by
  intro n
  induction n with
  | zero => intro _; show (0 : Nat) < 32; decide
  | succ n ih => intro hn; exact Nat.or_lt_two_pow (n := 5) (ih (by omega)) (Nat.xor_lt_two_pow (n := 5) (hR n (by omega)) (hR' n (by omega)))
theorem t_movesFrom {k' c' : Nat} {R' : Rc} (hk : RK k c) (hk' : RK k' c') (hC : RC w k c R) (hR : CB R) (hC' : RC w k' c' R') (hR' : CB R') (hQ : Q (some (.int (nI (pc5 (mvB R R' 4))))) w) : Cl (d + 2) m_X4_movesFrom [.ref k, .ref k'] w Q := by
  obtain ⟨h1, h2, h3, h4, h5, h6⟩ := hk
  obtain ⟨g1, g2, g3, g4, g5, g6⟩ := hk'
  refine Cl_of k_X4_movesFrom.1 (Nat.le_of_ble_eq_true rfl) (show Wp m_X4_movesFrom _ 0 _ 0 [.ref k, .ref k', .null, .null] [] _ from S_X4_movesFrom_0 _ _ _ ?_)
  simp +decide (disch := omega) only [↓EQA, CEA, LIA, NIA, Nat.lt_irrefl, Option.toList_some, Option.toList_none, List.cons_append, List.nil_append, true_and, and_true, Nat.reduceAdd, Nat.reduceLeDiff, not_true_eq_false, not_false_eq_true, if_true, if_false, ite_true, ite_false, Int32.reduceLT, ite_not, eq_self, or_true, true_or, ite_self, reduceIte, B_X4_movesFrom_0]
  refine fld_loop (f := fun h a => a ||| (R.1 h ^^^ R'.1 h)) (n := 4) (a := 0) (fun j a => Wp m_X4_movesFrom _ 0 Q 4 [.ref k, .ref k', .int (nI a), .int (nI j)] [] w) (fun j hj hd => ?_) ?_
  · have hb := mvB_lt hR hR' j (by omega)
    have r1 := hR j hj
    have r2 := hR' j hj
    have hx : R.1 j ^^^ R'.1 j < 2 ^ 5 := Nat.xor_lt_two_pow (n := 5) r1 r2
    unfold mvB at hb
    refine S_X4_movesFrom_L1 _ _ _ ?_
    simp +decide (disch := omega) only [↓EQA, CEA, LIA, NIA, Nat.lt_irrefl, Option.toList_some, Option.toList_none, List.cons_append, List.nil_append, true_and, and_true, Nat.reduceAdd, Nat.reduceLeDiff, not_true_eq_false, not_false_eq_true, if_true, if_false, ite_true, ite_false, Int32.reduceLT, ite_not, eq_self, or_true, true_or, ite_self, reduceIte, B_X4_movesFrom_L1, h1, h3, h4, h5, h6, g1, g3, g4, hj, hC.1 j hj, hC'.1 j hj, nI_xor, nI_or]
    exact hd
  · refine S_X4_movesFrom_L1 _ _ _ ?_
    simp +decide (disch := omega) only [↓EQA, CEA, LIA, NIA, Nat.lt_irrefl, Option.toList_some, Option.toList_none, List.cons_append, List.nil_append, true_and, and_true, Nat.reduceAdd, Nat.reduceLeDiff, not_true_eq_false, not_false_eq_true, if_true, if_false, ite_true, ite_false, Int32.reduceLT, ite_not, eq_self, or_true, true_or, ite_self, reduceIte, B_X4_movesFrom_L1, h1, h3, h4, h5, h6]
    refine t_bitCount (mvB_lt hR hR' 4 (Nat.le_refl _)) ?_
    simp +decide (disch := omega) only [↓EQA, CEA, LIA, NIA, Nat.lt_irrefl, Option.toList_some, Option.toList_none, List.cons_append, List.nil_append, true_and, and_true, Nat.reduceAdd, Nat.reduceLeDiff, not_true_eq_false, not_false_eq_true, if_true, if_false, ite_true, ite_false, Int32.reduceLT, ite_not, eq_self, or_true, true_or, ite_self, reduceIte]
    exact hQ
theorem cnt_loopA {p : Nat → Bool} {n a : Nat} (head : Nat → Int32 → Prop) (hs : ∀ j, j < n → head (j + 1) (if p j then nI (a + cnt p j + 1) else nI (a + cnt p j)) → head j (nI (a + cnt p j))) (he : head n (nI (a + cnt p n))) : head 0 (nI a) := by
  have key : ∀ i j, j + i = n → head j (nI (a + cnt p j)) := by
    intro i
    induction i with
    | zero => intro j hj; have : j = n := by omega
              subst this; exact he
    | succ i ih =>
      intro j hj
      refine hs j (by omega) ?_
      have h := ih (j + 1) (by omega)
      unfold cnt at h
      split <;> rename_i hp
      · rw [if_pos hp] at h; exact h
      · rw [if_neg hp] at h; exact h
  exact key n 0 (by omega)
/-- two friends aboard one house -/
def frH (T : Tv) (R : Rc) (i h : Nat) : Bool := decide (nI (R.1 h) &&& T 8 i = T 8 i)
def frN (T : Tv) (R : Rc) (n : Nat) : Nat := fld (fun i a => a + cnt (frH T R i) (nH T)) n 0
theorem t_friendsTogether (hk : RK k c) (hT : Told w T) (hZ : SZ T) (hC : RC w k c R) (hQ : Q (some (.int (nI (frN T R (nF T))))) w) : Cl (d + 1) m_X4_friendsTogether [.ref k] w Q := by
  obtain ⟨h1, h2, h3, h4, h5, h6⟩ := hk
  have hz := hZ.2
  refine Cl_of k_X4_friendsTogether.1 (Nat.le_of_ble_eq_true rfl) (show Wp m_X4_friendsTogether _ 0 _ 0 [.ref k, .null, .null, .null] [] _ from S_X4_friendsTogether_0 _ _ _ ?_)
  simp +decide (disch := omega) only [↓EQA, CEA, LIA, NIA, Nat.lt_irrefl, Option.toList_some, Option.toList_none, List.cons_append, List.nil_append, true_and, and_true, Nat.reduceAdd, Nat.reduceLeDiff, not_true_eq_false, not_false_eq_true, if_true, if_false, ite_true, ite_false, Int32.reduceLT, ite_not, eq_self, or_true, true_or, ite_self, reduceIte, B_X4_friendsTogether_0]
  refine fld_loop (f := fun i a => a + cnt (frH T R i) (nH T)) (n := nF T) (a := 0) (fun j a => ∀ u, Wp m_X4_friendsTogether _ 0 Q 4 [.ref k, .int (nI a), .int (nI j), u] [] w) (fun j hj hd u => ?_) (fun u => ?_) .null
  · generalize fld (fun i a => a + cnt (frH T R i) (nH T)) j 0 = a0 at hd ⊢
    refine S_X4_friendsTogether_L1 _ _ _ ?_
    simp +decide (disch := omega) only [↓EQA, CEA, LIA, NIA, Nat.lt_irrefl, Option.toList_some, Option.toList_none, List.cons_append, List.nil_append, true_and, and_true, Nat.reduceAdd, Nat.reduceLeDiff, not_true_eq_false, not_false_eq_true, if_true, if_false, ite_true, ite_false, Int32.reduceLT, ite_not, eq_self, or_true, true_or, ite_self, reduceIte, B_X4_friendsTogether_L1, h1, h2, h3, h4, hT, hZ.1, hj]
    refine cnt_loopA (p := frH T R j) (n := nH T) (a := a0) (fun i a => Wp m_X4_friendsTogether _ 0 Q 20 [.ref k, .int a, .int (nI j), .int (nI i)] [] w) (fun i hi he => ?_) ?_
    · refine S_X4_friendsTogether_L2 _ _ _ ?_
      simp +decide (disch := omega) only [↓EQA, CEA, LIA, NIA, Nat.lt_irrefl, Option.toList_some, Option.toList_none, List.cons_append, List.nil_append, true_and, and_true, Nat.reduceAdd, Nat.reduceLeDiff, not_true_eq_false, not_false_eq_true, if_true, if_false, ite_true, ite_false, Int32.reduceLT, ite_not, eq_self, or_true, true_or, ite_self, reduceIte, B_X4_friendsTogether_L2, B_X4_friendsTogether_J1, h1, h2, h3, h4, hT, hZ.1, hi, hC.1 i (by omega)]
      unfold frH at he
      by_cases q : nI (R.1 i) &&& T 8 j = T 8 j <;> simp [q] at he ⊢ <;> exact he
    · refine S_X4_friendsTogether_L2 _ _ _ ?_
      simp +decide (disch := omega) only [↓EQA, CEA, LIA, NIA, Nat.lt_irrefl, Option.toList_some, Option.toList_none, List.cons_append, List.nil_append, true_and, and_true, Nat.reduceAdd, Nat.reduceLeDiff, not_true_eq_false, not_false_eq_true, if_true, if_false, ite_true, ite_false, Int32.reduceLT, ite_not, eq_self, or_true, true_or, ite_self, reduceIte, B_X4_friendsTogether_L2, h1, h2, h3, h4, hT, hZ.1]
      exact hd _
  · refine S_X4_friendsTogether_L1 _ _ _ ?_
    simp +decide (disch := omega) only [↓EQA, CEA, LIA, NIA, Nat.lt_irrefl, Option.toList_some, Option.toList_none, List.cons_append, List.nil_append, true_and, and_true, Nat.reduceAdd, Nat.reduceLeDiff, not_true_eq_false, not_false_eq_true, if_true, if_false, ite_true, ite_false, Int32.reduceLT, ite_not, eq_self, or_true, true_or, ite_self, reduceIte, B_X4_friendsTogether_L1, h1, h2, h3, h4, hT, hZ.1]
    exact hQ
end Race3
