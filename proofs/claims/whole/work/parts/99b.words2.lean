/-! ===== the start: texts, statics, the first cells ===== -/
theorem lt_t1 {w : Cond} (i : Nat) (h : tables_1_1[i]? = some w) : w ∈ lw_tbl := by
  have h1 : w ∈ tables_1 := List.mem_append_left _ (List.mem_of_getElem? h)
  exact List.mem_append_right _ h1
theorem lt_t2 {w : Cond} (i : Nat) (h : tables_1_2[i]? = some w) : w ∈ lw_tbl := by
  have h1 : w ∈ tables_1 := List.mem_append_right _ (List.mem_append_left _ (List.mem_of_getElem? h))
  exact List.mem_append_right _ h1
theorem lt_t3 {w : Cond} (i : Nat) (h : tables_1_3[i]? = some w) : w ∈ lw_tbl := by
  have h1 : w ∈ tables_1 := List.mem_append_right _ (List.mem_append_right _ (List.mem_append_left _ (List.mem_of_getElem? h)))
  exact List.mem_append_right _ h1
theorem lt_t4 {w : Cond} (i : Nat) (h : tables_1_4[i]? = some w) : w ∈ lw_tbl := by
  have h1 : w ∈ tables_1 := List.mem_append_right _ (List.mem_append_right _ (List.mem_append_right _ (List.mem_append_left _ (List.mem_of_getElem? h))))
  exact List.mem_append_right _ h1
theorem lt_t5 {w : Cond} (i : Nat) (h : tables_1_5[i]? = some w) : w ∈ lw_tbl := by
  have h1 : w ∈ tables_1 := List.mem_append_right _ (List.mem_append_right _ (List.mem_append_right _ (List.mem_append_right _ (List.mem_append_left _ (List.mem_of_getElem? h)))))
  exact List.mem_append_right _ h1
theorem lt_t6 {w : Cond} (i : Nat) (h : tables_1_6[i]? = some w) : w ∈ lw_tbl := by
  have h1 : w ∈ tables_1 := List.mem_append_right _ (List.mem_append_right _ (List.mem_append_right _ (List.mem_append_right _ (List.mem_append_right _ (List.mem_append_left _ (List.mem_of_getElem? h))))))
  exact List.mem_append_right _ h1
theorem lt_t7 {w : Cond} (i : Nat) (h : tables_1_7[i]? = some w) : w ∈ lw_tbl := by
  have h1 : w ∈ tables_1 := List.mem_append_right _ (List.mem_append_right _ (List.mem_append_right _ (List.mem_append_right _ (List.mem_append_right _ (List.mem_append_right _ (List.mem_append_left _ (List.mem_of_getElem? h)))))))
  exact List.mem_append_right _ h1
theorem lt_t8 {w : Cond} (i : Nat) (h : tables_1_8[i]? = some w) : w ∈ lw_tbl := by
  have h1 : w ∈ tables_1 := List.mem_append_right _ (List.mem_append_right _ (List.mem_append_right _ (List.mem_append_right _ (List.mem_append_right _ (List.mem_append_right _ (List.mem_append_right _ (List.mem_append_left _ (List.mem_of_getElem? h))))))))
  exact List.mem_append_right _ h1
theorem lt_t9 {w : Cond} (i : Nat) (h : tables_1_9[i]? = some w) : w ∈ lw_tbl := by
  have h1 : w ∈ tables_1 := List.mem_append_right _ (List.mem_append_right _ (List.mem_append_right _ (List.mem_append_right _ (List.mem_append_right _ (List.mem_append_right _ (List.mem_append_right _ (List.mem_append_right _ (List.mem_of_getElem? h))))))))
  exact List.mem_append_right _ h1
def FC : List Cond := flatC (Jvm.Cond.and given_1 narrow_1)
def STRa : List (String × Nat × String × Nat) := [("RoofRegatta$Reade\x72", 110, "regatta", 0), ("RoofRegatta$Reade\x72", 116, "aboard", 1), ("RoofRegatta$Reade\x72", 118, "bend", 2), ("RoofRegatta$Reade\x72", 120, "house", 3), ("RoofRegatta$Reade\x72", 122, "lodge\x72", 4), ("RoofRegatta$Reade\x72", 124, "friend", 5), ("RoofRegatta$Reade\x72", 126, "prize", 6), ("RoofRegatta$Reade\x72", 128, "saw", 7), ("RoofRegatta$Reade\x72", 133, "wate\x72", 8), ("RoofRegatta$Reade\x72", 143, "bridge", 9), ("RoofRegatta$Reade\x72", 145, "storey", 10), ("RoofRegatta$Reade\x72", 147, "rain", 11), ("RoofRegatta$Reade\x72", 149, "by", 12), ("RoofRegatta$Reade\x72", 156, "long", 13), ("RoofRegatta$Reade\x72", 227, "right", 14), ("RoofRegatta$Reade\x72", 229, "left", 15), ("RoofRegatta$Reade\x72", 231, "terrace", 16), ("RoofRegatta$Reade\x72", 233, "villa", 17), ("RoofRegatta$Reade\x72", 235, "pub", 18), ("RoofRegatta$Reade\x72", 237, "cottage", 19), ("RoofRegatta$Reade\x72", 170, "tiles", 20), ("RoofRegatta$Reade\x72", 172, "storeys", 21), ("RoofRegatta$Reade\x72", 185, "weighs", 22), ("RoofRegatta$Reade\x72", 187, "rows", 23), ("RoofRegatta", 368, "no such lodger is ashore", 24)]
def STRm : List (String × Nat × String × Nat) := [("RoofRegattaModel", 122, "regatta", 0), ("RoofRegattaModel", 213, "wate\x72", 8), ("RoofRegattaModel", 219, "bridge", 9), ("RoofRegattaModel", 221, "storey", 10), ("RoofRegattaModel", 223, "rain", 11), ("RoofRegattaModel", 225, "by", 12), ("RoofRegattaModel", 124, "bend", 2), ("RoofRegattaModel", 126, "house", 3), ("RoofRegattaModel", 128, "lodge\x72", 4), ("RoofRegattaModel", 130, "aboard", 1), ("RoofRegattaModel", 132, "friend", 5), ("RoofRegattaModel", 134, "prize", 6), ("RoofRegattaModel", 136, "saw", 7), ("RoofRegattaModel", 231, "long", 13), ("RoofRegattaModel", 159, "left", 15), ("RoofRegattaModel", 161, "right", 14), ("RoofRegattaModel", 236, "cottage", 19), ("RoofRegattaModel", 238, "terrace", 16), ("RoofRegattaModel", 240, "villa", 17), ("RoofRegattaModel", 242, "pub", 18), ("RoofRegattaModel", 244, "tiles", 20), ("RoofRegattaModel", 246, "storeys", 21), ("RoofRegattaModel", 248, "weighs", 22), ("RoofRegattaModel", 250, "rows", 23)]
theorem STR_ap : STR = STRa ++ STRm := rfl
def stm (i : Nat) : Term := (STRa[i]?.map fun q => Term.string q.1 q.2.1).getD (.string "" 0)
def stv (i : Nat) : Term := .field (stm i) "java/lang/String" "value" "[B"
def wtS (i : Nat) : List Cond := .exactly (stm i) "java/lang/String" :: .eq (.field (stm i) "java/lang/String" "code\x72" "B") (.int 0) :: .arrayOf (stv i) .byte :: .eq (.length (stv i)) (.int (Int32.ofNat (sbyt i).length)) :: (List.range (sbyt i).length).map fun j => Cond.eq (.elem (stv i) (.int (Int32.ofNat j))) (.int ((sbyt i).getD j 0))
set_option maxRecDepth 100000 in
theorem wtS_eq : (FC.drop 23).take 246 = (List.range 25).flatMap wtS := by decide +kernel
theorem wtS_in {i : Nat} (hi : i < 25) {w : Cond} (hw : w ∈ wtS i) : w ∈ FC := List.mem_of_mem_drop (List.mem_of_mem_take (by rw [wtS_eq]; exact List.mem_flatMap.mpr ⟨i, List.mem_range.mpr hi, hw⟩))
theorem sa_all : ∀ q ∈ STRa, q.2.2.2 < 25 ∧ stm q.2.2.2 = .string q.1 q.2.1 := by decide +kernel
theorem sm_all : ∀ q ∈ STRm, q.2.2.2 < 25 := by decide +kernel
theorem sb_len : ∀ i, i < 25 → (sbyt i).length < 2 ^ 31 := by decide +kernel
set_option maxRecDepth 100000 in
theorem sra_all : ∀ q ∈ STRa, Cond.stringRef q.1 q.2.1 q.2.2.1 ∈ lw_tbl := List.forall_mem_cons.mpr ⟨lt_t2 238 (by decide +kernel), List.forall_mem_cons.mpr ⟨lt_t3 51 (by decide +kernel), List.forall_mem_cons.mpr ⟨lt_t3 52 (by decide +kernel), List.forall_mem_cons.mpr ⟨lt_t3 53 (by decide +kernel), List.forall_mem_cons.mpr ⟨lt_t3 54 (by decide +kernel), List.forall_mem_cons.mpr ⟨lt_t3 55 (by decide +kernel), List.forall_mem_cons.mpr ⟨lt_t3 56 (by decide +kernel), List.forall_mem_cons.mpr ⟨lt_t3 57 (by decide +kernel), List.forall_mem_cons.mpr ⟨lt_t3 74 (by decide +kernel), List.forall_mem_cons.mpr ⟨lt_t3 87 (by decide +kernel), List.forall_mem_cons.mpr ⟨lt_t3 88 (by decide +kernel), List.forall_mem_cons.mpr ⟨lt_t3 89 (by decide +kernel), List.forall_mem_cons.mpr ⟨lt_t3 90 (by decide +kernel), List.forall_mem_cons.mpr ⟨lt_t3 111 (by decide +kernel), List.forall_mem_cons.mpr ⟨lt_t3 116 (by decide +kernel), List.forall_mem_cons.mpr ⟨lt_t3 117 (by decide +kernel), List.forall_mem_cons.mpr ⟨lt_t3 126 (by decide +kernel), List.forall_mem_cons.mpr ⟨lt_t3 127 (by decide +kernel), List.forall_mem_cons.mpr ⟨lt_t3 128 (by decide +kernel), List.forall_mem_cons.mpr ⟨lt_t3 129 (by decide +kernel), List.forall_mem_cons.mpr ⟨lt_t3 130 (by decide +kernel), List.forall_mem_cons.mpr ⟨lt_t3 131 (by decide +kernel), List.forall_mem_cons.mpr ⟨lt_t3 140 (by decide +kernel), List.forall_mem_cons.mpr ⟨lt_t3 141 (by decide +kernel), List.forall_mem_cons.mpr ⟨lt_t6 72 (by decide +kernel), (fun _ h => absurd h List.not_mem_nil)⟩⟩⟩⟩⟩⟩⟩⟩⟩⟩⟩⟩⟩⟩⟩⟩⟩⟩⟩⟩⟩⟩⟩⟩⟩
set_option maxRecDepth 100000 in
theorem srm_all : ∀ q ∈ STRm, Cond.stringRef q.1 q.2.1 q.2.2.1 ∈ lw_tbl := List.forall_mem_cons.mpr ⟨lt_t7 35 (by decide +kernel), List.forall_mem_cons.mpr ⟨lt_t7 50 (by decide +kernel), List.forall_mem_cons.mpr ⟨lt_t7 67 (by decide +kernel), List.forall_mem_cons.mpr ⟨lt_t7 68 (by decide +kernel), List.forall_mem_cons.mpr ⟨lt_t7 69 (by decide +kernel), List.forall_mem_cons.mpr ⟨lt_t7 70 (by decide +kernel), List.forall_mem_cons.mpr ⟨lt_t7 71 (by decide +kernel), List.forall_mem_cons.mpr ⟨lt_t7 88 (by decide +kernel), List.forall_mem_cons.mpr ⟨lt_t7 89 (by decide +kernel), List.forall_mem_cons.mpr ⟨lt_t7 90 (by decide +kernel), List.forall_mem_cons.mpr ⟨lt_t7 91 (by decide +kernel), List.forall_mem_cons.mpr ⟨lt_t7 92 (by decide +kernel), List.forall_mem_cons.mpr ⟨lt_t7 93 (by decide +kernel), List.forall_mem_cons.mpr ⟨lt_t7 98 (by decide +kernel), List.forall_mem_cons.mpr ⟨lt_t7 103 (by decide +kernel), List.forall_mem_cons.mpr ⟨lt_t7 104 (by decide +kernel), List.forall_mem_cons.mpr ⟨lt_t7 109 (by decide +kernel), List.forall_mem_cons.mpr ⟨lt_t7 110 (by decide +kernel), List.forall_mem_cons.mpr ⟨lt_t7 111 (by decide +kernel), List.forall_mem_cons.mpr ⟨lt_t7 112 (by decide +kernel), List.forall_mem_cons.mpr ⟨lt_t7 113 (by decide +kernel), List.forall_mem_cons.mpr ⟨lt_t7 114 (by decide +kernel), List.forall_mem_cons.mpr ⟨lt_t7 119 (by decide +kernel), List.forall_mem_cons.mpr ⟨lt_t7 120 (by decide +kernel), (fun _ h => absurd h List.not_mem_nil)⟩⟩⟩⟩⟩⟩⟩⟩⟩⟩⟩⟩⟩⟩⟩⟩⟩⟩⟩⟩⟩⟩⟩⟩
set_option maxRecDepth 100000 in
theorem sem_all : ∀ q ∈ STRm, Cond.eq (stm q.2.2.2) (.string q.1 q.2.1) ∈ FC := List.forall_mem_cons.mpr ⟨List.mem_of_getElem? (i := 280) (by decide +kernel), List.forall_mem_cons.mpr ⟨List.mem_of_getElem? (i := 290) (by decide +kernel), List.forall_mem_cons.mpr ⟨List.mem_of_getElem? (i := 301) (by decide +kernel), List.forall_mem_cons.mpr ⟨List.mem_of_getElem? (i := 312) (by decide +kernel), List.forall_mem_cons.mpr ⟨List.mem_of_getElem? (i := 321) (by decide +kernel), List.forall_mem_cons.mpr ⟨List.mem_of_getElem? (i := 328) (by decide +kernel), List.forall_mem_cons.mpr ⟨List.mem_of_getElem? (i := 337) (by decide +kernel), List.forall_mem_cons.mpr ⟨List.mem_of_getElem? (i := 347) (by decide +kernel), List.forall_mem_cons.mpr ⟨List.mem_of_getElem? (i := 358) (by decide +kernel), List.forall_mem_cons.mpr ⟨List.mem_of_getElem? (i := 369) (by decide +kernel), List.forall_mem_cons.mpr ⟨List.mem_of_getElem? (i := 380) (by decide +kernel), List.forall_mem_cons.mpr ⟨List.mem_of_getElem? (i := 390) (by decide +kernel), List.forall_mem_cons.mpr ⟨List.mem_of_getElem? (i := 398) (by decide +kernel), List.forall_mem_cons.mpr ⟨List.mem_of_getElem? (i := 407) (by decide +kernel), List.forall_mem_cons.mpr ⟨List.mem_of_getElem? (i := 416) (by decide +kernel), List.forall_mem_cons.mpr ⟨List.mem_of_getElem? (i := 426) (by decide +kernel), List.forall_mem_cons.mpr ⟨List.mem_of_getElem? (i := 438) (by decide +kernel), List.forall_mem_cons.mpr ⟨List.mem_of_getElem? (i := 450) (by decide +kernel), List.forall_mem_cons.mpr ⟨List.mem_of_getElem? (i := 460) (by decide +kernel), List.forall_mem_cons.mpr ⟨List.mem_of_getElem? (i := 468) (by decide +kernel), List.forall_mem_cons.mpr ⟨List.mem_of_getElem? (i := 478) (by decide +kernel), List.forall_mem_cons.mpr ⟨List.mem_of_getElem? (i := 490) (by decide +kernel), List.forall_mem_cons.mpr ⟨List.mem_of_getElem? (i := 501) (by decide +kernel), List.forall_mem_cons.mpr ⟨List.mem_of_getElem? (i := 510) (by decide +kernel), (fun _ h => absurd h List.not_mem_nil)⟩⟩⟩⟩⟩⟩⟩⟩⟩⟩⟩⟩⟩⟩⟩⟩⟩⟩⟩⟩⟩⟩⟩⟩
set_option maxRecDepth 100000 in
theorem fc_zc : Cond.eq (.static "java/lang/String" "COMPACT_STRINGS" "Z") (.int 1) ∈ FC := List.mem_of_getElem? (i := 4) (by decide +kernel)
set_option maxRecDepth 100000 in
theorem fc_zf : Cond.isRef (.static "jdk/internal/util/Preconditions" fmtN "Ljava/util/function/BiFunction;") ∈ FC := List.mem_of_getElem? (i := 5) (by decide +kernel)
set_option maxRecDepth 100000 in
theorem fc_zu : Cond.isRef (.static Bundle.tN "UNASSIGNED_STACK" Bundle.steD) ∈ FC := List.mem_of_getElem? (i := 9) (by decide +kernel)
set_option maxRecDepth 100000 in
theorem fc_zs : Cond.isRef (.static Bundle.tN "SUPPRESSED_SENTINEL" Bundle.listD) ∈ FC := List.mem_of_getElem? (i := 10) (by decide +kernel)
theorem lw_lc : Cond.laysStatic "java/lang/String" "COMPACT_STRINGS" "Z" ∈ lw_tbl := lt_t3 12 (by decide +kernel)
theorem lw_lf : Cond.laysStatic "jdk/internal/util/Preconditions" fmtN "Ljava/util/function/BiFunction;" ∈ lw_tbl := lt_t3 28 (by decide +kernel)
theorem lw_lu : Cond.laysStatic Bundle.tN "UNASSIGNED_STACK" Bundle.steD ∈ lw_tbl := lt_t6 60 (by decide +kernel)
theorem lw_ls : Cond.laysStatic Bundle.tN "SUPPRESSED_SENTINEL" Bundle.listD ∈ lw_tbl := lt_t6 62 (by decide +kernel)
theorem lw_ic : Cond.initialized "java/lang/String" ∈ lw_tbl := lt_t1 14 (by decide +kernel)
theorem lw_if : Cond.initialized "jdk/internal/util/Preconditions" ∈ lw_tbl := lt_t1 16 (by decide +kernel)
theorem lw_it : Cond.initialized Bundle.tN ∈ lw_tbl := lt_t1 20 (by decide +kernel)
theorem lw_dcl : ∀ y ∈ dcl, Cond.declares y ∈ lw_tbl := List.forall_mem_cons.mpr ⟨lt_t6 37 (by decide +kernel), List.forall_mem_cons.mpr ⟨lt_t6 39 (by decide +kernel), List.forall_mem_cons.mpr ⟨lt_t6 41 (by decide +kernel), (fun _ h => absurd h List.not_mem_nil)⟩⟩⟩
theorem lw_nest : ∀ w ∈ nestL, w ∈ lw_tbl := List.forall_mem_cons.mpr ⟨lt_t1 34 (by decide +kernel), List.forall_mem_cons.mpr ⟨lt_t1 158 (by decide +kernel), List.forall_mem_cons.mpr ⟨lt_t1 186 (by decide +kernel), List.forall_mem_cons.mpr ⟨lt_t1 210 (by decide +kernel), (fun _ h => absurd h List.not_mem_nil)⟩⟩⟩⟩
theorem lw_over : Cond.arrayOver (.array .int) ∈ lw_tbl := lt_t2 33 (by decide +kernel)
theorem ls_c8 : Cond.classLink RL 8 RX10 ∈ tb := tb_t1 24 (by decide +kernel) (by decide +kernel)
theorem ls_c16 : Cond.classLink RL 16 RX11 ∈ tb := tb_t6 98 (by decide +kernel) (by decide +kernel)
theorem ls_n10 : Cond.instantiable RX10 14 ∈ tb := tb_t1 25 (by decide +kernel) (by decide +kernel)
theorem ls_n11 : Cond.instantiable RX11 43 ∈ tb := tb_t6 99 (by decide +kernel) (by decide +kernel)
theorem ls_i10 : Cond.initialized RX10 ∈ tb := tb_t1 1 (by decide +kernel) (by decide +kernel)
theorem ls_i11 : Cond.initialized RX11 ∈ tb := tb_t1 12 (by decide +kernel) (by decide +kernel)
theorem ls_m15 : Cond.methodLink RL 15 m_X10_init.1 ∈ tb := tb_t1 26 (by decide +kernel) (by decide +kernel)
theorem ls_m18 : Cond.methodLink RL 18 m_X11_init.1 ∈ tb := tb_t6 100 (by decide +kernel) (by decide +kernel)
