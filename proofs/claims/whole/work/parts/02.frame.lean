/-! ===== The flat machine: memory as cell, place -> number; a method's run as a predicate over locals, stack, memory ===== -/
def tb : List Cond := lw_tbl.filter goodWord
theorem tb_in {w : Cond} (i : Nat) (h : lw_tbl[i]? = some w) (hg : goodWord w = true) : w ∈ tb := List.mem_filter.mpr ⟨List.mem_of_getElem? h, hg⟩
theorem tb_good {ws : List Cond} (h : ∀ w ∈ ws, w ∈ tb) : GoodIn tb ws := fun w hw => ⟨h w hw, good_of_word (List.mem_filter.mp (h w hw)).2⟩
abbrev Mem : Type := (Nat → Nat → Int32) × (Nat → Nat → Int64)
def wI (w : Mem) (k i : Nat) (v : Int32) : Mem := (fun a b => if a = k ∧ b = i then v else w.1 a b, w.2)
def wL (w : Mem) (k i : Nat) (v : Int64) : Mem := (w.1, fun a b => if a = k ∧ b = i then v else w.2 a b)
def cpI (w : Mem) (k sp k' dp n : Nat) : Mem := (fun a b => if a = k' ∧ dp ≤ b ∧ b < dp + n then w.1 k (sp + (b - dp)) else w.1 a b, w.2)
def cpL (w : Mem) (k sp k' dp n : Nat) : Mem := (w.1, fun a b => if a = k' ∧ dp ≤ b ∧ b < dp + n then w.2 k (sp + (b - dp)) else w.2 a b)
/-- a cell's shape: an array (0 int, 1 byte, 2 long, 3 rows of int) and its length; or an object: its class, its fields' kinds (0 int, 1 long, k + 2 the cell k) -/
abbrev Shp : Type := (Nat × Nat) ⊕ (Nat × List Nat)
def SH : List Shp := [.inr (10, [3, 0, 4, 18, 20, 22, 24, 47, 55, 57, 58, 0, 0, 0]), .inl (1, 900), .inr (9, [5, 6, 7, 8, 9, 10, 11, 12, 13, 14, 15, 16, 17]), .inl (0, 11), .inl (0, 4), .inl (0, 4), .inl (0, 4), .inl (0, 4), .inl (0, 4), .inl (0, 5), .inl (0, 5), .inl (0, 6), .inl (0, 4), .inl (0, 5), .inl (0, 5), .inl (0, 5), .inr (4, [4, 19, 0, 0, 0, 0]), .inl (0, 4), .inr (4, [4, 21, 0, 0, 0, 0]), .inl (0, 4), .inr (7, [23, 0, 0, 0]), .inl (0, 4), .inr (6, [46, 25, 30, 44, 0]), .inr (3, [26, 27, 28, 29, 0]), .inl (0, 13), .inl (0, 13), .inl (0, 13), .inl (0, 13), .inr (9, [31, 32, 33, 34, 35, 36, 37, 38, 39, 40, 41, 42, 43]), .inl (0, 11), .inl (0, 4), .inl (0, 4), .inl (0, 4), .inl (0, 4), .inl (0, 4), .inl (0, 5), .inl (0, 5), .inl (0, 6), .inl (0, 4), .inl (0, 5), .inl (0, 5), .inl (0, 5), .inr (4, [30, 45, 0, 0, 0, 0]), .inl (0, 4), .inr (8, [3, 0, 0, 0, 0, 0, 0]), .inr (2, [4, 18, 20, 22, 48, 53, 54, 0, 0, 0, 1]), .inl (3, 4), .inl (0, 32), .inl (0, 32), .inl (0, 32), .inl (0, 32), .inl (0, 5), .inl (0, 5), .inr (0, [18, 20, 56, 0]), .inl (0, 16), .inr (5, [4, 18, 20, 22, 1, 1, 0]), .inr (1, [18, 59, 60, 0, 0]), .inl (2, 16), .inl (2, 3), .inr (11, [0, 62, 0, 0, 0, 0, 0, 0, 0, 0, 0, 0, 63, 0, 0, 64, 65, 66, 67, 68, 0, 0, 0, 69, 70, 0, 71, 72, 0, 0, 0, 0, 73, 0, 0, 0, 1, 1, 1, 1, 74, 0, 0]), .inl (0, 900), .inl (0, 8), .inl (0, 191), .inl (0, 191), .inl (0, 8), .inl (0, 128), .inl (0, 24), .inl (0, 4), .inl (0, 4), .inl (0, 8), .inl (0, 5), .inl (0, 4), .inl (0, 4), .inl (2, 1)]
def NC : Nat := 74
def shp (k : Nat) : Option Shp := SH[k]?
/-- D, addresses, array classes, where new cells begin, the formatter, the script's length and contents -/
abbrev Gl : Type := va_G × (Nat → Nat) × (Nat → ClassId) × Nat × Value × Nat × (Nat → Int32)
/-- a method: its name, code, locals, answer's type, the number of its class; what it asks of the start (the law alone: its script); where it throws, and when (led alone) -/
abbrev MD : Type := MethodName × ByteArray × Nat × Option FieldType × Nat × (Gl → Prop) × Option (Nat × (Mem → Prop))
def gD (G : Gl) : va_G := G.1
def gad (G : Gl) : Nat → Nat := G.2.1
def gtC (G : Gl) : Nat → ClassId := G.2.2.1
def gb (G : Gl) : Nat := G.2.2.2.1
def gfv (G : Gl) : Value := G.2.2.2.2.1
def gL (G : Gl) : Nat := G.2.2.2.2.2.1
def gxs (G : Gl) : Nat → Int32 := G.2.2.2.2.2.2
def gA (G : Gl) : Nat → Prop := fun q => gb G ≤ q
def cz (G : Gl) : Value → Value
  | .ref k => if k = 3000 then gfv G else .ref (gad G k)
  | v => v
def fval (G : Gl) (w : Mem) (k i : Nat) : Nat → Value
  | 0 => .int (w.1 k i)
  | 1 => .long (w.2 k i)
  | j + 2 => .ref (gad G j)
def wcell (G : Gl) (w : Mem) (k : Nat) : Nat × va_E := (gad G k, match shp k with
  | some (.inl (0, n)) => .inl (gtC G k, n, .inl (w.1 k))
  | some (.inl (1, n)) => .inl (gtC G k, n, .inl (w.1 k))
  | some (.inl (2, n)) => .inl (gtC G k, n, .inr (.inl (w.2 k)))
  | some (.inl (_, n)) => .inl (gtC G k, n, .inr (.inr (.inr (.inr (fun i => if i < n then some (gad G (k + 1 + i)) else none)))))
  | some (.inr (ci, fks)) => .inr (ci, fks.mapIdx fun i fk => fval G w k i fk)
  | none => .inl (0, 0, .inl fun _ => 0))
def world (G : Gl) (w : Mem) : va_W := (List.range NC).map (wcell G w)
theorem shp_lt {k : Nat} {x : Shp} (h : shp k = some x) : k < NC := by
  have := (List.getElem?_eq_some_iff.mp h).1
  exact this
theorem world_at (G : Gl) (w : Mem) {k : Nat} (h : k < NC) : (world G w)[k]? = some (wcell G w k) := by
  simp [world, h]
theorem world_set {G : Gl} {w w' : Mem} {k : Nat} (h : ∀ j, j ≠ k → wcell G w' j = wcell G w j) : (world G w).set k (wcell G w' k) = world G w' := by
  apply List.ext_getElem?
  intro i
  by_cases hi : i = k
  · subst hi
    by_cases hl : i < NC
    · rw [List.getElem?_set_self (by simpa [world] using hl), world_at G w' hl]
    · rw [List.getElem?_eq_none (by simpa [world] using hl), List.getElem?_eq_none (by simpa [world] using hl)]
  · rw [List.getElem?_set_ne (Ne.symm hi)]
    by_cases hl : i < NC
    · rw [world_at G w hl, world_at G w' hl, h i hi]
    · rw [List.getElem?_eq_none (by simpa [world] using hl), List.getElem?_eq_none (by simpa [world] using hl)]
theorem wcell_0 {G : Gl} {w : Mem} {k n : Nat} (h : shp k = some (.inl (0, n))) : wcell G w k = (gad G k, .inl (gtC G k, n, .inl (w.1 k))) := by simp [wcell, h]
theorem wcell_1 {G : Gl} {w : Mem} {k n : Nat} (h : shp k = some (.inl (1, n))) : wcell G w k = (gad G k, .inl (gtC G k, n, .inl (w.1 k))) := by simp [wcell, h]
theorem wcell_2 {G : Gl} {w : Mem} {k n : Nat} (h : shp k = some (.inl (2, n))) : wcell G w k = (gad G k, .inl (gtC G k, n, .inr (.inl (w.2 k)))) := by simp [wcell, h]
theorem wcell_3 {G : Gl} {w : Mem} {k n : Nat} (h : shp k = some (.inl (3, n))) : wcell G w k = (gad G k, .inl (gtC G k, n, .inr (.inr (.inr (.inr (fun i => if i < n then some (gad G (k + 1 + i)) else none)))))) := by simp [wcell, h]
theorem wcell_o {G : Gl} {w : Mem} {k ci : Nat} {fks : List Nat} (h : shp k = some (.inr (ci, fks))) : wcell G w k = (gad G k, .inr (ci, fks.mapIdx fun i fk => fval G w k i fk)) := by simp [wcell, h]
theorem wcell_same {G : Gl} {w w' : Mem} {j : Nat} (h1 : w'.1 j = w.1 j) (h2 : w'.2 j = w.2 j) : wcell G w' j = wcell G w j := by
  have e : ∀ i fk, fval G w' j i fk = fval G w j i fk := by
    intro i fk
    match fk with
    | 0 => simp [fval, h1]
    | 1 => simp [fval, h2]
    | k + 2 => rfl
  unfold wcell
  rw [h1, h2]
  have e2 : (fun (i fk : Nat) => fval G w' j i fk) = fun i fk => fval G w j i fk := by funext i fk; exact e i fk
  rw [e2]
theorem wI_ne {w : Mem} {k i : Nat} {v : Int32} {j : Nat} (h : j ≠ k) : (wI w k i v).1 j = w.1 j := by
  funext b
  simp [wI, h]
theorem wI_at {w : Mem} {k i : Nat} {v : Int32} : (wI w k i v).1 k = upd (w.1 k) i v := by
  funext b
  simp [wI, upd]
theorem wL_ne {w : Mem} {k i : Nat} {v : Int64} {j : Nat} (h : j ≠ k) : (wL w k i v).2 j = w.2 j := by
  funext b
  simp [wL, h]
theorem wL_at {w : Mem} {k i : Nat} {v : Int64} : (wL w k i v).2 k = vp_updL (w.2 k) i v := by
  funext b
  simp [wL, vp_updL]
theorem wI_world {G : Gl} {w : Mem} {k i : Nat} {v : Int32} : (world G w).set k (wcell G (wI w k i v) k) = world G (wI w k i v) := world_set fun j hj => wcell_same (wI_ne hj) rfl
theorem wL_world {G : Gl} {w : Mem} {k i : Nat} {v : Int64} : (world G w).set k (wcell G (wL w k i v) k) = world G (wL w k i v) := world_set fun j hj => wcell_same rfl (wL_ne hj)
theorem cpI_world {G : Gl} {w : Mem} {k sp k' dp n : Nat} : (world G w).set k' (wcell G (cpI w k sp k' dp n) k') = world G (cpI w k sp k' dp n) := world_set fun j hj => wcell_same (by funext b; simp [cpI, hj]) rfl
theorem cpL_world {G : Gl} {w : Mem} {k sp k' dp n : Nat} : (world G w).set k' (wcell G (cpL w k sp k' dp n) k') = world G (cpL w k sp k' dp n) := world_set fun j hj => wcell_same rfl (by funext b; simp [cpL, hj])
theorem putI_fs {G : Gl} {w : Mem} {k f : Nat} {fks : List Nat} {v : Int32} (hf : fks[f]? = some 0) : (fks.mapIdx fun i fk => fval G w k i fk).set f (.int v) = fks.mapIdx fun i fk => fval G (wI w k f v) k i fk := by
  apply List.ext_getElem?
  intro i
  by_cases hi : i = f
  · subst hi
    have hl := (List.getElem?_eq_some_iff.mp hf).1
    rw [List.getElem?_set_self (by simpa using hl), List.getElem?_mapIdx, hf]
    simp [fval, wI]
  · rw [List.getElem?_set_ne (Ne.symm hi), List.getElem?_mapIdx, List.getElem?_mapIdx]
    cases hx : fks[i]? with
    | none => rfl
    | some fk =>
      match fk with
      | 0 => simp [fval, wI, hi]
      | 1 => simp [fval, wI]
      | j + 2 => simp [fval]
theorem putL_fs {G : Gl} {w : Mem} {k f : Nat} {fks : List Nat} {v : Int64} (hf : fks[f]? = some 1) : (fks.mapIdx fun i fk => fval G w k i fk).set f (.long v) = fks.mapIdx fun i fk => fval G (wL w k f v) k i fk := by
  apply List.ext_getElem?
  intro i
  by_cases hi : i = f
  · subst hi
    have hl := (List.getElem?_eq_some_iff.mp hf).1
    rw [List.getElem?_set_self (by simpa using hl), List.getElem?_mapIdx, hf]
    simp [fval, wL]
  · rw [List.getElem?_set_ne (Ne.symm hi), List.getElem?_mapIdx, List.getElem?_mapIdx]
    cases hx : fks[i]? with
    | none => rfl
    | some fk =>
      match fk with
      | 0 => simp [fval, wL]
      | 1 => simp [fval, wL, hi]
      | j + 2 => simp [fval]
def tyA : Nat → FieldType
  | 0 => .int
  | 1 => .byte
  | 2 => .long
  | _ => .array .int
/-- the text constants: of each the bytes -/
def sbytL : List (List Int32) := [[114, 101, 103, 97, 116, 116, 97], [97, 98, 111, 97, 114, 100], [98, 101, 110, 100], [104, 111, 117, 115, 101], [108, 111, 100, 103, 101, 114], [102, 114, 105, 101, 110, 100], [112, 114, 105, 122, 101], [115, 97, 119], [119, 97, 116, 101, 114], [98, 114, 105, 100, 103, 101], [115, 116, 111, 114, 101, 121], [114, 97, 105, 110], [98, 121], [108, 111, 110, 103], [114, 105, 103, 104, 116], [108, 101, 102, 116], [116, 101, 114, 114, 97, 99, 101], [118, 105, 108, 108, 97], [112, 117, 98], [99, 111, 116, 116, 97, 103, 101], [116, 105, 108, 101, 115], [115, 116, 111, 114, 101, 121, 115], [119, 101, 105, 103, 104, 115], [114, 111, 119, 115], [110, 111, 32, 115, 117, 99, 104, 32, 108, 111, 100, 103, 101, 114, 32, 105, 115, 32, 97, 115, 104, 111, 114, 101]]
def sbyt (i : Nat) : List Int32 := sbytL.getD i []
def NS : Nat := 25
def STR : List (String × Nat × String × Nat) := [("RoofRegatta$Reade\x72", 110, "regatta", 0), ("RoofRegatta$Reade\x72", 116, "aboard", 1), ("RoofRegatta$Reade\x72", 118, "bend", 2), ("RoofRegatta$Reade\x72", 120, "house", 3), ("RoofRegatta$Reade\x72", 122, "lodge\x72", 4), ("RoofRegatta$Reade\x72", 124, "friend", 5), ("RoofRegatta$Reade\x72", 126, "prize", 6), ("RoofRegatta$Reade\x72", 128, "saw", 7), ("RoofRegatta$Reade\x72", 133, "wate\x72", 8), ("RoofRegatta$Reade\x72", 143, "bridge", 9), ("RoofRegatta$Reade\x72", 145, "storey", 10), ("RoofRegatta$Reade\x72", 147, "rain", 11), ("RoofRegatta$Reade\x72", 149, "by", 12), ("RoofRegatta$Reade\x72", 156, "long", 13), ("RoofRegatta$Reade\x72", 227, "right", 14), ("RoofRegatta$Reade\x72", 229, "left", 15), ("RoofRegatta$Reade\x72", 231, "terrace", 16), ("RoofRegatta$Reade\x72", 233, "villa", 17), ("RoofRegatta$Reade\x72", 235, "pub", 18), ("RoofRegatta$Reade\x72", 237, "cottage", 19), ("RoofRegatta$Reade\x72", 170, "tiles", 20), ("RoofRegatta$Reade\x72", 172, "storeys", 21), ("RoofRegatta$Reade\x72", 185, "weighs", 22), ("RoofRegatta$Reade\x72", 187, "rows", 23), ("RoofRegatta", 368, "no such lodger is ashore", 24), ("RoofRegattaModel", 122, "regatta", 0), ("RoofRegattaModel", 213, "wate\x72", 8), ("RoofRegattaModel", 219, "bridge", 9), ("RoofRegattaModel", 221, "storey", 10), ("RoofRegattaModel", 223, "rain", 11), ("RoofRegattaModel", 225, "by", 12), ("RoofRegattaModel", 124, "bend", 2), ("RoofRegattaModel", 126, "house", 3), ("RoofRegattaModel", 128, "lodge\x72", 4), ("RoofRegattaModel", 130, "aboard", 1), ("RoofRegattaModel", 132, "friend", 5), ("RoofRegattaModel", 134, "prize", 6), ("RoofRegattaModel", 136, "saw", 7), ("RoofRegattaModel", 231, "long", 13), ("RoofRegattaModel", 159, "left", 15), ("RoofRegattaModel", 161, "right", 14), ("RoofRegattaModel", 236, "cottage", 19), ("RoofRegattaModel", 238, "terrace", 16), ("RoofRegattaModel", 240, "villa", 17), ("RoofRegattaModel", 242, "pub", 18), ("RoofRegattaModel", 244, "tiles", 20), ("RoofRegattaModel", 246, "storeys", 21), ("RoofRegattaModel", 248, "weighs", 22), ("RoofRegattaModel", 250, "rows", 23)]
def strU (G : Gl) (U : State) (H : Heap) : Prop := ∀ i : Nat, i < NS → va_O "java/lang/String" (gad G (1000 + i)) (gA G) U H ∧ va_OF "java/lang/String" "code\x72" "B" (.int 0) (gad G (1000 + i)) (gA G) U H ∧ va_OF "java/lang/String" "value" "[B" (.ref (gad G (2000 + i))) (gad G (1000 + i)) (gA G) U H ∧ va_T .byte (gad G (2000 + i)) (sbyt i).length (fun j => .int ((sbyt i).getD j 0)) (gA G) U H
def fmtN : String := "SIOOBE_FORMATTER"
def dcl : List MethodName := [Bundle.initS "java/lang/RuntimeException", Bundle.initS "java/lang/Exception", Bundle.initS Bundle.tN]
theorem dcl_go {u U : State} (hvm : u.vm.Alike U.vm) (h : ∀ y ∈ dcl, va_Nw (.declares y) u) : ∀ y ∈ dcl, va_Nw (.declares y) U := fun y hy => va_tabs rfl (rfl : (u.setVm U.vm).vm = U.vm) (by rw [Cond.declares_setVm hvm]; exact h y hy)
/-- what stands beside the world: classes, array classes, texts, statics, the script; none of it is ever written -/
def SU (G : Gl) (U : State) (H : Heap) : Prop :=
  va_K (gD G) vwCl [] U ∧ (∀ k t n, shp k = some (.inl (t, n)) → va_K (gD G) vwCl [(gtC G k, tyA t)] U) ∧
  strU G U H ∧ (∀ q ∈ STR, vk_R q.1 q.2.1 q.2.2.1 (gad G (1000 + q.2.2.2)) U) ∧
  va_Z "java/lang/String" "COMPACT_STRINGS" "Z" (.int 1) (gA G) U H ∧ va_Z "jdk/internal/util/Preconditions" fmtN "Ljava/util/function/BiFunction;" (gfv G) (gA G) U H ∧
  (va_X (gad G 999) (gL G) (gxs G) U H ∧ gad G 999 < H.size ∧ ¬ gA G (gad G 999)) ∧
  (vx_Zq Bundle.tN "UNASSIGNED_STACK" Bundle.steD (gA G) U H ∧ vx_Zq Bundle.tN "SUPPRESSED_SENTINEL" Bundle.listD (gA G) U H ∧ ∀ y ∈ dcl, va_Nw (.declares y) U) ∧
  (gfv G = .null ∨ ∃ a, gfv G = .ref a) ∧ (∀ i j, i < NC → j < NC → gad G i = gad G j → i = j) ∧ ∀ k, k < NC → gb G ≤ gad G k
theorem SU.wd {G : Gl} {U : State} {H : Heap} (h : SU G U H) (w : Mem) : va_D (gA G) (world G w) := by
  obtain ⟨-, -, -, -, -, -, -, -, -, h1, h2⟩ := h
  have key : ∀ (k : Nat) (q : Nat × va_E), (world G w)[k]? = some q → k < NC ∧ q.1 = gad G k := by
    intro k q hq
    have hk : k < NC := by
      have := (List.getElem?_eq_some_iff.mp hq).1
      simpa [world] using this
    rw [world_at G w hk] at hq
    cases hq
    exact ⟨hk, rfl⟩
  refine ⟨fun i j x y hi hj hxy => ?_, fun k q hq => ?_⟩
  · obtain ⟨a1, a2⟩ := key i x hi
    obtain ⟨b1, b2⟩ := key j y hj
    exact h1 i j a1 b1 (by rw [← a2, ← b2]; exact hxy)
  · obtain ⟨a1, a2⟩ := key k q hq
    show gb G ≤ q.1
    rw [a2]; exact h2 k a1
theorem strU.moved {G : Gl} {u U : State} {H : Heap} (hvm : u.vm.Alike U.vm) (h : strU G u H) : strU G U H := fun i hi => ⟨va_O.moved hvm (h i hi).1, va_OF.moved hvm (h i hi).2.1, va_OF.moved hvm (h i hi).2.2.1, va_T.moved hvm (h i hi).2.2.2⟩
theorem strU.kept {G : Gl} {U : State} {H H1 : Heap} (hq : ∀ a : Nat, a < H.size → ¬ gA G a → H1[a]? = H[a]?) (h : strU G U H) : strU G U H1 := fun i hi => ⟨(h i hi).1.kept hq, (h i hi).2.1.kept hq, (h i hi).2.2.1.kept hq, (h i hi).2.2.2.kept hq⟩
theorem SU.go {G : Gl} {u U : State} {H : Heap} (hvm : u.vm.Alike U.vm) (hR : ∀ own k tx a, vk_R own k tx a u → vk_R own k tx a U) (h : SU G u H) : SU G U H := by
  obtain ⟨h1, h2, h3, h4, h5, h6, ⟨h7, h7a, h7b⟩, ⟨h8, h9, h9d⟩, h10⟩ := h
  exact ⟨va_K.moved hvm h1, fun k t n hk => va_K.moved hvm (h2 k t n hk), h3.moved hvm, fun q hq => hR _ _ _ _ (h4 q hq), va_Z.moved hvm h5, va_Z.moved hvm h6, ⟨va_X.moved hvm h7, h7a, h7b⟩, ⟨vx_Zq.moved hvm h8, vx_Zq.moved hvm h9, dcl_go hvm h9d⟩, h10⟩
theorem SU.warm {G : Gl} {u U : State} {H : Heap} (hW : u.WarmedH U.vm) (h : SU G u H) : SU G U H := h.go hW.alike fun _ _ _ _ q => q.warm hW
theorem SU.same {G : Gl} {u U : State} {H : Heap} (hv : U.vm = u.vm) (h : SU G u H) : SU G U H := h.go (by rw [hv]; exact Vm.Alike.refl _) fun _ _ _ _ q => q.same hv
theorem SU.kept {G : Gl} {U : State} {H H1 : Heap} (hz : H.size ≤ H1.size) (hq : ∀ a : Nat, a < H.size → ¬ gA G a → H1[a]? = H[a]?) (h : SU G U H) : SU G U H1 := by
  obtain ⟨h1, h2, h3, h4, h5, h6, ⟨h7, h7a, h7b⟩, ⟨h8, h9, h9d⟩, h10⟩ := h
  exact ⟨h1, h2, h3.kept hq, h4, h5.kept hq, h6.kept hq, ⟨h7.kept (hq _ h7a h7b), Nat.lt_of_lt_of_le h7a hz, h7b⟩, ⟨vx_Zq.kept h8 hq, vx_Zq.kept h9 hq, h9d⟩, h10⟩
/-! locals -/
def LR (G : Gl) (lsr : Array Slot) (n : Nat) (ls : List Value) : Prop := lsr.size = n ∧ lv_wf lsr ∧ ∀ (i : Nat) (v : Value), ls[i]? = some v → v ≠ .null → lsr[i]? = some (.val (cz G v))
def clr (ls : List Value) : Nat → List Value
  | 0 => ls
  | j + 1 => match ls[j]? with
    | some (.long _) => ls.set j .null
    | some (.double _) => ls.set j .null
    | _ => ls
def st1 (ls : List Value) (i : Nat) (v : Value) : List Value := (clr ls i).set i v
def st2 (ls : List Value) (i : Nat) (v : Value) : List Value := ((clr ls i).set i v).set (i + 1) .null
def lvl (G : Gl) (ls : List Value) : List (Nat × Value) := (List.range ls.length).filterMap fun i => match (ls[i]? : Option Value) with
  | some .null => none
  | some v => some (i, cz G v)
  | none => none
theorem lvl_mem {G : Gl} {ls : List Value} {i : Nat} {v : Value} (h : ls[i]? = some v) (hn : v ≠ .null) : (i, cz G v) ∈ lvl G ls := by
  refine List.mem_filterMap.mpr ⟨i, List.mem_range.mpr (List.getElem?_eq_some_iff.mp h).1, ?_⟩
  rw [h]
  cases v <;> first | rfl | exact absurd rfl hn
theorem LR.has {G : Gl} {lsr : Array Slot} {n : Nat} {ls : List Value} (h : LR G lsr n ls) : lv_has lsr n (lvl G ls) := by
  refine ⟨h.1, h.2.1, fun q hq => ?_⟩
  obtain ⟨i, hi, hm⟩ := List.mem_filterMap.mp hq
  cases hx : ls[i]? with
  | none => rw [hx] at hm; cases hm
  | some v =>
    rw [hx] at hm
    have hv : v ≠ .null := by intro e; subst e; cases hm
    have he : q = (i, cz G v) := by cases v <;> first | (cases hm; rfl) | exact absurd rfl hv
    rw [he]
    exact h.2.2 i v hx hv
theorem clr_at {ls : List Value} {i j : Nat} {v : Value} (h : (clr ls i)[j]? = some v) (hn : v ≠ .null) : ls[j]? = some v ∧ ¬ (j + 1 = i ∧ v.category = 2) := by
  cases i with
  | zero => exact ⟨h, fun q => by omega⟩
  | succ a =>
    by_cases hj : j = a
    · subst hj
      simp only [clr] at h
      split at h
      · rw [List.getElem?_set] at h
        simp at h
        exact absurd h.2.symm hn
      · rw [List.getElem?_set] at h
        simp at h
        exact absurd h.2.symm hn
      · next h1 h2 =>
        refine ⟨h, fun q => ?_⟩
        cases v with
        | long x => exact h1 x h
        | double x => exact h2 x h
        | _ => exact absurd q.2 (by simp [Value.category])
    · have e : (clr ls (a + 1))[j]? = ls[j]? := by
        simp only [clr]
        split
        · rw [List.getElem?_set_ne (Ne.symm hj)]
        · rw [List.getElem?_set_ne (Ne.symm hj)]
        · rfl
      rw [e] at h
      exact ⟨h, fun q => by omega⟩
theorem cz_cat {G : Gl} {U : State} {H : Heap} (h : SU G U H) (v : Value) : (cz G v).category = v.category := by
  cases v with
  | ref k =>
    simp only [cz]
    split
    · rcases h.2.2.2.2.2.2.2.2.1 with e | ⟨a, e⟩ <;> rw [e] <;> rfl
    · rfl
  | _ => rfl
theorem LR_st1 {G : Gl} {U : State} {H : Heap} (hU : SU G U H) {ls' : Array Slot} {n i : Nat} {ls : List Value} {v : Value} (h : lv_has ls' n ((i, cz G v) :: (lvl G ls).filter (fun q => !(q.1 == i) && !(q.1 + 1 == i && q.2.category == 2)))) : LR G ls' n (st1 ls i v) := by
  refine ⟨h.1, h.2.1, fun j u hj hu => ?_⟩
  by_cases e : j = i
  · subst e
    have : u = v := by
      unfold st1 at hj
      rw [List.getElem?_set] at hj
      simp at hj
      exact hj.2.symm
    subst this
    exact h.2.2 _ List.mem_cons_self
  · unfold st1 at hj
    rw [List.getElem?_set_ne (Ne.symm e)] at hj
    obtain ⟨h1, h2⟩ := clr_at hj hu
    refine h.2.2 (j, cz G u) (List.mem_cons_of_mem _ (List.mem_filter.mpr ⟨lvl_mem h1 hu, ?_⟩))
    have h3 : ¬ (j + 1 = i ∧ (cz G u).category = 2) := by rw [cz_cat hU]; exact h2
    simp only [Bool.and_eq_true, Bool.not_eq_true', beq_eq_false_iff_ne, ne_eq, Bool.and_eq_false_iff]
    refine ⟨e, ?_⟩
    by_cases q : j + 1 = i
    · exact Or.inr fun z => h3 ⟨q, z⟩
    · exact Or.inl q
theorem LR_st2 {G : Gl} {U : State} {H : Heap} (hU : SU G U H) {ls' : Array Slot} {n i : Nat} {ls : List Value} {v : Value} (h : lv_has ls' n ((i, cz G v) :: (lvl G ls).filter (fun q => !(q.1 == i) && (!(q.1 == i + 1) && !(q.1 + 1 == i && q.2.category == 2))))) : LR G ls' n (st2 ls i v) := by
  refine ⟨h.1, h.2.1, fun j u hj hu => ?_⟩
  have e2 : j ≠ i + 1 := by
    intro z
    subst z
    unfold st2 at hj
    rw [List.getElem?_set] at hj
    simp at hj
    exact hu hj.2.symm
  unfold st2 at hj
  rw [List.getElem?_set_ne (Ne.symm e2)] at hj
  by_cases e : j = i
  · subst e
    have : u = v := by
      rw [List.getElem?_set] at hj
      simp at hj
      exact hj.2.symm
    subst this
    exact h.2.2 _ List.mem_cons_self
  · rw [List.getElem?_set_ne (Ne.symm e)] at hj
    obtain ⟨h1, h2⟩ := clr_at hj hu
    refine h.2.2 (j, cz G u) (List.mem_cons_of_mem _ (List.mem_filter.mpr ⟨lvl_mem h1 hu, ?_⟩))
    have h3 : ¬ (j + 1 = i ∧ (cz G u).category = 2) := by rw [cz_cat hU]; exact h2
    simp only [Bool.and_eq_true, Bool.not_eq_true', beq_eq_false_iff_ne, ne_eq, Bool.and_eq_false_iff]
    refine ⟨e, e2, ?_⟩
    by_cases q : j + 1 = i
    · exact Or.inr fun z => h3 ⟨q, z⟩
    · exact Or.inl q
/-! the judgement -/
def rdec (M : MD) (v : Option Value) (pc : Nat) : Prop := match v with
  | none => decode M.2.1 pc = .ok (.return_, 1) ∧ M.2.2.2.1 = none
  | some (.int x) => decode M.2.1 pc = .ok (.ireturn, 1) ∧ ∃ ty, M.2.2.2.1 = some ty ∧ narrow ty (.int x) = .int x
  | some (.long _) => decode M.2.1 pc = .ok (.lreturn, 1) ∧ M.2.2.2.1 = some .long
  | _ => False
def Cx (G : Gl) (M : MD) (d : Nat) (Q : Option Value → Mem → Prop) (p : Program) (l : Launch) (e : Env) (R : Room) (s : State) (m : MethodId) (args : Array Value) (below : List Frame) (meth : Method) (c : Code) (QQ : State → Prop) (mcF msF : Nat) : Prop :=
  p.tables.exec = Jvm.exec ∧ c.code = M.2.1 ∧ c.maxLocals = M.2.2.1 ∧ s.vm.findClass M.1.cls = some m.cls ∧ (∀ w ∈ tb, w.before args s = true) ∧ (d + 1 ≤ R.frames ∧ 60 * (d + 1) ≤ R.locals ∧ mcF ≤ R.cells ∧ msF ≤ R.slots) ∧ SU G s s.heap ∧ (l.stackTraces = false ∧ M.2.2.2.2.2.1 G ∧ (match M.2.2.2.2.2.2 with
    | none => True
    | some (pc, X) => ∀ (w' : Mem) (lsr : Array Slot) (H : Heap) (locs : List Loc) (cells slots : Nat), X w' → lsr.size = M.2.2.1 → va_P (gD G) vwCl (world G w') H → va_S (gA G) s.heap H locs → cells + 1 ≤ mcF → slots + 6 ≤ msF → W p l e R s m args below meth c H locs cells slots QQ (F0 m pc lsr []))) ∧
  ∀ (v : Option Value) (w' : Mem) (pc : Nat) (lsr : Array Slot) (H : Heap) (locs : List Loc), Q v w' → rdec M v pc → va_P (gD G) vwCl (world G w') H → va_S (gA G) s.heap H locs → W p l e R s m args below meth c H locs mcF msF QQ (F0 m pc lsr (v.toList.map (cz G)))
def Wp (M : MD) (d b : Nat) (Q : Option Value → Mem → Prop) (pc : Nat) (ls st : List Value) (w : Mem) : Prop :=
  ∀ (G : Gl) (p : Program) (l : Launch) (e : Env) (R : Room) (s : State) (m : MethodId) (args : Array Value) (below : List Frame) (meth : Method) (c : Code) (QQ : State → Prop) (mcF msF : Nat),
    Cx G M d Q p l e R s m args below meth c QQ mcF msF →
    ∀ (H : Heap) (locs : List Loc) (cells slots : Nat) (lsr : Array Slot), va_P (gD G) vwCl (world G w) H → va_S (gA G) s.heap H locs → cells + b ≤ mcF → slots + 6 * b ≤ msF → LR G lsr M.2.2.1 ls →
      W p l e R s m args below meth c H locs cells slots QQ (F0 m pc lsr (st.map (cz G)))
abbrev Kn : Type := List Value → List Value → Mem → Prop
def Snd (M : MD) (d b : Nat) (Q : Option Value → Mem → Prop) (pc : Nat) (X : Kn) : Prop := ∀ ls st w, X ls st w → Wp M d b Q pc ls st w
theorem Snd.rf {M : MD} {d b : Nat} {Q : Option Value → Mem → Prop} {pc : Nat} : Snd M d b Q pc (Wp M d b Q pc) := fun _ _ _ h => h
/-- a method's run from its entry, with rm.frames of d and more: the contract -/
def mdw (M : MD) : List Cond := .code M.1 M.2.1 M.2.2.1 M.2.2.2.1 :: tb
def ClP (G : Gl) (as : List Value) (w : Mem) : Array Value → State → Prop := fun v U => v = (as.map (cz G)).toArray ∧ va_P (gD G) vwCl (world G w) U.heap ∧ SU G U U.heap
def ClQ (G : Gl) (Q : Option Value → Mem → Prop) : Array Value → State → Outcome → State → Prop := fun _ st oc t => (∃ (r : Option Value) (w' : Mem), oc = .returned (r.map (cz G)) ∧ Q r w' ∧ va_P (gD G) vwCl (world G w') t.heap) ∧ va_F (gA G) st t
def Cl (d : Nat) (M : MD) (as : List Value) (w : Mem) (Q : Option Value → Mem → Prop) : Prop :=
  ∀ (G : Gl) (l : Launch) (rm : Room), l.stackTraces = false → rm.cells = 0 → rm.slots = 0 → d ≤ rm.frames → 60 * d ≤ rm.locals → Met l M.1 (mdw M) rm (ClP G as w) (ClQ G Q) 0 0 (gA G)
theorem ClP.blind {G : Gl} {as : List Value} {w : Mem} : FrameBlind (ClP G as w) := fun a U g mk h => ⟨h.1, h.2.1, SU.same (u := U) rfl h.2.2⟩
def MOk (M : MD) (n : Nat) : Prop := Cond.code M.1 M.2.1 M.2.2.1 M.2.2.2.1 ∈ tb ∧ Cond.initialized M.1.cls ∈ tb ∧ (M.1.cls ≠ "java/lang/invoke/MethodHandle" ∧ M.1.cls ≠ "java/lang/invoke/VarHandle" ∧ (parseMethodDescriptor M.1.desc).map (fun d => d.parameters.length) = some n) ∧ plainName M.1.cls = true ∧ M.2.2.1 ≤ 41 ∧ (∀ G, M.2.2.2.2.2.1 G) ∧ M.2.2.2.2.2.2 = none
def MOkV (M : MD) (n : Nat) : Prop := MOk M n ∧ Cond.instanceMethod M.1 ∈ tb ∧ Cond.selects M.1.cls M.1 M.1 ∈ tb
def MOkS (M : MD) (n : Nat) : Prop := MOk M n ∧ Cond.static M.1 ∈ tb
theorem mdw_in {M : MD} {n : Nat} (h : MOk M n) : ∀ w ∈ mdw M, w ∈ tb := fun w hw => (List.mem_cons.mp hw).elim (fun e => by rw [e]; exact h.1) (fun h => h)
section Go
variable {p : Program} {l : Launch} {e : Env} {R : Room} {s : State} {m : MethodId} {args : Array Value} {below : List Frame} {meth : Method} {c : Code} {H : Heap} {locs : List Loc} {cells slots : Nat} {QQ : State → Prop} {pc : Nat} {lsr : Array Slot} {rest st0 : List Value} {a : Array Value} {H0 : Heap} {mc ms : Nat}
theorem cl_go {G : Gl} {Q : Option Value → Mem → Prop} (hr : va_Run p l e R s m args below meth c H locs cells slots mc ms (F0 m pc lsr st0) rest (ClQ G Q a) (gA G)) (hS : va_S (gA G) H0 H locs)
    (kk : ∀ (r : Option Value) (w' : Mem) (H1 : Heap) (locs1 : List Loc), Q r w' → va_P (gD G) vwCl (world G w') H1 → va_S (gA G) H0 H1 locs1 → W p l e R s m args below meth c H1 locs1 (cells + mc) (slots + ms) QQ (F0 m (pc + 3) lsr ((r.map (cz G)).toList ++ rest))) : W p l e R s m args below meth c H locs cells slots QQ (F0 m pc lsr st0) := by
  intro T hT X
  obtain ⟨v, st₀, t, T', L, h0, X', hL, e1, e2, ⟨⟨r, w', hv, hq, hp⟩, hz, hk⟩, st⟩ := hr T hT X
  cases hv
  rw [h0] at hz hk
  obtain ⟨t2, a1, b1⟩ := kk r w' T'.heap (locs ++ L) hq (by rw [e1]; exact hp)
    ⟨Nat.le_trans hS.1 (by rw [e1]; exact hz), fun q h1 h2 => by rw [e1, hk q (Nat.lt_of_lt_of_le h1 hS.1) h2]; exact hS.2.1 q h1 h2, fun q hq => by
      rcases List.mem_append.mp hq with h | h
      · exact hS.2.2 q h
      · exact hL q h⟩ T' rfl X'
  exact ⟨t2, st t2 a1, b1⟩
end Go
def catS (st : List Value) : Nat := (st.map fun v => v.category).sum
theorem catS_cz {G : Gl} {U : State} {H : Heap} (h : SU G U H) (st : List Value) : ((st.map (cz G)).map fun v => v.category).sum = catS st := by
  unfold catS
  rw [List.map_map]
  congr 1
  apply List.map_congr_left
  intro v _
  exact cz_cat h v
def rmD (d : Nat) : Room := { frames := d, cells := 0, slots := 0, locals := 60 * d }
/-- a call of a static method -/
theorem wp_callS {M C : MD} {d b n index : Nat} {Q : Option Value → Mem → Prop} {pc : Nat} {ls as rest : List Value} {w : Mem} (hd : decode M.2.1 pc = .ok (.invokestatic index, 3)) (hl : Cond.methodLink M.1.cls index C.1 ∈ tb) (hC : MOkS C n) (hn : as.length = n) (hcat : catS rest ≤ 8)
    (h : Cl d C as w (fun r w' => Wp M d b Q (pc + 3) ls (r.toList ++ rest) w')) : Wp M d b Q pc ls (as.reverse ++ rest) w := by
  intro G p l e R s m args below meth c QQ mcF msF X H locs cells slots lsr hP hS hc hs hL
  obtain ⟨hx, hb, hml, hown, hts, ⟨hR1, hR2, hR3, hR4⟩, hU, ⟨htr, hpg, hthr⟩, hend⟩ := id X
  have hM := h G l (rmD d) htr rfl rfl (Nat.le_refl _) (Nat.le_refl _)
  have cb : CallB R s args M.1.cls index C.1 C.2.1 C.2.2.1 C.2.2.2.1 (mdw C) (rmD d) 0 0 n := callB_of n hts (tb_good (mdw_in hC.1)) rfl rfl rfl (hts _ hC.1.2.1) (hts _ hl) hC.1.2.2.1 ⟨hR1, by have := hC.1.2.2.2.2.1; show 8 + (C.2.2.1 + 11) + 60 * d ≤ _; omega⟩
  have hr := va_runS (e := e) (below := below) (meth := meth) (H := H) (locs := locs) (cells := cells) (slots := slots) (As := as.map (cz G)) (rest := rest.map (cz G)) (g := F0 m pc lsr ((as.reverse ++ rest).map (cz G))) ⟨hx, hb, hml, hown, hts⟩ hM ⟨cb, hts _ hC.2⟩
    ⟨ClP.blind, fun U hUh hW => ⟨rfl, by rw [hUh]; exact hP, by rw [hUh]; exact (hU.kept hS.1 hS.2.1).warm hW⟩⟩ rfl (by simpa using hn) hL.1 (by simp) (by rw [catS_cz hU]; show 2 * 0 + _ ≤ 8; omega) hd ⟨by omega, by omega⟩
  refine cl_go hr hS fun r w' H1 locs1 hq hP1 hS1 => ?_
  have := hq G p l e R s m args below meth c QQ mcF msF X H1 locs1 cells slots lsr hP1 hS1 hc hs hL
  rw [List.map_append] at this
  have e1 : (r.toList).map (cz G) = (r.map (cz G)).toList := by cases r <;> rfl
  rw [e1] at this
  exact this
/-- a call of an instance method on the cell k -/
theorem wp_callV {M C : MD} {d b n index k : Nat} {fks : List Nat} {T : u_T} {N : Nat} {Q : Option Value → Mem → Prop} {pc : Nat} {ls as rest : List Value} {w : Mem} (hd : decode M.2.1 pc = .ok (.invokevirtual index, 3)) (hl : Cond.methodLink M.1.cls index C.1 ∈ tb) (hC : MOkV C n) (hn : as.length = n) (hcat : catS rest ≤ 8) (hk : shp k = some (.inr (C.2.2.2.2.1, fks))) (hcl : vwCl[C.2.2.2.2.1]? = some (C.1.cls, T, N))
    (h : Cl d C (.ref k :: as) w (fun r w' => Wp M d b Q (pc + 3) ls (r.toList ++ rest) w')) : Wp M d b Q pc ls (as.reverse ++ .ref k :: rest) w := by
  intro G p l e R s m args below meth c QQ mcF msF X H locs cells slots lsr hP hS hc hs hL
  obtain ⟨hx, hb, hml, hown, hts, ⟨hR1, hR2, hR3, hR4⟩, hU, ⟨htr, hpg, hthr⟩, hend⟩ := id X
  have hk9 : ¬ k = 3000 := by have := shp_lt hk; intro q; subst q; exact absurd this (by decide)
  have hck : cz G (.ref k) = .ref (gad G k) := by simp [cz, hk9]
  have hM := h G l (rmD d) htr rfl rfl (Nat.le_refl _) (Nat.le_refl _)
  have cb : CallB R s args M.1.cls index C.1 C.2.1 C.2.2.1 C.2.2.2.1 (mdw C) (rmD d) 0 0 n := callB_of n hts (tb_good (mdw_in hC.1)) rfl rfl rfl (hts _ hC.1.2.1) (hts _ hl) hC.1.2.2.1 ⟨hR1, by have := hC.1.2.2.2.2.1; show 8 + (C.2.2.1 + 11) + 60 * d ≤ _; omega⟩
  have hat : (world G w)[k]? = some (gad G k, .inr (C.2.2.2.2.1, fks.mapIdx fun i fk => fval G w k i fk)) := by rw [world_at G w (shp_lt hk), wcell_o hk]
  have hr := va_runV (e := e) (below := below) (meth := meth) (H := H) (locs := locs) (cells := cells) (slots := slots) (C := C.1.cls) (b := gad G k) (As := as.map (cz G)) (rest := rest.map (cz G)) (g := F0 m pc lsr ((as.reverse ++ .ref k :: rest).map (cz G))) ⟨hx, hb, hml, hown, hts⟩ hM ⟨cb, hts _ hC.2.1, hts _ hC.2.2⟩
    ⟨ClP.blind, va_recv hU.1 hP hcl hat, fun U hUh hW => ⟨by rw [List.map_cons, hck], by rw [hUh]; exact hP, by rw [hUh]; exact (hU.kept hS.1 hS.2.1).warm hW⟩⟩ rfl (by simpa using hn) hL.1 (by simp [hck]) (by rw [catS_cz hU]; show 2 * 0 + _ ≤ 8; omega) hd ⟨by omega, by omega⟩
  refine cl_go hr hS fun r w' H1 locs1 hq hP1 hS1 => ?_
  have := hq G p l e R s m args below meth c QQ mcF msF X H1 locs1 cells slots lsr hP1 hS1 hc hs hL
  rw [List.map_append] at this
  have e1 : (r.toList).map (cz G) = (r.map (cz G)).toList := by cases r <;> rfl
  rw [e1] at this
  exact this
/-- a call of an instance method on a text -/
theorem wp_callT {M C : MD} {d b n index i : Nat} {Q : Option Value → Mem → Prop} {pc : Nat} {ls as rest : List Value} {w : Mem} (hd : decode M.2.1 pc = .ok (.invokevirtual index, 3)) (hl : Cond.methodLink M.1.cls index C.1 ∈ tb) (hC : MOkV C n) (hn : as.length = n) (hcat : catS rest ≤ 8) (hi : i < NS) (hcl : C.1.cls = "java/lang/String")
    (h : Cl d C (.ref (1000 + i) :: as) w (fun r w' => Wp M d b Q (pc + 3) ls (r.toList ++ rest) w')) : Wp M d b Q pc ls (as.reverse ++ .ref (1000 + i) :: rest) w := by
  intro G p l e R s m args below meth c QQ mcF msF X H locs cells slots lsr hP hS hc hs hL
  obtain ⟨hx, hb, hml, hown, hts, ⟨hR1, hR2, hR3, hR4⟩, hU, ⟨htr, hpg, hthr⟩, hend⟩ := id X
  have hk9 : ¬ 1000 + i = 3000 := by have : NS ≤ 100 := by decide
                                     omega
  have hck : cz G (.ref (1000 + i)) = .ref (gad G (1000 + i)) := by simp only [cz]; rw [if_neg hk9]
  have hM := h G l (rmD d) htr rfl rfl (Nat.le_refl _) (Nat.le_refl _)
  have cb : CallB R s args M.1.cls index C.1 C.2.1 C.2.2.1 C.2.2.2.1 (mdw C) (rmD d) 0 0 n := callB_of n hts (tb_good (mdw_in hC.1)) rfl rfl rfl (hts _ hC.1.2.1) (hts _ hl) hC.1.2.2.1 ⟨hR1, by have := hC.1.2.2.2.2.1; show 8 + (C.2.2.1 + 11) + 60 * d ≤ _; omega⟩
  obtain ⟨cell, g1, g2, g3, -⟩ := (hU.2.2.1 i hi).1.kept hS.2.1
  have hr := va_runV (e := e) (below := below) (meth := meth) (H := H) (locs := locs) (cells := cells) (slots := slots) (C := C.1.cls) (b := gad G (1000 + i)) (As := as.map (cz G)) (rest := rest.map (cz G)) (g := F0 m pc lsr ((as.reverse ++ .ref (1000 + i) :: rest).map (cz G))) ⟨hx, hb, hml, hown, hts⟩ hM ⟨cb, hts _ hC.2.1, hts _ hC.2.2⟩
    ⟨ClP.blind, ⟨cell, g1, g2, by rw [hcl]; exact g3⟩, fun U hUh hW => ⟨by rw [List.map_cons, hck], by rw [hUh]; exact hP, by rw [hUh]; exact (hU.kept hS.1 hS.2.1).warm hW⟩⟩ rfl (by simpa using hn) hL.1 (by simp [hck]) (by rw [catS_cz hU]; show 2 * 0 + _ ≤ 8; omega) hd ⟨by omega, by omega⟩
  refine cl_go hr hS fun r w' H1 locs1 hq hP1 hS1 => ?_
  have := hq G p l e R s m args below meth c QQ mcF msF X H1 locs1 cells slots lsr hP1 hS1 hc hs hL
  rw [List.map_append] at this
  have e1 : (r.toList).map (cz G) = (r.map (cz G)).toList := by cases r <;> rfl
  rw [e1] at this
  exact this
/-! a contract out of the entry -/
def lay (as : List Value) : List Value := as.flatMap fun v => if v.category = 2 then [v, .null] else [v]
def ent (as : List Value) (n : Nat) : List Value := lay as ++ List.replicate (n - (lay as).length) .null
theorem lay_len {G : Gl} {U : State} {H : Heap} (h : SU G U H) (as : List Value) : (lg_sl (as.map (cz G))).length = (lay as).length := by
  induction as with
  | nil => rfl
  | cons v t ih =>
    simp only [List.map_cons, lg_sl, lay, List.flatMap_cons, List.length_append] at ih ⊢
    rw [ih, cz_cat h]
    by_cases q : v.category = 2 <;> simp [q]
theorem lay_args {G : Gl} {U : State} {H : Heap} (h : SU G U H) : ∀ (as : List Value) (o i : Nat) (v : Value), (lay as)[i]? = some v → v ≠ .null → (o + i, cz G v) ∈ lv_args o (as.map (cz G))
  | [], o, i, v, hi, _ => by simp [lay] at hi
  | a :: t, o, i, v, hi, hv => by
    simp only [List.map_cons, lv_args]
    by_cases q : a.category = 2
    · rw [cz_cat h, if_pos q]
      have e : lay (a :: t) = a :: .null :: lay t := by simp [lay, q]
      rw [e] at hi
      match i, hi with
      | 0, hi => cases hi; exact List.mem_cons_self
      | 1, hi => cases hi; exact absurd rfl hv
      | i + 2, hi =>
        refine List.mem_cons_of_mem _ ?_
        have := lay_args h t (o + 2) i v (by simpa using hi) hv
        rw [show o + (i + 2) = o + 2 + i by omega]
        exact this
    · rw [cz_cat h, if_neg q]
      have e : lay (a :: t) = a :: lay t := by simp [lay, q]
      rw [e] at hi
      match i, hi with
      | 0, hi => cases hi; exact List.mem_cons_self
      | i + 1, hi =>
        refine List.mem_cons_of_mem _ ?_
        have := lay_args h t (o + 1) i v (by simpa using hi) hv
        rw [show o + (i + 1) = o + 1 + i by omega]
        exact this
theorem ent_LR {G : Gl} {U : State} {H : Heap} (h : SU G U H) {as : List Value} {n : Nat} {lsr : Array Slot} (hl : lv_has lsr n (lv_args 0 (as.map (cz G)))) : LR G lsr n (ent as n) := by
  refine ⟨hl.1, hl.2.1, fun i v hi hv => ?_⟩
  have hi2 : (lay as)[i]? = some v := by
    by_cases q : i < (lay as).length
    · unfold ent at hi
      rwa [List.getElem?_append_left q] at hi
    · unfold ent at hi
      rw [List.getElem?_append_right (by omega), List.getElem?_replicate] at hi
      split at hi
      · cases hi; exact absurd rfl hv
      · cases hi
  have := lay_args h as 0 i v hi2 hv
  rw [Nat.zero_add] at this
  exact hl.2.2 _ this
theorem Cl_of {M : MD} {d n : Nat} {as : List Value} {w : Mem} {Q : Option Value → Mem → Prop} (hM : MOk M n) (hlen : (lay as).length ≤ M.2.2.1) (h : Wp M d 0 Q 0 (ent as M.2.2.1) [] w) : Cl (d + 1) M as w Q := by
  intro G l rm htr hrc hrs hrf hrl
  refine Met.ofW (cc := M.2.1) (maxL := M.2.2.1) (ret := M.2.2.2.1) hM.2.2.2.1 rfl ?_
  intro p e s m args below meth c s₁ B hml hv
  obtain ⟨rfl, hP, hU⟩ := hv
  have hts : ∀ w ∈ mdw M, w.before (as.map (cz G)).toArray s = true := atoms_spec (ws := mdw M) B.pre
  have hown : s.vm.findClass M.1.cls = some m.cls := findClass_of_methodNamed B.named
  have hlk : meth.locks = false := B.notSynchronized
  have hret : meth.sig.returnType = M.2.2.2.1 := B.returns
  rw [lg_entry_eq]
  have hl := lv_entry (as.map (cz G)) (n := M.2.2.1) (by rw [lay_len hU]; exact hlen)
  generalize (lg_sl (as.map (cz G)) ++ List.replicate (M.2.2.1 - (lg_sl (as.map (cz G))).length) Slot.unset).toArray = lsr at hl ⊢
  refine h G p l e (headSpec (mdw M) rm).room s m _ below meth c _ 0 0 ⟨B.exec, B.bytes, hml, hown, fun w hw => hts w (List.mem_cons_of_mem _ hw), ⟨hrf, hrl, Nat.zero_le _, Nat.zero_le _⟩, hU, ⟨htr, hM.2.2.2.2.2.1 G, by rw [hM.2.2.2.2.2.2]; trivial⟩, ?_⟩ s.heap [] 0 0 lsr hP va_S.rf (Nat.le_refl _) (Nat.le_refl _) (ent_LR hU hl)
  intro v w' pc ls H locs hq hr hP1 hS1
  have hf : ∀ q ∈ locs, gA G q.base := hS1.2.2
  match v, hr with
  | none, hr => exact W.vret B.exec B.bytes (by rw [hret]; exact hr.2) (fun t ht hW => ⟨⟨none, w', rfl, hq, by rw [ht]; exact hP1⟩, hS1.F ht⟩) hf hr.1 hlk
  | some (.int x), hr =>
    obtain ⟨h1, ty, h2, h3⟩ := hr
    exact W.zret B.exec B.bytes (hret.trans h2) h3 (fun t ht hW => ⟨⟨some (.int x), w', rfl, hq, by rw [ht]; exact hP1⟩, hS1.F ht⟩) hf h1 hlk
  | some (.long x), hr => exact W.lret B.exec B.bytes (by rw [hret]; exact hr.2) (fun t ht hW => ⟨⟨some (.long x), w', rfl, hq, by rw [ht]; exact hP1⟩, hS1.F ht⟩) hf hr.1 hlk
theorem Cl.mono {d d' : Nat} {M : MD} {as : List Value} {w : Mem} {Q : Option Value → Mem → Prop} (h : Cl d M as w Q) (hd : d ≤ d') : Cl d' M as w Q := fun G l rm a1 a2 a3 a4 a5 => h G l rm a1 a2 a3 (Nat.le_trans hd a4) (by omega)
