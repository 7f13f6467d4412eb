/-! ===== what stands beside the world, at the start ===== -/
section Start
variable {args : Array Value} {s : State} {A : Nat → Prop}
theorem str_of (hgv : ∀ w ∈ FC, w.before args s = true) (hA : ∀ a : Nat, a < s.heap.size → ¬ A a) : ∃ adK adV : Nat → Nat, ∀ i, i < 25 → (stm i).eval args s none [] s = some (.ref (adK i)) ∧ va_O "java/lang/String" (adK i) A s s.heap ∧ va_OF "java/lang/String" "code\x72" "B" (.int 0) (adK i) A s s.heap ∧ va_OF "java/lang/String" "value" "[B" (.ref (adV i)) (adK i) A s s.heap ∧ va_T .byte (adV i) (sbyt i).length (fun j => .int ((sbyt i).getD j 0)) A s s.heap := by
  have h0 : ∀ i : Nat, ∃ q : Nat × Nat, i < 25 → (stm i).eval args s none [] s = some (.ref q.1) ∧ va_O "java/lang/String" q.1 A s s.heap ∧ va_OF "java/lang/String" "code\x72" "B" (.int 0) q.1 A s s.heap ∧ va_OF "java/lang/String" "value" "[B" (.ref q.2) q.1 A s s.heap ∧ va_T .byte q.2 (sbyt i).length (fun j => .int ((sbyt i).getD j 0)) A s s.heap := by
    intro i
    by_cases hi : i < 25
    · have hm : ∀ w ∈ wtS i, w.before args s = true := fun w hw => hgv w (wtS_in hi hw)
      have hex : (Cond.exactly (stm i) "java/lang/String").before args s = true := hm _ List.mem_cons_self
      obtain ⟨a, c, cA, kA, q1, q2, q3, q4, q5, q6, -⟩ := Cond.exactly_spec (args := args) (first := s) (o := none) (s := s) (idx := []) (t := stm i) (cls := "java/lang/String") hex
      have hco : (Cond.eq (.field (stm i) "java/lang/String" "code\x72" "B") (.int 0)).before args s = true := hm _ (List.mem_cons_of_mem _ List.mem_cons_self)
      have har : (Cond.arrayOf (stv i) .byte).before args s = true := hm _ (List.mem_cons_of_mem _ (List.mem_cons_of_mem _ List.mem_cons_self))
      have hle : (Cond.eq (.length (stv i)) (.int (Int32.ofNat (sbyt i).length))).before args s = true := hm _ (List.mem_cons_of_mem _ (List.mem_cons_of_mem _ (List.mem_cons_of_mem _ List.mem_cons_self)))
      have hel : ∀ j, j < (sbyt i).length → (Cond.eq (.elem (stv i) (.int (Int32.ofNat j))) (.int ((sbyt i).getD j 0))).before args s = true := fun j hj => hm _ (List.mem_cons_of_mem _ (List.mem_cons_of_mem _ (List.mem_cons_of_mem _ (List.mem_cons_of_mem _ (List.mem_map.mpr ⟨j, List.mem_range.mpr hj, rfl⟩)))))
      obtain ⟨t, ht, hT⟩ := va_Tof (f := fun j => .int ((sbyt i).getD j 0)) (A := A) (N := (sbyt i).length) (sb_len i hi) har (va_eqt hle) (fun j hj => va_eqt (hel j hj)) hA
      exact ⟨(a, t), fun _ => ⟨q1, ⟨cA, q3, q5, by rw [q6]; exact q2, hA a (Array.getElem?_eq_some_iff.mp q3).1⟩, vk_OFof q1 (va_eqt hco) hA, vk_OFof q1 ht hA, hT⟩⟩
    · exact ⟨(0, 0), fun h => absurd h hi⟩
  obtain ⟨ad, had⟩ := Classical.axiomOfChoice h0
  exact ⟨fun i => (ad i).1, fun i => (ad i).2, fun i hi => had i hi⟩
/-- the world's globals at the start: cells by g, then the script, the texts, their bytes -/
def GL (D : va_G) (g : GA) (b : Nat) (adK adV : Nat → Nat) (fv : Value) (base L : Nat) (xs : Nat → Int32) : Gl := (D, fun k => if k < 900 then g.1 k else if k < 1000 then b else if k < 2000 then adK (k - 1000) else adV (k - 2000), g.2, base, fv, L, xs)
theorem GL_c {D : va_G} {g : GA} {b : Nat} {adK adV : Nat → Nat} {fv : Value} {base L : Nat} {xs : Nat → Int32} {k : Nat} (hk : k < 900) : gad (GL D g b adK adV fv base L xs) k = g.1 k := if_pos hk
theorem GL_k {D : va_G} {g : GA} {b : Nat} {adK adV : Nat → Nat} {fv : Value} {base L : Nat} {xs : Nat → Int32} {i : Nat} (hi : i < 25) : gad (GL D g b adK adV fv base L xs) (1000 + i) = adK i := by
  show (if 1000 + i < 900 then g.1 (1000 + i) else if 1000 + i < 1000 then b else if 1000 + i < 2000 then adK (1000 + i - 1000) else adV (1000 + i - 2000)) = adK i
  rw [if_neg (by omega), if_neg (by omega), if_pos (by omega), show 1000 + i - 1000 = i by omega]
theorem GL_v {D : va_G} {g : GA} {b : Nat} {adK adV : Nat → Nat} {fv : Value} {base L : Nat} {xs : Nat → Int32} {i : Nat} : gad (GL D g b adK adV fv base L xs) (2000 + i) = adV i := by
  show (if 2000 + i < 900 then g.1 (2000 + i) else if 2000 + i < 1000 then b else if 2000 + i < 2000 then adK (2000 + i - 1000) else adV (2000 + i - 2000)) = adV i
  rw [if_neg (by omega), if_neg (by omega), if_neg (by omega), show 2000 + i - 2000 = i by omega]
def kdV : Value → Nat
  | .ref k => k + 2
  | .long _ => 1
  | _ => 0
def shE : AE → Shp
  | .inl (t, n) => .inl (t, n)
  | .inr (ci, fs) => .inr (ci, fs.map kdV)
theorem sh_end : SH = hEND.map shE := by decide +kernel
theorem shp_end {k : Nat} : shp k = (hEND[k]?).map shE := by
  show SH[k]? = _
  rw [sh_end, List.getElem?_map]
theorem shp_a {k t n : Nat} (h : shp k = some (.inl (t, n))) : hEND[k]? = some (.inl (t, n)) := by
  rw [shp_end] at h
  cases hx : hEND[k]? with
  | none => rw [hx] at h; cases h
  | some x =>
    rw [hx] at h
    match x, h with
    | .inl (t', n'), h => cases h; rfl
    | .inr (ci, fs), h => cases h
theorem end_len : hEND.length = 74 := by decide +kernel
theorem end_at {k : Nat} (hk : k < NC) : ∃ x, hEND[k]? = some x := ⟨_, List.getElem?_eq_getElem (by rw [end_len]; exact hk)⟩
theorem acell_1 {g : GA} {k : Nat} (x : AE) : (acell g k x).1 = g.1 k := by
  match x with
  | .inl (0, _) => rfl
  | .inl (1, _) => rfl
  | .inl (2, _) => rfl
  | .inl (t + 3, _) => rfl
  | .inr (_, _) => rfl
theorem SU_of {b L : Nat} {xs : Nat → Int32} (hts : ∀ w ∈ lw_tbl, w.before #[Value.ref b] s = true) (hgv : (Jvm.Cond.and given_1 narrow_1).before #[Value.ref b] s = true) (hX : va_X b L xs s s.heap) (hbl : b < s.heap.size) :
    ∃ (adK adV : Nat → Nat) (fv : Value), ∀ (D : va_G) (g : GA), va_K D vwCl [] s → AK D g hEND s → va_D (fun q => s.heap.size ≤ q) (aworld g hEND) → SU (GL D g b adK adV fv s.heap.size L xs) s s.heap := by
  have hF : ∀ w ∈ FC, w.before #[Value.ref b] s = true := flat_of_before _ hgv
  have hA : ∀ a : Nat, a < s.heap.size → ¬ (fun q : Nat => s.heap.size ≤ q) a := fun a h => Nat.not_le.mpr h
  obtain ⟨adK, adV, hst⟩ := str_of (A := fun q : Nat => s.heap.size ≤ q) hF hA
  obtain ⟨fv, hfv, hzf⟩ : ∃ fv : Value, (fv = .null ∨ ∃ a, fv = .ref a) ∧ va_Z "jdk/internal/util/Preconditions" fmtN "Ljava/util/function/BiFunction;" fv (fun q : Nat => s.heap.size ≤ q) s s.heap := by
    rcases va_Zqof (A := fun q : Nat => s.heap.size ≤ q) (hts _ lw_lf) (hts _ lw_if) (hF _ fc_zf) hA with h | ⟨t, h⟩
    · exact ⟨.null, Or.inl rfl, h⟩
    · exact ⟨.ref t, Or.inr ⟨t, rfl⟩, h⟩
  refine ⟨adK, adV, fv, fun D g hK hAK hD => ?_⟩
  refine ⟨hK, fun k t n hk => hAK k t n (shp_a hk), fun i hi => ?_, fun q hq => ?_, va_Zof (hts _ lw_lc) (hts _ lw_ic) (va_eqi (hF _ fc_zc)) hA, hzf, ⟨hX, hbl, hA b hbl⟩, ⟨vx_Zqof (hts _ lw_lu) (hts _ lw_it) (hF _ fc_zu) hA, vx_Zqof (hts _ lw_ls) (hts _ lw_it) (hF _ fc_zs) hA, fun y hy => hts _ (lw_dcl y hy)⟩, hfv, fun i j hi hj he => ?_, fun k hk => ?_⟩
  · rw [GL_k hi, GL_v]
    exact (hst i hi).2
  · rw [STR_ap] at hq
    rcases List.mem_append.mp hq with h | h
    · obtain ⟨h1, h2⟩ := sa_all q h
      rw [GL_k h1]
      refine vk_R.of (hts _ (sra_all q h)) ?_
      rw [← h2]
      exact (hst _ h1).1
    · have h1 := sm_all q h
      rw [GL_k h1]
      exact vk_R.of (hts _ (srm_all q h)) (va_eqR (hF _ (sem_all q h)) (hst _ h1).1)
  · obtain ⟨x, hx⟩ := end_at hi
    obtain ⟨y, hy⟩ := end_at hj
    rw [GL_c (by unfold NC at hi; omega), GL_c (by unfold NC at hj; omega)] at he
    exact hD.1 i j _ _ (aworld_at hx) (aworld_at hy) (by rw [acell_1, acell_1]; exact he)
  · obtain ⟨x, hx⟩ := end_at hk
    rw [GL_c (by unfold NC at hk; omega)]
    have := hD.2 k _ (aworld_at hx)
    rw [acell_1] at this
    exact this
theorem AX_of {b : Nat} (hts : ∀ w ∈ lw_tbl, w.before #[Value.ref b] s = true) : AX s := by
  refine ⟨fun w hw => ?_, hts _ lw_over⟩
  have h := hts w (lw_nest w hw)
  simp only [nestL, List.mem_cons, List.mem_nil_iff, or_false] at hw
  rcases hw with rfl | rfl | rfl | rfl <;> exact h
end Start
/-! the memory at the start -/
def w0 : Mem := (fun k i => if k = 0 ∧ i = 12 then -1 else if k = 45 ∧ i = 9 then -3 else if k = 59 ∧ i = 10 then -1 else 0, fun k i => if k = 55 ∧ i = 5 then 1 else 0)
def ckV (k i : Nat) : Value → Bool
  | .int x => decide (w0.1 k i = x)
  | .long x => decide (w0.2 k i = x)
  | .ref j => decide (j < 74)
  | _ => false
def ckE (k : Nat) : AE → Bool
  | .inl (3, n) => decide (k + 1 + n ≤ 74)
  | .inl (2, _) => decide (k ≠ 55)
  | .inl (t, _) => decide (t < 2 ∧ k ≠ 0 ∧ k ≠ 45 ∧ k ≠ 59)
  | .inr (_, fs) => (fs.mapIdx fun i v => ckV k i v).all id
theorem ck_all : (hEND.mapIdx fun k x => ckE k x).all id = true := by decide +kernel
theorem ck_at {k : Nat} {x : AE} (h : hEND[k]? = some x) : ckE k x = true := by
  refine List.all_eq_true.mp ck_all (ckE k x) (List.mem_of_getElem? (i := k) ?_)
  rw [List.getElem?_mapIdx, h]
  rfl
theorem w0_z {k : Nat} (h : k ≠ 0 ∧ k ≠ 45 ∧ k ≠ 59) : w0.1 k = fun _ => 0 := by
  funext i
  show (if k = 0 ∧ i = 12 then (-1 : Int32) else if k = 45 ∧ i = 9 then -3 else if k = 59 ∧ i = 10 then -1 else 0) = 0
  rw [if_neg (fun z => h.1 z.1), if_neg (fun z => h.2.1 z.1), if_neg (fun z => h.2.2 z.1)]
theorem w0_l {k : Nat} (h : k ≠ 55) : w0.2 k = fun _ => 0 := by
  funext i
  show (if k = 55 ∧ i = 5 then (1 : Int64) else 0) = 0
  rw [if_neg (fun z => h z.1)]
theorem cell_end {G : Gl} {g : GA} (hg : ∀ j, j < 74 → gad G j = g.1 j ∧ gtC G j = g.2 j) {k : Nat} {x : AE} (hx : hEND[k]? = some x) : acell g k x = wcell G w0 k := by
  have hk : k < 74 := by
    have := (List.getElem?_eq_some_iff.mp hx).1
    rw [end_len] at this
    exact this
  have hs : shp k = some (shE x) := by rw [shp_end, hx]; rfl
  have hc := ck_at hx
  obtain ⟨e1, e2⟩ := hg k hk
  match x, hs, hc with
  | .inl (0, n), hs, hc =>
    have hc : 0 < 2 ∧ k ≠ 0 ∧ k ≠ 45 ∧ k ≠ 59 := of_decide_eq_true hc
    rw [wcell_0 hs, w0_z hc.2, e1, e2]; rfl
  | .inl (1, n), hs, hc =>
    have hc : 1 < 2 ∧ k ≠ 0 ∧ k ≠ 45 ∧ k ≠ 59 := of_decide_eq_true hc
    rw [wcell_1 hs, w0_z hc.2, e1, e2]; rfl
  | .inl (2, n), hs, hc =>
    have hc : k ≠ 55 := of_decide_eq_true hc
    rw [wcell_2 hs, w0_l hc, e1, e2]; rfl
  | .inl (3, n), hs, hc =>
    have hc : k + 1 + n ≤ 74 := of_decide_eq_true hc
    have ef : (fun i => if i < n then some (gad G (k + 1 + i)) else none) = fun i => if i < n then some (g.1 (k + 1 + i)) else none := by
      funext i
      by_cases q : i < n
      · rw [if_pos q, if_pos q, (hg (k + 1 + i) (by omega)).1]
      · rw [if_neg q, if_neg q]
    rw [wcell_3 hs, ef, e1, e2]; rfl
  | .inl (t + 4, n), hs, hc =>
    have hc : t + 4 < 2 ∧ k ≠ 0 ∧ k ≠ 45 ∧ k ≠ 59 := of_decide_eq_true hc
    omega
  | .inr (ci, fs), hs, hc =>
    have hc : ((fs.mapIdx fun i v => ckV k i v).all id) = true := hc
    rw [wcell_o hs, e1]
    show (g.1 k, Sum.inr (ci, fs.map (czA g.1))) = _
    congr 3
    apply List.ext_getElem?
    intro i
    rw [List.getElem?_map, List.getElem?_mapIdx, List.getElem?_map]
    cases hv : fs[i]? with
    | none => rfl
    | some v =>
      have h9 : ckV k i v = true := by
        refine List.all_eq_true.mp hc (ckV k i v) (List.mem_of_getElem? (i := i) ?_)
        rw [List.getElem?_mapIdx, hv]
        rfl
      simp only [Option.map_some]
      congr 1
      match v, h9 with
      | .int x, h9 => have h9 : w0.1 k i = x := of_decide_eq_true h9
                      subst h9; rfl
      | .long x, h9 => have h9 : w0.2 k i = x := of_decide_eq_true h9
                       subst h9; rfl
      | .ref j, h9 => have h9 : j < 74 := of_decide_eq_true h9
                      show Value.ref (g.1 j) = .ref (gad G j)
                      rw [(hg j h9).1]
theorem world_end {G : Gl} {g : GA} (hg : ∀ j, j < 74 → gad G j = g.1 j ∧ gtC G j = g.2 j) : aworld g hEND = world G w0 := by
  apply List.ext_getElem?
  intro k
  by_cases hk : k < NC
  · obtain ⟨x, hx⟩ := end_at hk
    rw [aworld_at hx, world_at G w0 hk, cell_end hg hx]
  · have h1 : (aworld g hEND).length = 74 := by rw [aworld, List.length_mapIdx, end_len]
    have h2 : (world G w0).length = 74 := by simp [world, NC]
    rw [List.getElem?_eq_none (by rw [h1]; unfold NC at hk; omega), List.getElem?_eq_none (by rw [h2]; unfold NC at hk; omega)]
theorem INV_w0 : INV w0 := by
  refine ⟨fun _ _ => 0, fun _ => 0, fun _ => 0, ?_, ?_, ?_, ?_, ?_, ?_, ?_⟩
  · exact ⟨⟨rfl, rfl, rfl, rfl, rfl, rfl⟩, by decide, by decide, by decide, by decide, by decide, by decide⟩
  · exact Or.inr ⟨rfl, fun _ _ => rfl, fun _ _ => rfl⟩
  · refine ⟨⟨w0_z (by decide), w0_z (by decide), w0_z (by decide), w0_z (by decide), w0_z (by decide), w0_z (by decide), w0_z (by decide), w0_z (by decide), w0_z (by decide), w0_z (by decide), w0_z (by decide), w0_z (by decide), w0_z (by decide)⟩, ⟨fun h hh => ?_, rfl, rfl, rfl, rfl⟩, Or.inl rfl⟩
    match h, hh with
    | 0, _ => exact (by decide)
    | 1, _ => exact (by decide)
    | 2, _ => exact (by decide)
    | 3, _ => exact (by decide)
    | n + 4, hh => omega
  · refine ⟨⟨fun i _ => congrFun (w0_z (k := 62) (by decide)) i, fun k hk => absurd hk (Nat.not_lt_zero k), fun k hk => absurd hk (Nat.not_lt_zero k), fun k hk => absurd hk (Nat.not_lt_zero k), fun k hk => absurd hk (Nat.not_lt_zero k), fun k hk => absurd hk (Nat.not_lt_zero k)⟩, fun k hk => absurd hk (Nat.not_lt_zero k), fun i _ => congrFun (w0_z (k := 64) (by decide)) i, rfl, rfl, fun k hk => absurd hk (Nat.not_lt_zero k)⟩
  · exact ⟨0, 0, fun _ _ => 0, fun _ _ => 0, by decide, by decide, rfl, rfl, rfl, rfl, fun k hk => absurd hk (Nat.not_lt_zero k), fun k hk => absurd hk (Nat.not_lt_zero k), fun _ => ⟨rfl, rfl⟩⟩
  · exact ⟨0, by decide, rfl, rfl, fun k hk => absurd hk (Nat.not_lt_zero k)⟩
  · exact ⟨rfl, rfl, fun _ => rfl⟩
