/-! ===== RoofRegatta.led, which may throw, and the law's led, which catches ===== -/
def NSE : String := "java/util/NoSuchElementException"
def nmX : List String := ["java/lang/RuntimeException", "java/lang/Exception"]
def rxX : ByteArray := ⟨#[0x2a, 0x2b, 0xb7, 0x00, 0x0d, 0xb1]⟩
def owX : List Cond := Bundle.ownAtomsX RX10 370 NSE 13 rxX nmX
def atX : List Cond := owX.filter vx_no
theorem atX_pl : (atX.filter goodWord).all (fun w => tables_1_6.any (fun v => decide (v = w)) || tables_1_1.any (fun v => decide (v = w))) = true := by decide +kernel
theorem atX_tb : ∀ w ∈ atX.filter goodWord, w ∈ tb := by
  intro w hw
  have h := List.all_eq_true.mp atX_pl w hw
  have hg := (List.mem_filter.mp hw).2
  rcases (Bool.or_eq_true _ _).mp h with q | q
  · obtain ⟨v, hv, e⟩ := List.any_eq_true.mp q
    have e := of_decide_eq_true e
    subst e
    obtain ⟨i, hi⟩ := List.mem_iff_getElem?.mp hv
    exact tb_t6 i hi hg
  · obtain ⟨v, hv, e⟩ := List.any_eq_true.mp q
    have e := of_decide_eq_true e
    subst e
    obtain ⟨i, hi⟩ := List.mem_iff_getElem?.mp hv
    exact tb_t1 i hi hg
theorem atX_no : ∀ w ∈ atX.filter (fun w => !goodWord w), w ∈ (Cond.castable NSE NSE :: dcl.map Cond.declares) := by decide +kernel
theorem cast_self {args : Array Value} {s : State} (h : (Cond.initialized NSE).before args s = true) : (Cond.castable NSE NSE).before args s = true := by
  cases hc : s.vm.findClass NSE with
  | none => exact absurd h (by simp [Cond.before, Cond.holds, Cond.value, hc])
  | some c =>
    show (Cond.castable NSE NSE).holds args s none s [] = true
    simp [Cond.holds, Cond.value, hc, Vm.assignable_self]
theorem dcl_use {args : Array Value} {s : State} (h : ∀ y ∈ dcl, va_Nw (.declares y) s) : ∀ w ∈ dcl.map Cond.declares, w.before args s = true := fun w hw => by
  obtain ⟨y, hy, rfl⟩ := List.mem_map.mp hw
  exact va_any rfl (h y hy)
theorem atX_ot : ∀ w ∈ Cond.classLink RX10 366 NSE :: Cond.initialized NSE :: atX, vx_ot w = true := by decide +kernel
theorem xw_init : Cond.initialized NSE ∈ tb := tb_t1 23 (by decide +kernel) (by decide +kernel)
theorem xw_stat : Cond.static yL_led ∈ tb := tb_t6 26 (by decide +kernel) (by decide +kernel)
theorem xw_with : Cond.codeWith yL_led cL_led 4 (some .int) [(0, 9, 12, 13)] ∈ tb := tb_t6 27 rfl rfl
theorem xw_cl13 : Cond.classLink RL 13 NSE ∈ tb := tb_t6 28 (by decide +kernel) (by decide +kernel)
theorem xw_link : Cond.methodLink RL 7 yX10_led ∈ tb := tb_t6 29 (by decide +kernel) (by decide +kernel)
theorem xw_inst : Cond.instanceMethod yX10_led ∈ tb := tb_t6 30 (by decide +kernel) (by decide +kernel)
theorem xw_sel : Cond.selects RX10 yX10_led yX10_led ∈ tb := tb_t6 31 (by decide +kernel) (by decide +kernel)
theorem xw_code : Cond.code yX10_led cX10_led 4 (some .int) ∈ tb := tb_t6 32 rfl rfl
theorem xw_cl366 : Cond.classLink RX10 366 NSE ∈ tb := tb_t6 33 (by decide +kernel) (by decide +kernel)
theorem xw_law : Cond.initialized RL ∈ tb := tb_t1 0 (by decide +kernel) (by decide +kernel)
set_option maxHeartbeats 4000000 in
/-- 'new NoSuchElementException(text)' and its throw, no stack traces -/
theorem ctorX {p : Program} {l : Launch} {e : Env} {R : Room} {s : State} {m₀ : MethodId} {args : Array Value} {below : List Frame} {meth : Method} {c : Code} {W : State} {locs : List Loc} {cells slots : Nat}
    (X : Stand p l e R s m₀ args below meth c W locs cells slots) (hexec : p.tables.exec = Jvm.exec) (htr : e.platform.stackTraces = false) (hown : s.vm.findClass RX10 = some m₀.cls) (h : ∀ a ∈ owX, a.before args s = true)
    (hlocs : ∀ x ∈ locs, ∀ cell, s.heap[x.base]? = some cell → cell.vm.isStatics = false)
    {a : Addr} {cX : ClassId} {kX : Class} (hfoundX : s.vm.findClass NSE = some cX) (hkX : s.vm.classes[cX]? = some kX) (hcell : W.heap[a]? = some (freshCell cX kX)) (hnew : s.heap.size ≤ a)
    {msg : Value} (hmsg : msg.isRef = true)
    {g : JFrame} (hg : g.method = m₀) (hsize : g.locals.size = c.maxLocals) (hlocked : g.locked = none) (hentered : g.entered = []) {rest : List Value} (hstack : g.stack = msg :: .ref a :: .ref a :: rest)
    (hd6 : decode c.code g.pc = .ok (.invokespecial 370, 3)) (hd9 : decode c.code (g.pc + 3) = .ok (.athrow, 1)) (hout : ∀ x ∈ c.exceptionTable.toList, covers x (g.pc + 3) = false)
    (hRframes : 5 < R.frames) (hRlocals : 2 * g.monitorRoom + ((Value.ref a :: rest).map fun v => v.category).sum + 81 ≤ R.locals) (hlocks : meth.locks = false) :
    ∃ U : State, Steps p.tables e below (W.setTop g) U ∧ U.status = .running ∧ Ended U below (.threw a) ∧ s.WarmedH U.vm ∧ s.sameButNew ({ U with vm := s.vm } : State) locs cells slots ∧
      ∃ ce, U.heap[a]? = some ce ∧ ce.vm = .none ∧ s.vm.findClass NSE = some ce.cls := by
  have hpf : e.platform.frameOwnsMonitors = true ∧ e.platform.finalization = false ∧ e.platform.magicAccessors = ({} : Platform).magicAccessors := by rw [X.admits.platform]; exact ⟨rfl, rfl, rfl⟩
  obtain ⟨howns, hfin, hpl⟩ := hpf
  have hh : ∀ x, x ∈ owX → x.holds args s none s [] = true := fun x hx => h x hx
  obtain ⟨T, Z0, L, -, Y⟩ := ThrowableC.of_atoms (args := args) howns hfin hpl (fun x hx => h x (by simp [owX, Bundle.ownAtomsX, hx]))
  obtain ⟨Z, M, LZ, LM, hnZ⟩ := Init0T.ofS_atoms (args := args) hpl L Y (fun x hx => h x (by simp [owX, Bundle.ownAtomsX, hx]))
  obtain ⟨P1, Ps, hlen, L1, hL, hP1m, hlink1, hlink⟩ := Bundle.chainSX (args := args) hpl hnZ (ix := 13) (rx := rxX) (by decide +kernel) (by decide +kernel) (by decide +kernel) (by decide +kernel) nmX NSE (by decide +kernel) (by decide +kernel) (fun x hx => h x (by simp [owX, Bundle.ownAtomsX, hx]))
  have hf : s.vm.findClass NSE = some P1.m.cls := findClass_of_methodNamed hP1m
  cases Option.some.inj (hfoundX.symm.trans hf)
  obtain ⟨c1, kX', hc1, hk, hord, -, -, hn6⟩ := Cond.instantiable_spec (hh (.instantiable NSE 6) (by simp [owX, Bundle.ownAtomsX]))
  cases Option.some.inj (hc1.symm.trans hf)
  cases Option.some.inj (hkX.symm.trans hk)
  have hsel0 : selectMethod e.platform s.vm P1.m.cls T.fill0 = .method T.fill0 := by
    obtain ⟨c2, r2, m2, q1, q2, q3, q4, -⟩ := Cond.selects_spec (hh (.selects NSE Bundle.tFill0 Bundle.tFill0) (by simp [owX, Bundle.ownAtomsX]))
    cases Option.some.inj (q1.symm.trans hf)
    cases Option.some.inj (q2.symm.trans (State.methodFound?_of_named Y.fill0 (by decide)))
    cases Option.some.inj (q3.symm.trans Y.fill0)
    rw [Launch.admits_selectMethod X.admits]; exact q4
  have hselF : selectMethod e.platform s.vm P1.m.cls T.fill = .method T.fill := by
    obtain ⟨c2, r2, m2, q1, q2, q3, q4, -⟩ := Cond.selects_spec (hh (.selects NSE Bundle.tFill Bundle.tFill) (by simp [owX, Bundle.ownAtomsX]))
    cases Option.some.inj (q1.symm.trans hf)
    cases Option.some.inj (q2.symm.trans (State.methodFound?_of_named Y.fill (by decide)))
    cases Option.some.inj (q3.symm.trans Y.fill)
    rw [Launch.admits_selectMethod X.admits]; exact q4
  obtain ⟨cS0, hcS0, hiss⟩ := Y.statics
  obtain ⟨u0, hu0⟩ := Cond.staticRefV Y.unassigned L.unassignedStatic L.statics hcS0 hiss (hh (.isRef (.static Bundle.tN "UNASSIGNED_STACK" Bundle.steD)) (by simp [owX, Bundle.ownAtomsX]))
  obtain ⟨sen, hsen⟩ := Cond.staticRefV Y.sentinel L.sentinelStatic L.statics hcS0 hiss (hh (.isRef (.static Bundle.tN "SUPPRESSED_SENTINEL" Bundle.listD)) (by simp [owX, Bundle.ownAtomsX]))
  obtain ⟨ci198, i198, fB, hk198, hg198, ha198, hsB, -, hnB, htB, hffB⟩ := Cond.ownField (t := .object "java/lang/Object") Y.found L.cls (by decide +kernel) (hh (.fieldLink Bundle.tN 198 Bundle.tN "backtrace" "Ljava/lang/Object;") (by simp [owX, Bundle.ownAtomsX])) (hh (.lays Bundle.tN Bundle.tN "backtrace" "Ljava/lang/Object;") (by simp [owX, Bundle.ownAtomsX])) e.platform hpl
  obtain ⟨cS, hcS, heS, -, hkeep⟩ := X.same.2.2.2.2.2 T.aS cS0 hcS0
  have hno : ∀ i, (⟨T.aS, i⟩ : Loc) ∉ locs := fun i hmem => by
    have := hlocs _ hmem cS0 hcS0
    rw [hiss] at this; cases this
  have hkS : cS.vm ≠ .unknown := by
    rw [heS]; intro hu
    rw [show cS0.vm = .unknown from hu] at hiss
    cases hiss
  have hneS : T.aS ≠ a := Nat.ne_of_lt (Nat.lt_of_lt_of_le (Array.getElem?_eq_some_iff.mp hcS0).1 hnew)
  obtain ⟨iM, hffM⟩ := Y.msg
  obtain ⟨tyC, dC, hdC, hdnC⟩ := Cond.laysAt hf hk Y.cause (hh (.lays NSE Bundle.tN "cause" "Ljava/lang/Throwable;") (by simp [owX, Bundle.ownAtomsX]))
  obtain ⟨tyS, dS, hdS, hdnS⟩ := Cond.laysAt hf hk Y.stack (hh (.lays NSE Bundle.tN "stackTrace" Bundle.steD) (by simp [owX, Bundle.ownAtomsX]))
  obtain ⟨tyP, dP, hdP, hdnP⟩ := Cond.laysAt hf hk Y.supp (hh (.lays NSE Bundle.tN "suppressedExceptions" Bundle.listD) (by simp [owX, Bundle.ownAtomsX]))
  obtain ⟨tyM, dM, hdM, hdnM⟩ := Cond.laysAt hf hk hffM (hh (.lays NSE Bundle.tN "detailMessage" "Ljava/lang/String;") (by simp [owX, Bundle.ownAtomsX]))
  obtain ⟨tyB, dB, hdB, hdnB⟩ := Cond.laysAt hf hk hffB (hh (.lays NSE Bundle.tN "backtrace" "Ljava/lang/Object;") (by simp [owX, Bundle.ownAtomsX]))
  have bC := Cond.laysApart hdB hdC hdnB hdnC (by rw [hnB, Y.causeName]; decide)
  have bS := Cond.laysApart hdB hdS hdnB hdnS (by rw [hnB, Y.stackName]; decide)
  have bP := Cond.laysApart hdB hdP hdnB hdnP (by rw [hnB, Y.suppName]; decide)
  have hskip : SkipFacts T e.platform s (fun u => u) u0 ((preparedCellV T.toThrowableT (freshCell P1.m.cls kX) a u0 sen).withEntry W.cur) :=
    ⟨{ ci198 := ci198, i198 := i198, fBack := fB }, ⟨hk198, hg198, ha198, hsB⟩, by
      have := fresh_default (c := P1.m.cls) tyB
      rw [htB] at this
      simpa [preparedCellV, Cell.setSlot, Cell.withEntry, Array.getElem?_setIfInBounds, bC, bS, bP, bC.symm, bS.symm, bP.symm, defaultValue] using this, fun _ _ => rfl⟩
  obtain ⟨tm, methC, cdC, kC, vm₁, hnC, -, -, -, -, -, -, -, hW₁, st1⟩ := Steps.initColdS (tb := p.tables) (e := e) (below := below) (s := s) (U := W) X.here hexec X.warmed hpl hown (t := Bundle.initS NSE) rfl rfl (by decide)
    (hh (.methodLink RX10 370 (Bundle.initS NSE)) (by simp [owX, Bundle.ownAtomsX])) (h (.instanceMethod (Bundle.initS NSE)) (by simp [owX, Bundle.ownAtomsX, nmX, Bundle.chainSAtomsX, Bundle.passSAtoms])) (bytes := rxX) (maxL := 2) (h (.code (Bundle.initS NSE) rxX 2 none) (by simp [owX, Bundle.ownAtomsX, nmX, Bundle.chainSAtomsX, Bundle.passSAtoms]))
    (f := g) hg (a := a) (msg := msg) (rest := .ref a :: rest) hstack hd6
  cases Option.some.inj (hnC.symm.trans hP1m)
  have X₁ := X.noted hW₁
  obtain ⟨vm₂, X₂, st2⟩ := X₁.ctorMessageOffV hexec (g := { g with stack := .ref a :: rest }) hg hsize T L Z LZ M LM (P1 :: Ps)
    (fun P hP => by rcases List.mem_cons.mp hP with rfl | hP; exact L1; exact hL P hP) ⟨hlink1, hlink⟩ (u0 := u0) (sen := sen) (self := a) hmsg (cell := freshCell P1.m.cls kX) (cellS := cS)
    hcell (fun _ => by simp) (by simp) rfl rfl hsel0 hselF hcS hneS hkS (by rw [hkeep _ (hno _)]; exact hu0) (by rw [hkeep _ (hno _)]; exact hsen)
    (Takes.of_laid hk hord tyC (by rw [Y.causeType]; rfl)) (Takes.of_laid hk hord tyS (by rw [Y.stackType]; exact fits_refV_array _ u0)) (Takes.of_laid hk hord tyP (by rw [Y.suppType]; exact fits_refV_object _ sen))
    (Takes.of_laid hk hord tyM (by rw [Y.msgType]; exact fits_refV_object _ ⟨msg, hmsg⟩)) Y.objLocals hskip htr [] hd6
    (by simp only [List.length_cons, hlen, nmX, List.length_nil]; omega) (by simp only [List.length_cons, hlen, nmX, List.length_nil]; exact hRlocals)
  obtain ⟨hwalk, hrun, hended, hWU, hsame⟩ := X₂.athrowLeaves hexec (g := { g with stack := .ref a :: rest, pc := g.pc + 3 }) hg hlocked hentered hout (a := a) (rest := rest) rfl hd9
  have hlt : a < ((W.setVm vm₁).setVm vm₂).heap.size := (Array.getElem?_eq_some_iff.mp hcell).1
  have hU := heapAt_setCell_self (s := (W.setVm vm₁).setVm vm₂) (plainBareV T.toThrowableT (freshCell P1.m.cls kX) a u0 sen msg) hlt
  refine ⟨_, st1 _ (fun acts => ?_), hrun, hended, hWU, hsame.weaken (fun y hy hlt' => ?_) (Nat.le_refl _) (Nat.le_refl _), _, hU, rfl, hf⟩
  · rw [doInvoke_state]
    exact st2 _ hwalk
  · rcases List.mem_append.mp hy with h1 | h1
    · exact h1
    · exfalso
      have hb : y.base = a := by
        simp only [List.mem_cons, List.not_mem_nil, or_false] at h1
        rcases h1 with rfl | rfl | rfl | rfl | rfl <;> rfl
      rw [hb] at hlt'
      exact Nat.not_lt.mpr hnew hlt'
set_option maxHeartbeats 4000000 in
theorem throwX {p : Program} {l : Launch} {e : Env} {R : Room} {s : State} {m : MethodId} {args : Array Value} {below : List Frame} {meth : Method} {c : Code} {H : Heap} {locs : List Loc} {cells slots : Nat} {free : Addr → Prop} {ls : Array Slot} {Qc : Array Value → State → Outcome → State → Prop} {XC : String → State → State → Prop} {mc ms sa : Nat} {A : Nat → Prop} {text : String}
    (hexec : p.tables.exec = Jvm.exec) (hb : c.code = cX10_led) (hl : l.stackTraces = false) (hown : s.vm.findClass RX10 = some m.cls)
    (hk : (Cond.classLink RX10 366 NSE).before args s = true) (hini : (Cond.initialized NSE).before args s = true) (hstr : vk_R RX10 368 text sa s) (hat : ∀ w ∈ atX, w.before args s = true)
    (hU : vx_Zq Bundle.tN "UNASSIGNED_STACK" Bundle.steD A s s.heap) (hN : vx_Zq Bundle.tN "SUPPRESSED_SENTINEL" Bundle.listD A s s.heap) (hS : va_S A s.heap H locs) (hsize : ls.size = c.maxLocals)
    (hout : ∀ x ∈ c.exceptionTable.toList, covers x 57 = false)
    (hRframes : 5 < R.frames) (hRlocals : 82 ≤ R.locals) (hRcells : cells + 1 ≤ R.cells) (hRslots : slots + 6 ≤ R.slots) (hlocks : meth.locks = false)
    (hx : ∀ t : State, s.vm.Alike t.vm → H.size ≤ t.heap.size → (∀ q : Nat, q < H.size → t.heap[q]? = H[q]?) → XC NSE s t)
    (hf : ∀ z ∈ locs, free z.base) (hc : cells + 1 ≤ mc) (hs : slots + 6 ≤ ms) :
    W p l e R s m args below meth c H locs cells slots (vx_MQ below Qc XC args s mc ms free) (F0 m 47 ls []) := by
  intro T hT X
  have htr : e.platform.stackTraces = false := (show e.platform.stackTraces = l.stackTraces by rw [X.admits.platform]).trans hl
  have Y := vx_rebase X (R' := { frames := R.frames, locals := R.locals, cells := 1, slots := 6 }) (Nat.le_refl _) (Nat.le_refl _) hRcells hRslots
  obtain ⟨s', hA⟩ : ∃ z, z = (T.setVm s.vm).setFrames (.invoking m args :: below) := ⟨_, rfl⟩
  rw [← hA] at Y
  have hvm : s'.vm = s.vm := by rw [hA]; rfl
  have hhp : s'.heap = H := by rw [hA]; exact hT
  have hW0 : s.WarmedH s'.vm := by rw [hvm]; exact State.WarmedH.refl s
  have hat' : ∀ w ∈ atX, w.before args s' = true := fun w hw => vx_ot_at hW0 hvm.symm (atX_ot w (List.mem_cons_of_mem _ (List.mem_cons_of_mem _ hw))) (hat w hw)
  have hk' : (Cond.classLink RX10 366 NSE).before args s' = true := vx_ot_at hW0 hvm.symm (atX_ot _ List.mem_cons_self) hk
  have hini' : (Cond.initialized NSE).before args s' = true := vx_ot_at hW0 hvm.symm (atX_ot _ (List.mem_cons_of_mem _ List.mem_cons_self)) hini
  have hU' : vx_Zq Bundle.tN "UNASSIGNED_STACK" Bundle.steD A s' s'.heap := by rw [hhp]; exact vx_Zq.moved hW0.alike (hU.kept hS.2.1)
  have hN' : vx_Zq Bundle.tN "SUPPRESSED_SENTINEL" Bundle.listD A s' s'.heap := by rw [hhp]; exact vx_Zq.moved hW0.alike (hN.kept hS.2.1)
  have h : ∀ w ∈ owX, w.before args s' = true := vx_own hat' (vx_isRefq hU'.1) (vx_isRefq hN'.1) hU'.2.word hN'.2.word
  have hown' : s'.vm.findClass RX10 = some m.cls := by rw [hvm]; exact hown
  obtain ⟨vm₁, cX, kX, hfX, hkX, -, -, X₁, st1⟩ := Y.newCold hexec (own := RX10) (C := NSE) (index := 366) (n := 6) hown' hk' (h _ (by simp [owX, Bundle.ownAtomsX])) hini'
    (g := F0 m 47 ls []) rfl (by rw [hb]; show decode cX10_led 47 = .ok (.new 366, 3); decide +kernel) (Nat.le_refl _) (Nat.le_refl _)
  generalize hT1 : (T.setVm vm₁).pushCell { cls := cX, slots := kX.instanceTypes.map defaultValue, vm := .none } = T1 at X₁ st1
  have hcat : (Value.ref T.heap.size).category = 1 := rfl
  have hcellA : T1.heap[T.heap.size]? = some (freshCell cX kX) := by rw [← hT1]; exact State.heap_pushCell_size _ _
  have d3' : decode c.code (47 + 3) = .ok (.dup, 1) := by rw [hb]; decide +kernel
  have d4' : decode c.code (47 + 4) = .ok (.ldc_w 368, 3) := by rw [hb]; decide +kernel
  have hstr' : vk_R RX10 368 text sa s' := vk_R.warm hW0 hstr
  obtain ⟨U, hsteps, hrun, hend, hW, hsame, ce, hce, hcv, hcl⟩ := ctorX X₁ hexec htr hown' h (fun x hx => nomatch hx) hfX hkX hcellA (by rw [hhp, hT]; exact Nat.le_refl _) (msg := .ref sa) rfl
    (g := { method := m, pc := 47 + 7, locals := ls, stack := .ref sa :: .ref T.heap.size :: .ref T.heap.size :: [], locked := none }) rfl hsize rfl rfl (rest := []) rfl
    (by rw [hb]; show decode cX10_led 54 = .ok (.invokespecial 370, 3); decide +kernel) (by rw [hb]; show decode cX10_led 57 = .ok (.athrow, 1); decide +kernel) hout hRframes (by simp only [List.map_cons, List.sum_cons, hcat, List.map_nil, List.sum_nil]; show 2 * 0 + (1 + 0) + 81 ≤ R.locals; omega) hlocks
  obtain ⟨f1, f2⟩ := vx_frame hsame
  rw [hhp] at f1 f2
  have hWs : s.WarmedH U.vm := State.WarmedH.trans hW0 hW
  rw [hvm] at hcl
  have hall : s.sameButNew ({ U with vm := s.vm } : State) locs mc ms := by
    subst hA
    obtain ⟨e1, e2⟩ := hsame
    rw [State.setFrames_setFrames] at e1
    have h2 : (T.setVm s.vm).sameButNew ({ U with vm := s.vm } : State) [] (0 + 1) (0 + 6) := ⟨e1, e2⟩
    have h3 := X.same.trans h2
    rw [List.append_nil] at h3
    exact h3.mono hc hs
  refine ⟨U, ?_, .threw T.heap.size, hrun, hend, Or.inr ⟨T.heap.size, rfl, NSE, ce, locs, hx U hWs.alike f1 (fun q hq => f2 q hq (fun z hz => nomatch hz)), hce, hcv, hcl, hWs, hall, hf⟩⟩
  refine st1 _ ?_
  show Steps p.tables e below (T1.setTop { method := m, pc := 47 + 3, locals := ls, stack := .ref T.heap.size :: [], locked := none }) _
  jvm_step X₁.here [X₁.here.top, hexec, d3', Value.category]
  exact X₁.ldcStringW hexec (own := RX10) (text := text) (index := 368) (a := sa) hown' hstr'.1 hstr'.2
    (g := { method := m, pc := 47 + 4, locals := ls, stack := .ref T.heap.size :: .ref T.heap.size :: [], locked := none }) rfl d4' _ hsteps
def QX (G : Gl) (post : Int32 → Mem → Prop) : Array Value → State → Outcome → State → Prop := va_Qi post (fun (w' : Mem) (t : State) => va_P (gD G) vwCl (world G w') t.heap) (gA G)
def XX (G : Gl) (X : Mem → Prop) : String → State → State → Prop := vx_X X (fun (E : String) (w' : Mem) (t : State) => E = NSE ∧ va_P (gD G) vwCl (world G w') t.heap) (gA G)
def ClX (d : Nat) (as : List Value) (w : Mem) (post : Int32 → Mem → Prop) (X : Mem → Prop) : Prop :=
  ∀ (G : Gl) (l : Launch) (rm : Room), l.stackTraces = false → rm.cells = 1 → rm.slots = 6 → d ≤ rm.frames → 60 * d ≤ rm.locals → vx_Met l yX10_led (mdw (m_X10_led X)) rm (ClP G as w) (QX G post) (XX G X) 1 6 (gA G)
theorem va_P_ext {D : va_G} {ws : va_W} {H H1 : Heap} (h : va_P D vwCl ws H) (hq : ∀ q : Nat, q < H.size → H1[q]? = H[q]?) : va_P D vwCl ws H1 := h.kept fun k q hk => hq _ (vx_lt h hk)
theorem ClX_of {d : Nat} {as : List Value} {w : Mem} {post : Int32 → Mem → Prop} {X : Mem → Prop} (hd5 : 5 ≤ d) (hlen : (lay as).length ≤ 4) (h : Wp (m_X10_led X) d 1 (fun r w' => ∃ x, r = some (.int x) ∧ post x w') 0 (ent as 4) [] w) : ClX (d + 1) as w post X := by
  intro G l rm htr hrc hrs hrf hrl
  refine vx_ofW (cc := cX10_led) (maxL := 4) (ret := some .int) (by decide +kernel) rfl ?_
  intro p e s m args below meth c s₁ B hml hex hv
  obtain ⟨rfl, hP, hU⟩ := hv
  have hts : ∀ w ∈ mdw (m_X10_led X), w.before (as.map (cz G)).toArray s = true := atoms_spec (ws := mdw (m_X10_led X)) B.pre
  have htb : ∀ w ∈ tb, w.before (as.map (cz G)).toArray s = true := fun w hw => hts w (List.mem_cons_of_mem _ hw)
  have hown : s.vm.findClass RX10 = some m.cls := findClass_of_methodNamed B.named
  have hlk : meth.locks = false := B.notSynchronized
  have hret : meth.sig.returnType = some .int := B.returns
  rw [lg_entry_eq]
  have hl := lv_entry (as.map (cz G)) (n := 4) (by rw [lay_len hU]; exact hlen)
  generalize (lg_sl (as.map (cz G)) ++ List.replicate (4 - (lg_sl (as.map (cz G))).length) Slot.unset).toArray = lsr at hl ⊢
  refine h G p l e (headSpec (mdw (m_X10_led X)) rm).room s m _ below meth c _ 1 6 ⟨B.exec, B.bytes, hml, hown, htb, ⟨hrf, hrl, Nat.le_of_eq hrc.symm, Nat.le_of_eq hrs.symm⟩, hU, ⟨htr, trivial, ?_⟩, ?_⟩ s.heap [] 0 0 lsr hP va_S.rf (Nat.le_refl _) (Nat.le_refl _) (ent_LR hU hl)
  · intro w' lsr H locs cells slots hX hls hP1 hS1 hc hs
    refine throwX (text := "no such lodger is ashore") (sa := gad G 1024) (A := gA G) B.exec B.bytes htr hown (htb _ xw_cl366) (htb _ xw_init)
      (hU.2.2.2.1 ("RoofRegatta", 368, "no such lodger is ashore", 24) (by decide +kernel)) (vx_hat (L := atX) (fun w hw => htb w (atX_tb w hw)) atX_no (vx_c (cast_self (htb _ xw_init)) (dcl_use hU.2.2.2.2.2.2.2.1.2.2))) hU.2.2.2.2.2.2.2.1.1 hU.2.2.2.2.2.2.2.1.2.1 hS1 (hls.trans hml.symm)
      (fun x hx => (hex x hx).elim) ?_ ?_ ?_ ?_ hlk (fun t ha h1 h2 => ?_) hS1.2.2 hc hs
    · show 5 < rm.frames
      omega
    · show 82 ≤ rm.locals
      omega
    · show cells + 1 ≤ rm.cells
      omega
    · show slots + 6 ≤ rm.slots
      omega
    · refine ⟨w', hX, ⟨rfl, va_P_ext hP1 h2⟩, Nat.le_trans hS1.1 h1, fun q hq hn => ?_⟩
      rw [h2 q (Nat.lt_of_lt_of_le hq hS1.1)]
      exact hS1.2.1 q hq hn
  · intro v w' pc ls H locs hq hr hP1 hS1
    have hf : ∀ q ∈ locs, gA G q.base := hS1.2.2
    obtain ⟨x, rfl, hq⟩ := hq
    obtain ⟨h1, -⟩ := hr
    exact vx_ret (W.iret B.exec B.bytes hret (fun t ht hW => ⟨⟨x, w', rfl, hq, by show va_P _ _ _ t.heap; rw [ht]; exact hP1⟩, hS1.F ht⟩) hf h1 hlk)
/-! the law's led -/
def mdwL : List Cond := .codeWith yL_led cL_led 4 (some .int) [(0, 9, 12, 13)] :: tb
theorem mdwL_in : ∀ w ∈ mdwL, w ∈ tb := fun w hw => (List.mem_cons.mp hw).elim (fun e => by rw [e]; exact xw_with) (fun h => h)
def m_L_led : MD := (yL_led, cL_led, 4, some .int, 99, fun _ => True, none)
def LedC (d : Nat) (as : List Value) (w : Mem) (Q : Option Value → Mem → Prop) : Prop :=
  ∀ (G : Gl) (l : Launch) (rm : Room), l.stackTraces = false → rm.cells = 1 → rm.slots = 6 → d ≤ rm.frames → 60 * d ≤ rm.locals → Met l yL_led mdwL rm (ClP G as w) (ClQ G Q) 1 6 (gA G)
theorem Met_ofWH {l : Launch} {y : MethodName} {ws ws' : List Cond} {rm : Room} {Pc : Array Value → State → Prop} {Qc : Array Value → State → Outcome → State → Prop} {mc ms : Nat} {free : Addr → Prop} {cc : ByteArray} {maxL : Nat} {ret : Option FieldType} {hh : List (Nat × Nat × Nat × Nat)}
    (hy : plainName y.cls = true) (hw : ws = Cond.codeWith y cc maxL ret hh :: ws')
    (body : ∀ p e s m args below meth c s₁, BodyLoose p l y (headSpec ws rm) cc maxL ret e s m args below meth c s₁ → c.maxLocals = maxL → Pc args s →
      W p l e (headSpec ws rm).room s m args below meth c s.heap [] 0 0 (MQ below Qc args s mc ms free) (entryFrame m args maxL)) : Met l y ws rm Pc Qc mc ms free := by
  refine MetFree.of_bodyS (code := cc) (maxLocals := maxL) (ret := ret) hy ?_ ?_
  · intro args s m h hn
    obtain ⟨m9, meth, c, hn9, h1, h2, h3, h4, -, h5, h6, -⟩ := Cond.codeWith_spec (atoms_spec (ws := ws) h _ (by rw [hw]; exact List.mem_cons_self))
    cases hn.symm.trans hn9
    exact ⟨meth, c, h1, h2, h3, h4, h5, h6⟩
  · intro p e s m args below meth c s₁ B hml hP _
    have hh0 : s₁.heap = s.heap := by rw [B.state]; rfl
    obtain ⟨t, a1, o, b1, b2, b3⟩ := body p e s m args below meth c s₁ B hml hP s₁ hh0 (Stand.of_body B)
    exact ⟨t, o, a1, b1, b2, ⟨b3.1, b3.2⟩⟩
def rmX (d : Nat) : Room := { frames := d, cells := 1, slots := 6, locals := 60 * d }
theorem S_L_led_7 {d b : Nat} {Q : Option Value → Mem → Prop} : Snd m_L_led d b Q 7 (o_i2l <| o_last <| o_iconst 0 <| o_iret Q) :=
  ok_i2l (pc := 7) (show decode cL_led 7 = .ok (.i2l, 1) from by decide +kernel) <| ok_last (pc := 8) (show decode cL_led 8 = .ok (.lastore, 1) from by decide +kernel) <| ok_goto (pc := 9) (off := 6) (tgt := 15) (show decode cL_led 9 = .ok (.goto 6, 3) from by decide +kernel) (by decide) <| ok_iconst (pc := 15) (n := 0) (show decode cL_led 15 = .ok (.iconst 0, 1) from by decide +kernel) (by decide) <| ok_iret (pc := 16) (show decode cL_led 16 = .ok (.ireturn, 1) from by decide +kernel) rfl
theorem S_L_led_13 {d b : Nat} {Q : Option Value → Mem → Prop} : Snd m_L_led d b Q 13 (o_iconst 1 <| o_iret Q) :=
  ok_iconst (pc := 13) (n := 1) (show decode cL_led 13 = .ok (.iconst 1, 1) from by decide +kernel) (by decide) <| ok_iret (pc := 14) (show decode cL_led 14 = .ok (.ireturn, 1) from by decide +kernel) rfl
theorem led_of {d : Nat} {i : Int32} {w : Mem} {Q : Option Value → Mem → Prop} {post : Int32 → Mem → Prop} {X : Mem → Prop} (h : ClX d [.ref 0, .int i] w post X)
    (h1 : ∀ x w', post x w' → Q (some (.int 0)) (wL w' 73 0 x.toInt64)) (h2 : ∀ w', X w' → Q (some (.int 1)) w') : LedC (d + 1) [.ref 0, .int i, .ref 73] w Q := by
  intro G l rm htr hrc hrs hrf hrl
  refine Met_ofWH (cc := cL_led) (maxL := 4) (ret := some .int) (by decide +kernel) rfl ?_
  intro p e s m args below meth c s₁ B hml hv
  obtain ⟨rfl, hP, hU⟩ := hv
  have hts : ∀ w ∈ mdwL, w.before (([.ref 0, .int i, .ref 73] : List Value).map (cz G)).toArray s = true := atoms_spec (ws := mdwL) B.pre
  have htb : ∀ w ∈ tb, w.before (([.ref 0, .int i, .ref 73] : List Value).map (cz G)).toArray s = true := fun w hw => hts w (List.mem_cons_of_mem _ hw)
  have hown : s.vm.findClass RL = some m.cls := findClass_of_methodNamed B.named
  have hlk : meth.locks = false := B.notSynchronized
  have hret : meth.sig.returnType = some .int := B.returns
  have htab := vx_table (x := yL_led) B (hts _ List.mem_cons_self)
  rw [lg_entry_eq]
  have hl := lv_entry (([.ref 0, .int i, .ref 73] : List Value).map (cz G)) (n := 4) (by rw [lay_len hU]; exact Nat.le_of_ble_eq_true rfl)
  generalize (lg_sl (([.ref 0, .int i, .ref 73] : List Value).map (cz G)) ++ List.replicate (4 - (lg_sl (([.ref 0, .int i, .ref 73] : List Value).map (cz G))).length) Slot.unset).toArray = lsr at hl ⊢
  have hL : LR G lsr 4 [.ref 0, .int i, .ref 73, .null] := ent_LR hU hl
  have X9 : Cx G m_L_led d Q p l e (headSpec mdwL rm).room s m (([.ref 0, .int i, .ref 73] : List Value).map (cz G)).toArray below meth c (MQ below (ClQ G Q) (([.ref 0, .int i, .ref 73] : List Value).map (cz G)).toArray s 1 6 (gA G)) 1 6 := by
    refine ⟨B.exec, B.bytes, hml, hown, htb, ⟨hrf, hrl, Nat.le_of_eq hrc.symm, Nat.le_of_eq hrs.symm⟩, hU, ⟨htr, trivial, trivial⟩, ?_⟩
    intro v w' pc ls H locs hq hr hP1 hS1
    have hf : ∀ q ∈ locs, gA G q.base := hS1.2.2
    match v, hr with
    | some (.int x), hr => exact W.iret B.exec B.bytes hret (fun t ht hW => ⟨⟨some (.int x), w', rfl, hq, by rw [ht]; exact hP1⟩, hS1.F ht⟩) hf hr.1 hlk
    | none, hr => exact absurd hr.2 (by decide)
    | some (.long x), hr => exact absurd hr.2 (by decide)
  refine lv_aload_n (pc := 0) (k := 2) (x := gad G 73) B.exec B.bytes (by decide +kernel) rfl (hL.2.2 2 (.ref 73) rfl (by simp)) ?_
  refine lv_iconst (pc := 1) (n := 0) (v := 0) B.exec B.bytes (by decide +kernel) (by decide) ?_
  refine lv_aload_n (pc := 2) (k := 0) (x := gad G 0) B.exec B.bytes (by decide +kernel) rfl (hL.2.2 0 (.ref 0) rfl (by simp)) ?_
  refine lv_iload_n (pc := 3) (k := 1) (x := i) B.exec B.bytes (by decide +kernel) rfl (hL.2.2 1 (.int i) rfl (by simp)) ?_
  have hM := h G l (rmX d) htr rfl rfl (Nat.le_refl _) (Nat.le_refl _)
  have hin : ∀ w ∈ mdw (m_X10_led X), w ∈ tb := fun w hw => (List.mem_cons.mp hw).elim (fun e => by rw [e]; exact xw_code) (fun h => h)
  have cb : CallB (headSpec mdwL rm).room s (([.ref 0, .int i, .ref 73] : List Value).map (cz G)).toArray RL 7 yX10_led cX10_led 4 (some .int) (mdw (m_X10_led X)) (rmX d) 1 6 1 := callB_of 1 htb (tb_good hin) rfl rfl rfl (htb _ tw_103) (htb _ xw_link) ⟨by decide +kernel, by decide +kernel, by decide +kernel⟩ ⟨hrf, by show 8 + (4 + 11) + 60 * d ≤ rm.locals; omega⟩
  have hk0 : shp 0 = some (.inr (10, (match shp 0 with | some (.inr (_, f)) => f | _ => []))) := by decide +kernel
  have hat : (world G w)[0]? = some (gad G 0, .inr (10, (match shp 0 with | some (.inr (_, f)) => f | _ => []).mapIdx fun i fk => fval G w 0 i fk)) := by rw [world_at G w (shp_lt hk0), wcell_o hk0]
  have hr := vx_runV (e := e) (below := below) (meth := meth) (H := s.heap) (locs := []) (cells := 0) (slots := 0) (C := RX10) (b := gad G 0) (As := [.int i]) (rest := [.int 0, .ref (gad G 73)]) (g := F0 m 4 lsr [.int i, .ref (gad G 0), .int 0, .ref (gad G 73)]) ⟨B.exec, B.bytes, hml, hown, htb⟩ hM ⟨cb, htb _ xw_inst, htb _ xw_sel⟩
    ⟨ClP.blind, va_recv hU.1 hP rfl hat, fun U hUh hW => ⟨rfl, by rw [hUh]; exact hP, by rw [hUh]; exact hU.warm hW⟩⟩ rfl rfl hL.1 rfl (show 2 * 0 + (1 + (1 + 0)) ≤ 8 by decide) (show decode cL_led 4 = .ok (.invokevirtual 7, 3) by decide +kernel) ⟨Nat.le_of_eq (by show 1 = rm.cells; rw [hrc]), Nat.le_of_eq (by show 6 = rm.slots; rw [hrs])⟩
  refine vx_calli hr (va_S.rf (A := gA G)) (fun q _ h => h) (fun q h => h) (fun q _ h => h) ?_ ?_
  · intro E ce q9 w' t H1 locs1 ht ha hX hB hz hk hS1 hc1 hv1 hcl
    obtain ⟨rfl, hP1⟩ := hB
    refine vx_catch (own := RL) (name := NSE) hown [] _ [] (by rw [htab]; rfl) (fun z hz => nomatch hz) (by decide) (by decide) (htb _ xw_cl13) (cast_self (htb _ xw_init)) hc1 hv1 hcl ?_
    refine lv_astore_n (pc := 12) (k := 3) B.exec B.bytes (by decide +kernel) rfl hL.has (by decide) rfl (fun ls1 hl1 => ?_)
    have hL1 : LR G ls1 4 [.ref 0, .int i, .ref 73, .null] := ⟨hl1.1, hl1.2.1, fun j v hj hn => by
      refine hl1.2.2 (j, cz G v) (List.mem_cons_of_mem _ (List.mem_filter.mpr ⟨lvl_mem hj hn, ?_⟩))
      match j, hj with
      | 0, hj => cases hj; rfl
      | 1, hj => cases hj; rfl
      | 2, hj => cases hj; rfl
      | 3, hj => cases hj; exact absurd rfl hn⟩
    exact (S_L_led_13 (d := d) (b := 0) (Q := Q) [.ref 0, .int i, .ref 73, .null] [] w' (h2 w' hX)) G p l e _ s m _ below meth c _ 1 6 X9 H1 locs1 1 6 ls1 (by rw [← ht]; exact hP1) hS1 (Nat.le_refl _) (Nat.le_refl _) hL1
  · intro x w' t H1 locs1 ht ha hpost hP1 hz hk hS1
    exact (S_L_led_7 (d := d) (b := 0) (Q := Q) [.ref 0, .int i, .ref 73, .null] [.int x, .int 0, .ref 73] w' ⟨vp_in_nI (show 0 < 1 by decide) (by decide), h1 x w' hpost⟩) G p l e _ s m _ below meth c _ 1 6 X9 H1 locs1 1 6 lsr (by rw [← ht]; exact hP1) hS1 (Nat.le_refl _) (Nat.le_refl _) hL
def o_led (d : Nat) (K : Kn) : Kn := fun ls st w => match st with
  | .ref 73 :: .int i :: .ref 0 :: r => catS r ≤ 8 ∧ LedC d [.ref 0, .int i, .ref 73] w (fun v w' => ∃ x, v = some (.int x) ∧ K ls (.int x :: r) w')
  | _ => False
theorem ok_led {M : MD} {d b index : Nat} {Q : Option Value → Mem → Prop} {pc : Nat} {K : Kn} (hd : decode M.2.1 pc = .ok (.invokestatic index, 3)) (hl : Cond.methodLink M.1.cls index yL_led ∈ tb) (hb1 : 1 ≤ b) (hk : Snd M d (b - 1) Q (pc + 3) K) : Snd M d b Q pc (o_led d K) := by
  intro ls st w h
  unfold o_led at h
  split at h
  next i r =>
    obtain ⟨hcat, h⟩ := h
    intro G p l e R s m args below meth c QQ mcF msF X H locs cells slots lsr hP hS hc hs hL
    obtain ⟨hx, hb, hml, hown, hts, ⟨hR1, hR2, hR3, hR4⟩, hU, ⟨htr, hpg, hthr⟩, hend⟩ := id X
    have hM := h G l (rmX d) htr rfl rfl (Nat.le_refl _) (Nat.le_refl _)
    have cw : vx_CSW R s args M.1.cls index yL_led cL_led 4 (some .int) [(0, 9, 12, 13)] mdwL (rmX d) 1 6 3 := by
      refine vx_cwSW 3 hts (tb_good ?_) rfl rfl rfl ⟨by decide +kernel, by decide +kernel, by decide +kernel⟩ ⟨hR1, by show 8 + (4 + 11) + 60 * d ≤ _; omega⟩
      intro w hw
      unfold va_wsS at hw
      rcases List.mem_append.mp hw with h | h
      · simp only [List.mem_cons, List.not_mem_nil, or_false] at h
        rcases h with rfl | rfl | rfl
        · exact hl
        · exact xw_stat
        · exact xw_law
      · exact mdwL_in w h
    have hr := vx_runSW (e := e) (below := below) (meth := meth) (H := H) (locs := locs) (cells := cells) (slots := slots) (As := ([.ref 0, .int i, .ref 73] : List Value).map (cz G)) (rest := r.map (cz G)) (g := F0 m pc lsr ((.ref 73 :: .int i :: .ref 0 :: r : List Value).map (cz G))) ⟨hx, hb, hml, hown, hts⟩ hM cw
      ⟨ClP.blind, fun U hUh hW => ⟨rfl, by rw [hUh]; exact hP, by rw [hUh]; exact (hU.kept hS.1 hS.2.1).warm hW⟩⟩ rfl rfl hL.1 rfl (by rw [catS_cz hU]; show 2 * 0 + _ ≤ 8; omega) hd ⟨by omega, by omega⟩
    refine cl_go hr hS fun r1 w' H1 locs1 hq hP1 hS1 => ?_
    obtain ⟨x, rfl, hq⟩ := hq
    exact hk _ _ _ hq G p l e R s m args below meth c QQ mcF msF X H1 locs1 (cells + 1) (slots + 6) lsr hP1 hS1 (by omega) (by omega) hL
  next => exact h.elim
/-- the roads of a table, one by one -/
def AllS (M : MD) (d b : Nat) (Q : Option Value → Mem → Prop) : List Kn → List Nat → Prop
  | K :: Ks, t :: ts => Snd M d b Q t K ∧ AllS M d b Q Ks ts
  | [], [] => True
  | _, _ => False
theorem AllS.at {M : MD} {d b : Nat} {Q : Option Value → Mem → Prop} : ∀ {Ks : List Kn} {ts : List Nat}, AllS M d b Q Ks ts → Ks.length = ts.length ∧ ∀ (i : Nat) (K : Kn) (t : Nat), Ks[i]? = some K → ts[i]? = some t → Snd M d b Q t K
  | [], [], _ => ⟨rfl, fun i K t h => by simp at h⟩
  | [], _ :: _, h => h.elim
  | _ :: _, [], h => h.elim
  | K0 :: Ks, t0 :: ts, h => by
    obtain ⟨e, r⟩ := AllS.at h.2
    refine ⟨by simp [e], fun i K t h1 h2 => ?_⟩
    cases i with
    | zero => simp at h1 h2; subst h1; subst h2; exact h.1
    | succ i => simp at h1 h2; exact r i K t h1 h2
theorem ok_tswA {M : MD} {d b : Nat} {Q : Option Value → Mem → Prop} {pc : Nat} {lo : Int32} {Ks : List Kn} {Kd : Kn} {dflt l9 h9 : Int} {offs : Array Int} {len dt : Nat} {ts : List Nat} (hd : decode M.2.1 pc = .ok (.tableswitch dflt l9 h9 offs, len)) (hl : lo.toInt = l9) (hn : h9 = l9 + ts.length - 1) (hb9 : l9 + ts.length < 2 ^ 31) (hdt : (pc : Int) + dflt = (dt : Int)) (ho : offs.toList.map (fun o => (pc : Int) + o) = ts.map (fun t => ((t : Nat) : Int)))
    (hks : AllS M d b Q Ks ts) (hkd : Snd M d b Q dt Kd) : Snd M d b Q pc (o_tsw lo Ks Kd) := ok_tsw hd hl hn hb9 hdt ho hks.at.2 hkd hks.at.1
