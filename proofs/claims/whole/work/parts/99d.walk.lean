/-! ===== the law's first cells ===== -/
section LawStart
variable {p : Program} {l : Launch} {e : Env} {R : Room} {s : State} {m : MethodId} {args : Array Value} {below : List Frame} {meth : Method} {c : Code} {H : Heap} {locs : List Loc} {uc us : Nat} {QQ : State → Prop} {pc : Nat} {lsr : Array Slot} {rest : List Value} {D : va_G} {g : GA} {hp : List AE}
theorem lw_newA {M : MD} {ci index N : Nat} {fs : List Value} {C : String} {T : u_T} {ty : Nat → FieldType} (hx : p.tables.exec = Jvm.exec) (hb : c.code = M.2.1) (hown : s.vm.findClass M.1.cls = some m.cls) (hts : ∀ w ∈ tb, w.before args s = true) (hd : decode M.2.1 pc = .ok (.new index, 3)) (hcl : vwCl[ci]? = some (C, T, N)) (hC : CLok ci) (hty : ∀ k, k < N → parseFieldDescriptor (T k).2.2.1 = some (ty k)) (hl : Cond.classLink M.1.cls index C ∈ tb) (hl2 : Cond.instantiable C N ∈ tb) (hl3 : Cond.initialized C ∈ tb) (hfs : ∀ j, j < N → defaultValue (ty j) = vp_V fs j) (hno : fs.all (okV 0) = true) (ho1 : okH hp.length hp = true) (hc1 : uc + 1 ≤ R.cells) (hc2 : us + N ≤ R.slots) (hA : AS D s.heap.size g hp s H) (hS : va_S (fun q => s.heap.size ≤ q) s.heap H locs)
    (kk : ∀ (q : Nat) (H1 : Heap), AS D s.heap.size (gup g hp.length q (g.2 hp.length)) (hp ++ [.inr (ci, fs)]) s H1 → va_S (fun q => s.heap.size ≤ q) s.heap H1 locs → W p l e R s m args below meth c H1 locs (uc + 1) (us + N) QQ (F0 m (pc + 3) lsr (.ref q :: rest))) : W p l e R s m args below meth c H locs uc us QQ (F0 m pc lsr rest) := by
  obtain ⟨hP, hD, hK0, hK⟩ := id hA
  obtain ⟨C', T', N', ty0, g1, g2, g3, g4⟩ := hC
  cases hcl.symm.trans g1
  refine va_new (ci := ci) (fs := fs) hx hb hts g2 ty hty hown (hts _ hl) (hts _ hl2) (hts _ hl3) hK0 hP hD hS (fun q hq => hq) hcl hfs hc1 hc2 hd (fun q H1 hP1 hD1 hS1 => ?_)
  have hgu := gup_lt (g := g) (n := hp.length) (q := q) (cA := g.2 hp.length)
  have hq0 : (gup g hp.length q (g.2 hp.length)).1 hp.length = q := if_pos rfl
  have hfz : fs.map (czA (gup g hp.length q (g.2 hp.length)).1) = fs := by
    rw [List.map_congr_left (g := id)]
    · simp
    · intro v hv
      have := List.all_eq_true.mp hno v hv
      cases v with
      | ref k => simp [okV] at this
      | _ => rfl
  have ew : aworld (gup g hp.length q (g.2 hp.length)) (hp ++ [.inr (ci, fs)]) = aworld g hp ++ [(q, .inr (ci, fs))] := by
    rw [aworld_app, aworld_ok hgu ho1]
    simp only [acell]
    rw [hfz, hq0]
  exact kk q H1 ⟨by rw [ew]; exact hP1, by rw [ew]; exact hD1, hK0, (hK.ext hgu).app (fun t n hx => by cases hx)⟩ hS1
theorem lw_arrA {M : MD} {n : Int32} (hx : p.tables.exec = Jvm.exec) (hb : c.code = M.2.1) (hts : ∀ w ∈ tb, w.before args s = true) (hd : decode M.2.1 pc = .ok (.newarray .long, 2)) (hl : Cond.arrayClass .long ∈ tb) (hn : ¬ n < 0) (hn2 : n.toNatClampNeg ≤ 1000) (ho1 : okH hp.length hp = true) (hc1 : uc + 1 ≤ R.cells) (hc2 : us + n.toNatClampNeg ≤ R.slots) (hA : AS D s.heap.size g hp s H) (hS : va_S (fun q => s.heap.size ≤ q) s.heap H locs)
    (kk : ∀ (q : Nat) (cA : ClassId) (H1 : Heap), AS D s.heap.size (gup g hp.length q cA) (hp ++ [.inl (2, n.toNatClampNeg)]) s H1 → va_S (fun q => s.heap.size ≤ q) s.heap H1 locs → W p l e R s m args below meth c H1 locs (uc + 1) (us + n.toNatClampNeg) QQ (F0 m (pc + 2) lsr (.ref q :: rest))) : W p l e R s m args below meth c H locs uc us QQ (F0 m pc lsr (.int n :: rest)) := by
  obtain ⟨hP, hD, hK0, hK⟩ := id hA
  refine va_newa (atype := .long) (ty := .long) (a0 := (n.toNatClampNeg, .inr (.inl fun _ => 0))) hx hb (hts _ hl) rfl hK0 hP hD hS (fun q hq => hq) (fun _ => rfl) hn rfl (by show n.toNatClampNeg * 8 ≤ 536870912; omega) hc1 hc2 hd (fun q cA H1 hK1 hP1 hD1 hS1 => ?_)
  have hgu := gup_lt (g := g) (n := hp.length) (q := q) (cA := cA)
  have hq0 : (gup g hp.length q cA).1 hp.length = q := if_pos rfl
  have hq1 : (gup g hp.length q cA).2 hp.length = cA := if_pos rfl
  have ew : aworld (gup g hp.length q cA) (hp ++ [.inl (2, n.toNatClampNeg)]) = aworld g hp ++ [(q, .inl (cA, n.toNatClampNeg, .inr (.inl fun _ => 0)))] := by
    rw [aworld_app, aworld_ok hgu ho1]
    simp only [acell]
    rw [hq0, hq1]
  exact kk q cA H1 ⟨by rw [ew]; exact hP1, by rw [ew]; exact hD1, hK0, (hK.ext hgu).app (fun t9 n9 hx9 => by cases hx9; rw [hq1]; exact hK1)⟩ hS1
theorem lw_callA {M C : MD} {index mc ms d k q : Nat} {h2 : List AE} (hx : p.tables.exec = Jvm.exec) (hb : c.code = M.2.1) (hml : c.maxLocals = M.2.2.1) (hown : s.vm.findClass M.1.cls = some m.cls) (hts : ∀ w ∈ tb, w.before args s = true) (hd : decode M.2.1 pc = .ok (.invokespecial index, 3)) (hl : Cond.methodLink M.1.cls index C.1 ∈ tb) (hC : MOk C 0 ∧ Cond.instanceMethod C.1 ∈ tb) (hname : C.1.name = "<init>") (hret : C.2.2.2.1 = none) (hA9 : ACl d mc ms C [.ref k] hp h2) (hkq : g.1 k = q) (hR : d + 1 ≤ R.frames ∧ 60 * (d + 1) ≤ R.locals) (hcat : (rest.map fun v => v.category).sum ≤ 8) (hsz : lsr.size = M.2.2.1) (hc1 : uc + mc ≤ R.cells) (hc2 : us + ms ≤ R.slots) (hax : AX s) (hA : AS D s.heap.size g hp s H) (hS : va_S (fun q => s.heap.size ≤ q) s.heap H locs)
    (kk : ∀ (g' : GA) (H1 : Heap) (locs1 : List Loc), (∀ j, j < hp.length → g'.1 j = g.1 j ∧ g'.2 j = g.2 j) → AS D s.heap.size g' h2 s H1 → va_S (fun q => s.heap.size ≤ q) s.heap H1 locs1 → W p l e R s m args below meth c H1 locs1 (uc + mc) (us + ms) QQ (F0 m (pc + 3) lsr rest)) : W p l e R s m args below meth c H locs uc us QQ (F0 m pc lsr (.ref q :: rest)) := by
  have hM := hA9 D s.heap.size g l { frames := d, cells := mc, slots := ms, locals := 60 * d } rfl rfl (Nat.le_refl _) (Nat.le_refl _)
  have hroom : d + 1 ≤ R.frames ∧ 8 + (C.2.2.1 + 11) + 60 * d ≤ R.locals := ⟨hR.1, by have := hC.1.2.2.2.2.1; have := hR.2; omega⟩
  have hr := va_runI (e := e) (below := below) (meth := meth) (H := H) (locs := locs) (cells := uc) (slots := us) (b := q) (bytes := C.2.1) (maxL := C.2.2.1) (n := 0) (index := index) (own := M.1.cls) (As := []) (rest := rest) (g := F0 m pc lsr (.ref q :: rest)) ⟨hx, hb, hml, hown, hts⟩ hM ⟨callB_of 0 hts (tb_good (mdw_in hC.1)) (by show _ = Cond.code C.1 C.2.1 C.2.2.1 none :: tb; unfold mdw; rw [hret]) rfl rfl (hts _ hC.1.2.1) (hts _ hl) hC.1.2.2.1 hroom, hname, hts _ hC.2⟩
    ⟨ACP.blind, fun U hUh hW => ⟨by rw [← hkq]; rfl, by rw [hUh]; exact hA.moved hW.alike, hax.warm hW, by rw [hUh]; exact hS.1⟩⟩ rfl rfl hsz rfl (by show 2 * 0 + _ ≤ 8; omega) hd ⟨hc1, hc2⟩
  intro T hT Xs
  obtain ⟨v, st₀, t, T', L, q0, X', hL9, e1, e2, ⟨hv, ⟨g', hgg, hA2⟩, hz, hkk⟩, stp⟩ := hr T hT Xs
  cases hv
  rw [q0] at hz hkk
  have hA3 : AS D s.heap.size g' h2 s T'.heap := by
    have h3 := hA2.moved (U := s) (by rw [← e2]; exact X'.warmed.alike.symm)
    rw [e1]
    exact h3
  have hS3 : va_S (fun q => s.heap.size ≤ q) s.heap T'.heap (locs ++ L) := ⟨Nat.le_trans hS.1 (by rw [e1]; exact hz), fun q q1 q2 => by rw [e1, hkk q (Nat.lt_of_lt_of_le q1 hS.1) q2]; exact hS.2.1 q q1 q2, fun q hq => by
    rcases List.mem_append.mp hq with z | z
    · exact hS.2.2 q z
    · exact hL9 q z⟩
  obtain ⟨t2, a9, b9⟩ := kk g' T'.heap (locs ++ L) hgg hA3 hS3 T' rfl X'
  exact ⟨t2, stp t2 a9, b9⟩
end LawStart
def fs10 : List Value := [.null, .int 0, .null, .null, .null, .null, .null, .null, .null, .null, .null, .int 0, .int 0, .int 0]
def fs11 : List Value := [.int 0, .null, .int 0, .int 0, .int 0, .int 0, .int 0, .int 0, .int 0, .int 0, .int 0, .int 0, .null, .int 0, .int 0, .null, .null, .null, .null, .null, .int 0, .int 0, .int 0, .null, .null, .int 0, .null, .null, .int 0, .int 0, .int 0, .int 0, .null, .int 0, .int 0, .int 0, .long 0, .long 0, .long 0, .long 0, .null, .int 0, .int 0]
theorem he_1 : h0_cn_X10_init_0 = [] ++ [.inr (10, fs10)] := rfl
theorem he_2 : h0_cn_X11_init_59 = hF_cn_X10_init_0 ++ [.inr (11, fs11)] := rfl
theorem he_3 : hEND = hF_cn_X11_init_59 ++ [.inl (2, 1)] := rfl
theorem he_l0 : hF_cn_X10_init_0.length = 59 := by decide +kernel
theorem he_l1 : hF_cn_X11_init_59.length = 73 := by decide +kernel
theorem ho_1 : okH hF_cn_X10_init_0.length hF_cn_X10_init_0 = true := by decide +kernel
theorem ho_2 : okH hF_cn_X11_init_59.length hF_cn_X11_init_59 = true := by decide +kernel
theorem ad_10 : ∀ j, j < 14 → defaultValue (tyX10 j) = vp_V fs10 j := by decide +kernel
theorem ad_11 : ∀ j, j < 43 → defaultValue (tyX11 j) = vp_V fs11 j := by decide +kernel
theorem dl_0 : decode cL_law 0 = .ok (.new 8, 3) := by decide +kernel
theorem dl_3 : decode cL_law 3 = .ok (.dup, 1) := by decide +kernel
theorem dl_4 : decode cL_law 4 = .ok (.invokespecial 15, 3) := by decide +kernel
theorem dl_7 : decode cL_law 7 = .ok (.astore_n 1, 1) := by decide +kernel
theorem dl_8 : decode cL_law 8 = .ok (.new 16, 3) := by decide +kernel
theorem dl_11 : decode cL_law 11 = .ok (.dup, 1) := by decide +kernel
theorem dl_12 : decode cL_law 12 = .ok (.invokespecial 18, 3) := by decide +kernel
theorem dl_15 : decode cL_law 15 = .ok (.astore_n 2, 1) := by decide +kernel
theorem dl_16 : decode cL_law 16 = .ok (.iconst 1, 1) := by decide +kernel
theorem dl_17 : decode cL_law 17 = .ok (.newarray .long, 2) := by decide +kernel
theorem dl_19 : decode cL_law 19 = .ok (.astore_n 3, 1) := by decide +kernel
theorem trc_of {l : Launch} (h : l.flags = flags0) : l.stackTraces = false := by
  unfold Launch.stackTraces
  rw [h]
  decide +kernel
/-- each class of the tables has its number and its slots -/
theorem K_of {args : Array Value} {s : State} (hts : ∀ w ∈ tb, w.before args s = true) (hi : ∀ (k : Nat) (q : vw_C), vwCl[k]? = some q → ∃ n, Cond.instantiable q.1 n ∈ tb) (hC : ∀ k, k < 12 → CLok k) : ∃ D : va_G, va_K D vwCl [] s := by
  have h0 : ∀ k : Nat, ∃ x : ClassId × (Nat → Nat), ∀ q : vw_C, vwCl[k]? = some q → u_Kn s q.1 q.2.1 q.2.2 x.1 x.2 := by
    intro k
    cases hq : vwCl[k]? with
    | none => exact ⟨(0, fun _ => 0), fun q h => by cases h⟩
    | some q =>
      have hk : k < 12 := (List.getElem?_eq_some_iff.mp hq).1
      obtain ⟨C, T, N, ty, g1, g2, -, -⟩ := hC k hk
      cases hq.symm.trans g1
      obtain ⟨n, hn⟩ := hi k _ hq
      obtain ⟨cC, iS, h9⟩ := u_known (C := C) (T := T) (N := N) (n := n) hts g2 (hts _ hn)
      exact ⟨(cC, iS), fun q h => by cases h; exact h9⟩
  obtain ⟨f, hf⟩ := Classical.axiomOfChoice h0
  exact ⟨(fun k => (f k).1, fun k => (f k).2), fun k q hq => hf k q hq, fun k q h => by simp at h⟩
theorem K_start {args : Array Value} {s : State} (hts : ∀ w ∈ tb, w.before args s = true) : ∃ D : va_G, va_K D vwCl [] s := by
  refine K_of hts (fun k q hq => ?_) (fun k hk => ?_)
  · match k, hq with
    | 0, hq => cases hq; exact ⟨4, tw_414⟩
    | 1, hq => cases hq; exact ⟨5, tw_463⟩
    | 2, hq => cases hq; exact ⟨11, tw_369⟩
    | 3, hq => cases hq; exact ⟨5, tw_287⟩
    | 4, hq => cases hq; exact ⟨6, tw_221⟩
    | 5, hq => cases hq; exact ⟨7, tw_435⟩
    | 6, hq => cases hq; exact ⟨5, tw_281⟩
    | 7, hq => cases hq; exact ⟨4, tw_259⟩
    | 8, hq => cases hq; exact ⟨7, tw_316⟩
    | 9, hq => cases hq; exact ⟨13, tw_135⟩
    | 10, hq => cases hq; exact ⟨14, ls_n10⟩
    | 11, hq => cases hq; exact ⟨43, ls_n11⟩
    | k + 12, hq => simp at hq
  · match k, hk with
    | 0, _ => exact clok_0
    | 1, _ => exact clok_1
    | 2, _ => exact clok_2
    | 3, _ => exact clok_3
    | 4, _ => exact clok_4
    | 5, _ => exact clok_5
    | 6, _ => exact clok_6
    | 7, _ => exact clok_7
    | 8, _ => exact clok_8
    | 9, _ => exact clok_9
    | 10, _ => exact clok_10
    | 11, _ => exact clok_11
    | k + 12, hk => omega
