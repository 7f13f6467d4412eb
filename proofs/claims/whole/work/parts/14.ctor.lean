/-! making cells: an array (sort, length; all 0), or an object (class, fields) -/
abbrev AE : Type := (Nat × Nat) ⊕ (Nat × List Value)
abbrev GA : Type := (Nat → Nat) × (Nat → ClassId)
def czA (ad : Nat → Nat) : Value → Value
  | .ref k => .ref (ad k)
  | v => v
def acell (g : GA) (k : Nat) : AE → Nat × va_E
  | .inl (0, n) => (g.1 k, .inl (g.2 k, n, .inl fun _ => 0))
  | .inl (1, n) => (g.1 k, .inl (g.2 k, n, .inl fun _ => 0))
  | .inl (2, n) => (g.1 k, .inl (g.2 k, n, .inr (.inl fun _ => 0)))
  | .inl (_, n) => (g.1 k, .inl (g.2 k, n, .inr (.inr (.inr (.inr (fun i => if i < n then some (g.1 (k + 1 + i)) else none))))))
  | .inr (ci, fs) => (g.1 k, .inr (ci, fs.map (czA g.1)))
def aworld (g : GA) (hp : List AE) : va_W := hp.mapIdx fun k x => acell g k x
/-- all cells named lie below n -/
def okV (n : Nat) : Value → Bool
  | .ref k => decide (k < n)
  | _ => true
def okE (n k : Nat) : AE → Bool
  | .inl (3, m) => decide (k + 1 + m ≤ n)
  | .inl (t, _) => decide (t < 3)
  | .inr (_, fs) => fs.all (okV n)
def okH (n : Nat) (hp : List AE) : Bool := (hp.mapIdx fun k x => okE n k x).all id
theorem czA_ok {n : Nat} {a b : Nat → Nat} (h : ∀ k, k < n → b k = a k) {v : Value} (hv : okV n v = true) : czA b v = czA a v := by
  cases v with
  | ref k => simp only [czA]; rw [h k (by simpa [okV] using hv)]
  | _ => rfl
theorem acell_ok {n k : Nat} {g g' : GA} (h : ∀ j, j < n → g'.1 j = g.1 j ∧ g'.2 j = g.2 j) {x : AE} (hk : k < n) (hx : okE n k x = true) : acell g' k x = acell g k x := by
  have e1 := (h k hk).1
  have e2 := (h k hk).2
  match x, hx with
  | .inl (0, m), _ => simp only [acell]; rw [e1, e2]
  | .inl (1, m), _ => simp only [acell]; rw [e1, e2]
  | .inl (2, m), _ => simp only [acell]; rw [e1, e2]
  | .inl (3, m), hx =>
    have hx : k + 1 + m ≤ n := by simpa [okE] using hx
    have ef : (fun i => if i < m then some (g'.1 (k + 1 + i)) else none) = fun i => if i < m then some (g.1 (k + 1 + i)) else none := by
      funext i
      by_cases q : i < m
      · rw [if_pos q, if_pos q, (h (k + 1 + i) (by omega)).1]
      · rw [if_neg q, if_neg q]
    simp only [acell]
    rw [e1, e2, ef]
  | .inl (t + 4, m), hx =>
    have hx : t + 4 < 3 := by simpa [okE] using hx
    omega
  | .inr (ci, fs), hx =>
    have hx : ∀ v ∈ fs, okV n v = true := by simpa [okE] using hx
    simp only [acell]
    rw [e1]
    congr 3
    exact List.map_congr_left fun v hv => czA_ok (fun j hj => (h j hj).1) (hx v hv)
theorem aworld_ok {g g' : GA} {hp : List AE} (h : ∀ j, j < hp.length → g'.1 j = g.1 j ∧ g'.2 j = g.2 j) (hx : okH hp.length hp = true) : aworld g' hp = aworld g hp := by
  apply List.ext_getElem?
  intro i
  simp only [aworld, List.getElem?_mapIdx]
  cases hi : hp[i]? with
  | none => rfl
  | some x =>
    have hl : i < hp.length := (List.getElem?_eq_some_iff.mp hi).1
    have h2 : okE hp.length i x = true := by
      have h3 := List.all_eq_true.mp hx (okE hp.length i x) (by
        refine List.mem_of_getElem? (i := i) ?_
        rw [List.getElem?_mapIdx, hi]
        rfl)
      exact h3
    simp only [Option.map_some]
    rw [acell_ok h hl h2]
theorem aworld_at {g : GA} {hp : List AE} {k : Nat} {x : AE} (h : hp[k]? = some x) : (aworld g hp)[k]? = some (acell g k x) := by
  simp [aworld, List.getElem?_mapIdx, h]
theorem aworld_app {g : GA} {hp : List AE} {x : AE} : aworld g (hp ++ [x]) = aworld g hp ++ [acell g hp.length x] := by
  simp [aworld, List.mapIdx_append]
theorem aworld_set {g : GA} {hp : List AE} {k : Nat} {x : AE} : aworld g (hp.set k x) = (aworld g hp).set k (acell g k x) := by
  apply List.ext_getElem?
  intro i
  simp only [aworld, List.getElem?_mapIdx, List.getElem?_set, List.length_mapIdx]
  by_cases e : k = i
  · subst e
    by_cases q : k < hp.length <;> simp [q]
  · simp [e]
/-- private constructors that nest mates call; the class of rows of rows -/
def nestL : List Cond := [.methodLinkNest "RoofRegatta" 15 ⟨"RoofRegatta$Told", "<init>", "()V"⟩ "RoofRegatta", .methodLinkNest "RoofRegatta" 34 ⟨"RoofRegatta$Standing", "<init>", "()V"⟩ "RoofRegatta", .methodLinkNest "RoofRegatta$Reade\x72" 11 ⟨"RoofRegatta$Names", "<init>", "()V"⟩ "RoofRegatta", .methodLinkNest "RoofRegatta$Reade\x72" 20 ⟨"RoofRegatta$Told", "<init>", "()V"⟩ "RoofRegatta"]
def AX (U : State) : Prop := (∀ w ∈ nestL, va_Nw w U) ∧ va_AOA .int U
def isArrOf (comp : ClassId) (x : Class) : Bool := match x.kind with
  | .array component _ => component == comp
  | _ => false
def kArr (ty : FieldType) (U : State) (c : ClassId) (k : Class) : Bool := match k.kind with
  | .array _ t => decide (t = .array ty) && decide (U.vm.findClass ("[" ++ (FieldType.array ty).toString) = some c)
  | _ => false
theorem AOA_e {ty : FieldType} {U : State} : va_AOA ty U ↔ (((U.vm.findClass (FieldType.array ty).toString).bind fun comp => (U.vm.classes.findIdx? (isArrOf comp)).bind fun c => (U.vm.classes[c]?).map (kArr ty U c)) == some true) = true := Iff.rfl
theorem idx_bare (vm : Vm) (comp : ClassId) : (vm.bare.classes.findIdx? (isArrOf comp)) = (vm.classes.findIdx? (isArrOf comp)) := by
  simp only [Vm.bare, Array.findIdx?_map]
  rfl
theorem va_AOA.moved {ty : FieldType} {u U : State} (hvm : u.vm.Alike U.vm) (h : va_AOA ty u) : va_AOA ty U := by
  rw [AOA_e] at h ⊢
  rw [hvm.findClass]
  cases hc : u.vm.findClass (FieldType.array ty).toString with
  | none => rw [hc] at h; simp at h
  | some comp =>
    rw [hc] at h
    simp only [Option.bind_some] at h ⊢
    have hi2 : U.vm.classes.findIdx? (isArrOf comp) = u.vm.classes.findIdx? (isArrOf comp) := by
      rw [← idx_bare U.vm, ← idx_bare u.vm]
      first | rw [hvm.bare_eq] | rw [← hvm.bare_eq]
    rw [hi2]
    cases hi : u.vm.classes.findIdx? (isArrOf comp) with
    | none => rw [hi] at h; simp at h
    | some c =>
      rw [hi] at h
      simp only [Option.bind_some] at h ⊢
      cases hk : u.vm.classes[c]? with
      | none => rw [hk] at h; simp at h
      | some k =>
        obtain ⟨k', hk', he⟩ := hvm.2.2 _ _ hk
        rw [hk] at h
        rw [hk']
        have e9 : k'.kind = k.kind := by rw [he]
        simp only [Option.map_some] at h ⊢
        have e10 : kArr ty U c k' = kArr ty u c k := by
          unfold kArr
          rw [e9, hvm.findClass]
        rw [e10]
        exact h
theorem AX.warm {s U : State} (hW : s.WarmedH U.vm) (h : AX s) : AX U := by
  refine ⟨fun w hw => ?_, va_AOA.moved hW.alike h.2⟩
  have hz := h.1 w hw
  simp only [nestL, List.mem_cons, List.mem_nil_iff, or_false] at hw
  rcases hw with rfl | rfl | rfl | rfl <;> exact va_Nw.warmM hW hz
theorem AX.same {s U : State} (hv : s.vm = U.vm) (h : AX s) : AX U := by
  refine ⟨fun w hw => ?_, va_AOA.moved (by rw [hv]; exact Vm.Alike.refl _) h.2⟩
  have hz := h.1 w hw
  simp only [nestL, List.mem_cons, List.mem_nil_iff, or_false] at hw
  rcases hw with rfl | rfl | rfl | rfl <;> exact va_Nw.same rfl hv hz
def AK (D : va_G) (g : GA) (hp : List AE) (U : State) : Prop := ∀ k t n, hp[k]? = some (.inl (t, n)) → va_K D vwCl [(g.2 k, tyA t)] U
def AS (D : va_G) (base : Nat) (g : GA) (hp : List AE) (U : State) (H : Heap) : Prop := va_P D vwCl (aworld g hp) H ∧ va_D (fun q => base ≤ q) (aworld g hp) ∧ va_K D vwCl [] U ∧ AK D g hp U
theorem AS.moved {D : va_G} {base : Nat} {g : GA} {hp : List AE} {u U : State} {H : Heap} (hvm : u.vm.Alike U.vm) (h : AS D base g hp u H) : AS D base g hp U H := ⟨h.1, h.2.1, va_K.moved hvm h.2.2.1, fun k t n hk => va_K.moved hvm (h.2.2.2 k t n hk)⟩
def ACP (D : va_G) (base : Nat) (g : GA) (as : List Value) (hp : List AE) : Array Value → State → Prop := fun v U => v = (as.map (czA g.1)).toArray ∧ AS D base g hp U U.heap ∧ AX U ∧ base ≤ U.heap.size
def ACQ (D : va_G) (base : Nat) (g : GA) (hp hF : List AE) : Array Value → State → Outcome → State → Prop := fun _ st oc t => oc = .returned none ∧ (∃ g' : GA, (∀ k, k < hp.length → g'.1 k = g.1 k ∧ g'.2 k = g.2 k) ∧ AS D base g' hF t t.heap) ∧ va_F (fun q => base ≤ q) st t
def ACl (d mc ms : Nat) (M : MD) (as : List Value) (hp hF : List AE) : Prop :=
  ∀ (D : va_G) (base : Nat) (g : GA) (l : Launch) (rm : Room), rm.cells = mc → rm.slots = ms → d ≤ rm.frames → 60 * d ≤ rm.locals → Met l M.1 (mdw M) rm (ACP D base g as hp) (ACQ D base g hp hF) mc ms (fun q => base ≤ q)
theorem ACP.blind {D : va_G} {base : Nat} {g : GA} {as : List Value} {hp : List AE} : FrameBlind (ACP D base g as hp) := fun a U g mk h => ⟨h.1, AS.moved (u := U) (Vm.Alike.refl _) h.2.1, AX.same (s := U) rfl h.2.2.1, h.2.2.2⟩
def AWp (d : Nat) (M : MD) (hF : List AE) (mcF msF : Nat) (pc : Nat) (ls st : List Value) (hp : List AE) (uc us : Nat) : Prop :=
  ∀ (D : va_G) (base : Nat) (p : Program) (l : Launch) (e : Env) (R : Room) (s : State) (m : MethodId) (args : Array Value) (below : List Frame) (meth : Method) (c : Code) (QQ : State → Prop) (g0 : GA) (n0 : Nat),
    (p.tables.exec = Jvm.exec ∧ c.code = M.2.1 ∧ c.maxLocals = M.2.2.1 ∧ s.vm.findClass M.1.cls = some m.cls ∧ (∀ w ∈ tb, w.before args s = true) ∧ (d + 1 ≤ R.frames ∧ 60 * (d + 1) ≤ R.locals ∧ mcF ≤ R.cells ∧ msF ≤ R.slots) ∧ meth.name = "<init>" ∧ AX s ∧ base ≤ s.heap.size) →
    (∀ (g : GA) (pc : Nat) (lsr : Array Slot) (H : Heap) (locs : List Loc), (∀ k, k < n0 → g.1 k = g0.1 k ∧ g.2 k = g0.2 k) → decode M.2.1 pc = .ok (.return_, 1) → AS D base g hF s H → va_S (fun q => base ≤ q) s.heap H locs → W p l e R s m args below meth c H locs mcF msF QQ (F0 m pc lsr [])) →
    ∀ (g : GA) (H : Heap) (locs : List Loc) (lsr : Array Slot), (∀ k, k < n0 → g.1 k = g0.1 k ∧ g.2 k = g0.2 k) → n0 ≤ hp.length → AS D base g hp s H → va_S (fun q => base ≤ q) s.heap H locs → lsr.size = M.2.2.1 → (∀ (i : Nat) (v : Value), ls[i]? = some v → lsr[i]? = some (.val (czA g.1 v))) →
      W p l e R s m args below meth c H locs uc us QQ (F0 m pc lsr (st.map (czA g.1)))
abbrev AKn : Type := List Value → List Value → List AE → Nat → Nat → Prop
def ASnd (d : Nat) (M : MD) (hF : List AE) (mcF msF pc : Nat) (X : AKn) : Prop := ∀ ls st hp uc us, X ls st hp uc us → AWp d M hF mcF msF pc ls st hp uc us
def a_ic (v : Int32) (K : AKn) : AKn := fun ls st hp uc us => K ls (.int v :: st) hp uc us
theorem ok_a_iconst {d : Nat} {M : MD} {hF : List AE} {mcF msF pc : Nat} {v : Int32} {K : AKn} {n : Int} (hd : decode M.2.1 pc = .ok (.iconst n, 1)) (hv : Int32.ofInt n = v) (hk : ASnd d M hF mcF msF (pc + 1) K) : ASnd d M hF mcF msF pc (a_ic v K) := by
  intro ls st hp uc us h
  intro D base p l e R s m args below meth c QQ g0 n0 X hend g H locs lsr hg hn0 hA hS hsz hL; obtain ⟨hx, hb, hml, hown, hts, hR, hnm, hax, hbs⟩ := id X; obtain ⟨hP, hD, hK0, hK⟩ := id hA
  exact lv_iconst hx hb hd hv (hk _ _ _ _ _ h D base p l e R s m args below meth c QQ g0 n0 X hend g H locs lsr hg hn0 hA hS hsz hL)
theorem ok_a_bipush {d : Nat} {M : MD} {hF : List AE} {mcF msF pc : Nat} {v : Int32} {K : AKn} {n : Int} (hd : decode M.2.1 pc = .ok (.bipush n, 2)) (hv : (Int8.ofInt n).toInt32 = v) (hk : ASnd d M hF mcF msF (pc + 2) K) : ASnd d M hF mcF msF pc (a_ic v K) := by
  intro ls st hp uc us h
  intro D base p l e R s m args below meth c QQ g0 n0 X hend g H locs lsr hg hn0 hA hS hsz hL; obtain ⟨hx, hb, hml, hown, hts, hR, hnm, hax, hbs⟩ := id X; obtain ⟨hP, hD, hK0, hK⟩ := id hA
  exact lv_bipush hx hb hd hv (hk _ _ _ _ _ h D base p l e R s m args below meth c QQ g0 n0 X hend g H locs lsr hg hn0 hA hS hsz hL)
theorem ok_a_sipush {d : Nat} {M : MD} {hF : List AE} {mcF msF pc : Nat} {v : Int32} {K : AKn} {n : Int} (hd : decode M.2.1 pc = .ok (.sipush n, 3)) (hv : (Int16.ofInt n).toInt32 = v) (hk : ASnd d M hF mcF msF (pc + 3) K) : ASnd d M hF mcF msF pc (a_ic v K) := by
  intro ls st hp uc us h
  intro D base p l e R s m args below meth c QQ g0 n0 X hend g H locs lsr hg hn0 hA hS hsz hL; obtain ⟨hx, hb, hml, hown, hts, hR, hnm, hax, hbs⟩ := id X; obtain ⟨hP, hD, hK0, hK⟩ := id hA
  exact lv_sipush hx hb hd hv (hk _ _ _ _ _ h D base p l e R s m args below meth c QQ g0 n0 X hend g H locs lsr hg hn0 hA hS hsz hL)
def a_lc (v : Int64) (K : AKn) : AKn := fun ls st hp uc us => K ls (.long v :: st) hp uc us
theorem ok_a_lconst {d : Nat} {M : MD} {hF : List AE} {mcF msF pc : Nat} {v : Int64} {K : AKn} {n : Fin 2} (hd : decode M.2.1 pc = .ok (.lconst n, 1)) (hv : Int64.ofNat (n : Nat) = v) (hk : ASnd d M hF mcF msF (pc + 1) K) : ASnd d M hF mcF msF pc (a_lc v K) := by
  intro ls st hp uc us h
  intro D base p l e R s m args below meth c QQ g0 n0 X hend g H locs lsr hg hn0 hA hS hsz hL; obtain ⟨hx, hb, hml, hown, hts, hR, hnm, hax, hbs⟩ := id X; obtain ⟨hP, hD, hK0, hK⟩ := id hA
  exact lv_lconst hx hb hd hv (hk _ _ _ _ _ h D base p l e R s m args below meth c QQ g0 n0 X hend g H locs lsr hg hn0 hA hS hsz hL)
def a_ld (i : Nat) (K : AKn) : AKn := fun ls st hp uc us => match ls[i]? with
  | some (.ref x) => K ls (.ref x :: st) hp uc us
  | _ => False
theorem ok_a_ld {d : Nat} {M : MD} {hF : List AE} {mcF msF pc : Nat} {i : Nat} {K : AKn} {k : Fin 4} (hd : decode M.2.1 pc = .ok (.aload_n k, 1)) (hi : (k : Nat) = i) (hk : ASnd d M hF mcF msF (pc + 1) K) : ASnd d M hF mcF msF pc (a_ld i K) := by
  intro ls st hp uc us h
  unfold a_ld at h
  split at h
  next x h0 =>
    intro D base p l e R s m args below meth c QQ g0 n0 X hend g H locs lsr hg hn0 hA hS hsz hL; obtain ⟨hx, hb, hml, hown, hts, hR, hnm, hax, hbs⟩ := id X; obtain ⟨hP, hD, hK0, hK⟩ := id hA
    exact lv_aload_n hx hb hd hi (hL i _ h0) (hk _ _ _ _ _ h D base p l e R s m args below meth c QQ g0 n0 X hend g H locs lsr hg hn0 hA hS hsz hL)
  next => exact h.elim
def a_dup (K : AKn) : AKn := fun ls st hp uc us => match st with
  | .ref x :: r => K ls (.ref x :: .ref x :: r) hp uc us
  | _ => False
theorem ok_a_dup {d : Nat} {M : MD} {hF : List AE} {mcF msF pc : Nat} {K : AKn} (hd : decode M.2.1 pc = .ok (.dup, 1)) (hk : ASnd d M hF mcF msF (pc + 1) K) : ASnd d M hF mcF msF pc (a_dup K) := by
  intro ls st hp uc us h
  unfold a_dup at h
  split at h
  next x r =>
    intro D base p l e R s m args below meth c QQ g0 n0 X hend g H locs lsr hg hn0 hA hS hsz hL; obtain ⟨hx, hb, hml, hown, hts, hR, hnm, hax, hbs⟩ := id X; obtain ⟨hP, hD, hK0, hK⟩ := id hA
    exact lv_dup hx hb hd rfl (hk _ _ _ _ _ h D base p l e R s m args below meth c QQ g0 n0 X hend g H locs lsr hg hn0 hA hS hsz hL)
  next => exact h.elim
def a_obj (K : AKn) : AKn := fun ls st hp uc us => match st with
  | .ref _ :: r => r = [] ∧ K ls r hp uc us
  | _ => False
theorem ok_a_obj {d : Nat} {M : MD} {hF : List AE} {mcF msF pc : Nat} {K : AKn} {index : Nat} (hd : decode M.2.1 pc = .ok (.invokespecial index, 3)) (hl : Cond.methodLink M.1.cls index Lib.objectInit ∈ tb) (hl2 : Cond.instanceMethod Lib.objectInit ∈ tb) (hl3 : Cond.code Lib.objectInit ⟨#[0xb1]⟩ 1 none ∈ tb) (hk : ASnd d M hF mcF msF (pc + 3) K) : ASnd d M hF mcF msF pc (a_obj K) := by
  intro ls st hp uc us h
  unfold a_obj at h
  split at h
  next x r =>
    obtain ⟨rfl, h⟩ := h
    intro D base p l e R s m args below meth c QQ g0 n0 X hend g H locs lsr hg hn0 hA hS hsz hL; obtain ⟨hx, hb, hml, hown, hts, hR, hnm, hax, hbs⟩ := id X; obtain ⟨hP, hD, hK0, hK⟩ := id hA
    exact W.objInit hx hb hown (hts _ hl) (hts _ hl2) (hts _ hl3) (g := F0 m pc lsr [.ref (g.1 x)]) rfl (hsz.trans hml.symm) rfl hd (by have := hR.1; omega) (by show 2 * 0 + 0 + 12 ≤ _; have := hR.2.1; omega) (hk _ _ _ _ _ h D base p l e R s m args below meth c QQ g0 n0 X hend g H locs lsr hg hn0 hA hS hsz hL)
  next => exact h.elim
def a_ret (hF : List AE) (mcF msF : Nat) : AKn := fun _ st hp uc us => st = [] ∧ hp = hF ∧ uc ≤ mcF ∧ us ≤ msF
theorem ok_a_ret {d : Nat} {M : MD} {hF : List AE} {mcF msF pc : Nat} (hd : decode M.2.1 pc = .ok (.return_, 1)) : ASnd d M hF mcF msF pc (a_ret hF mcF msF) := by
  intro ls st hp uc us h
  obtain ⟨rfl, rfl, h1, h2⟩ := h
  intro D base p l e R s m args below meth c QQ g0 n0 X hend g H locs lsr hg hn0 hA hS hsz hL; obtain ⟨hx, hb, hml, hown, hts, hR, hnm, hax, hbs⟩ := id X; obtain ⟨hP, hD, hK0, hK⟩ := id hA
  exact W.widen h1 h2 (hend g pc lsr H locs hg hd hA hS)
def a_get (ci f : Nat) (K : AKn) : AKn := fun ls st hp uc us => match st with
  | .ref k :: r => match hp[k]? with
    | some (.inr (cj, fs)) => ci = cj ∧ (match fs[f]? with
      | some v => K ls (v :: r) hp uc us
      | none => False)
    | _ => False
  | _ => False
theorem ok_a_get {d : Nat} {M : MD} {hF : List AE} {mcF msF pc : Nat} {ci f index : Nat} {K : AKn} {C : String} {T : u_T} {N : Nat} (hd : decode M.2.1 pc = .ok (.getfield index, 3)) (hcl : vwCl[ci]? = some (C, T, N)) (hC : CLok ci) (hf : f < N) (hl : Cond.fieldLink M.1.cls index (T f).1 (T f).2.1 (T f).2.2.1 ∈ tb) (hk : ASnd d M hF mcF msF (pc + 3) K) : ASnd d M hF mcF msF pc (a_get ci f K) := by
  intro ls st hp uc us h
  unfold a_get at h
  split at h
  next k r =>
    split at h
    next cj fs hsh =>
      obtain ⟨rfl, h⟩ := h
      split at h
      next v hv =>
        intro D base p l e R s m args below meth c QQ g0 n0 X hend g H locs lsr hg hn0 hA hS hsz hL; obtain ⟨hx, hb, hml, hown, hts, hR, hnm, hax, hbs⟩ := id X; obtain ⟨hP, hD, hK0, hK⟩ := id hA
        obtain ⟨C', T', N', ty, g1, g2, g3, g4⟩ := hC
        cases hcl.symm.trans g1
        exact va_get hx hb hts g2 hown hK0 hP k (aworld_at hsh) hcl f hf (hts _ hl) (fun _ q => q) (v := czA g.1 v) (by rw [List.getElem?_map, hv]; rfl) hd (hk _ _ _ _ _ h D base p l e R s m args below meth c QQ g0 n0 X hend g H locs lsr hg hn0 hA hS hsz hL)
      next => exact h.elim
    next => exact h.elim
  next => exact h.elim
def a_putF (ci f : Nat) (K : AKn) : AKn := fun ls st hp uc us => match st with
  | .ref x :: .ref k :: r => match hp[k]? with
    | some (.inr (cj, fs)) => ci = cj ∧ f < fs.length ∧ K ls r (hp.set k (.inr (ci, fs.set f (.ref x)))) uc us
    | _ => False
  | _ => False
theorem ok_a_putF {d : Nat} {M : MD} {hF : List AE} {mcF msF pc : Nat} {ci f index : Nat} {K : AKn} {C : String} {T : u_T} {N : Nat} {ty : FieldType} (hd : decode M.2.1 pc = .ok (.putfield index, 3)) (hcl : vwCl[ci]? = some (C, T, N)) (hC : CLok ci) (hf : f < N) (hl : Cond.fieldLink M.1.cls index (T f).1 (T f).2.1 (T f).2.2.1 ∈ tb) (hfin : (T f).2.2.2 = true) (hdecl : (T f).1 = M.1.cls) (hty : parseFieldDescriptor (T f).2.2.1 = some ty) (hn : ∀ a : Nat, narrow ty (.ref a) = .ref a ∧ fits ty (.ref a) = true) (hk : ASnd d M hF mcF msF (pc + 3) K) : ASnd d M hF mcF msF pc (a_putF ci f K) := by
  intro ls st hp uc us h
  unfold a_putF at h
  split at h
  next x k r =>
    split at h
    next cj fs hsh =>
      obtain ⟨rfl, hfl, h⟩ := h
      intro D base p l e R s m args below meth c QQ g0 n0 X hend g H locs lsr hg hn0 hA hS hsz hL; obtain ⟨hx, hb, hml, hown, hts, hR, hnm, hax, hbs⟩ := id X; obtain ⟨hP, hD, hK0, hK⟩ := id hA
      obtain ⟨C', T', N', ty0, g1, g2, g3, g4⟩ := hC
      cases hcl.symm.trans g1
      refine va_putF (v := .ref (g.1 x)) hx hb hts g2 ty0 g3 g4 hown hK0 hP hD hS k (aworld_at hsh) hcl f hf (hts _ hl) (fun _ q => q) hfin hnm hdecl hty (hn _).1 (hn _).2 (by simpa using hfl) hd (fun H1 locs1 hP1 hD1 hS1 => ?_)
      have e9 : (g.1 k, Sum.inr (ci, (fs.map (czA g.1)).set f (.ref (g.1 x)))) = acell g k (.inr (ci, fs.set f (.ref x))) := by simp only [acell, List.map_set]; rfl
      rw [e9, ← aworld_set] at hP1 hD1
      refine (hk _ _ _ _ _ h D base p l e R s m args below meth c QQ g0 n0 X hend g H1 locs1 lsr hg (by rw [List.length_set]; exact hn0) ⟨hP1, hD1, hK0, ?_⟩ hS1 hsz hL)
      intro j t n hj
      refine hK j t n ?_
      rw [List.getElem?_set] at hj
      by_cases q : k = j
      · subst q; simp at hj
      · rw [if_neg q] at hj; exact hj
    next => exact h.elim
  next => exact h.elim
def a_putI (ci f : Nat) (K : AKn) : AKn := fun ls st hp uc us => match st with
  | .int x :: .ref k :: r => match hp[k]? with
    | some (.inr (cj, fs)) => ci = cj ∧ f < fs.length ∧ K ls r (hp.set k (.inr (ci, fs.set f (.int x)))) uc us
    | _ => False
  | _ => False
theorem ok_a_putI {d : Nat} {M : MD} {hF : List AE} {mcF msF pc : Nat} {ci f index : Nat} {K : AKn} {C : String} {T : u_T} {N : Nat} {ty : FieldType} (hd : decode M.2.1 pc = .ok (.putfield index, 3)) (hcl : vwCl[ci]? = some (C, T, N)) (hC : CLok ci) (hf : f < N) (hl : Cond.fieldLink M.1.cls index (T f).1 (T f).2.1 (T f).2.2.1 ∈ tb) (hfin : (T f).2.2.2 = false) (hty : parseFieldDescriptor (T f).2.2.1 = some ty) (hn : ∀ a : Int32, narrow ty (.int a) = .int a ∧ fits ty (.int a) = true) (hk : ASnd d M hF mcF msF (pc + 3) K) : ASnd d M hF mcF msF pc (a_putI ci f K) := by
  intro ls st hp uc us h
  unfold a_putI at h
  split at h
  next x k r =>
    split at h
    next cj fs hsh =>
      obtain ⟨rfl, hfl, h⟩ := h
      intro D base p l e R s m args below meth c QQ g0 n0 X hend g H locs lsr hg hn0 hA hS hsz hL; obtain ⟨hx, hb, hml, hown, hts, hR, hnm, hax, hbs⟩ := id X; obtain ⟨hP, hD, hK0, hK⟩ := id hA
      obtain ⟨C', T', N', ty0, g1, g2, g3, g4⟩ := hC
      cases hcl.symm.trans g1
      refine va_put (v := .int x) hx hb hts g2 ty0 g3 g4 hown hK0 hP hD hS k (aworld_at hsh) hcl f hf (hts _ hl) (fun _ q => q) hfin hty (hn _).1 (hn _).2 (by simpa using hfl) hd (fun H1 locs1 hP1 hD1 hS1 => ?_)
      have e9 : (g.1 k, Sum.inr (ci, (fs.map (czA g.1)).set f (.int x))) = acell g k (.inr (ci, fs.set f (.int x))) := by simp only [acell, List.map_set]; rfl
      rw [e9, ← aworld_set] at hP1 hD1
      refine (hk _ _ _ _ _ h D base p l e R s m args below meth c QQ g0 n0 X hend g H1 locs1 lsr hg (by rw [List.length_set]; exact hn0) ⟨hP1, hD1, hK0, ?_⟩ hS1 hsz hL)
      intro j t n hj
      refine hK j t n ?_
      rw [List.getElem?_set] at hj
      by_cases q : k = j
      · subst q; simp at hj
      · rw [if_neg q] at hj; exact hj
    next => exact h.elim
  next => exact h.elim
def a_putL (ci f : Nat) (K : AKn) : AKn := fun ls st hp uc us => match st with
  | .long x :: .ref k :: r => match hp[k]? with
    | some (.inr (cj, fs)) => ci = cj ∧ f < fs.length ∧ K ls r (hp.set k (.inr (ci, fs.set f (.long x)))) uc us
    | _ => False
  | _ => False
theorem ok_a_putL {d : Nat} {M : MD} {hF : List AE} {mcF msF pc : Nat} {ci f index : Nat} {K : AKn} {C : String} {T : u_T} {N : Nat} {ty : FieldType} (hd : decode M.2.1 pc = .ok (.putfield index, 3)) (hcl : vwCl[ci]? = some (C, T, N)) (hC : CLok ci) (hf : f < N) (hl : Cond.fieldLink M.1.cls index (T f).1 (T f).2.1 (T f).2.2.1 ∈ tb) (hfin : (T f).2.2.2 = false) (hty : parseFieldDescriptor (T f).2.2.1 = some ty) (hn : ∀ a : Int64, narrow ty (.long a) = .long a ∧ fits ty (.long a) = true) (hk : ASnd d M hF mcF msF (pc + 3) K) : ASnd d M hF mcF msF pc (a_putL ci f K) := by
  intro ls st hp uc us h
  unfold a_putL at h
  split at h
  next x k r =>
    split at h
    next cj fs hsh =>
      obtain ⟨rfl, hfl, h⟩ := h
      intro D base p l e R s m args below meth c QQ g0 n0 X hend g H locs lsr hg hn0 hA hS hsz hL; obtain ⟨hx, hb, hml, hown, hts, hR, hnm, hax, hbs⟩ := id X; obtain ⟨hP, hD, hK0, hK⟩ := id hA
      obtain ⟨C', T', N', ty0, g1, g2, g3, g4⟩ := hC
      cases hcl.symm.trans g1
      refine va_put (v := .long x) hx hb hts g2 ty0 g3 g4 hown hK0 hP hD hS k (aworld_at hsh) hcl f hf (hts _ hl) (fun _ q => q) hfin hty (hn _).1 (hn _).2 (by simpa using hfl) hd (fun H1 locs1 hP1 hD1 hS1 => ?_)
      have e9 : (g.1 k, Sum.inr (ci, (fs.map (czA g.1)).set f (.long x))) = acell g k (.inr (ci, fs.set f (.long x))) := by simp only [acell, List.map_set]; rfl
      rw [e9, ← aworld_set] at hP1 hD1
      refine (hk _ _ _ _ _ h D base p l e R s m args below meth c QQ g0 n0 X hend g H1 locs1 lsr hg (by rw [List.length_set]; exact hn0) ⟨hP1, hD1, hK0, ?_⟩ hS1 hsz hL)
      intro j t n hj
      refine hK j t n ?_
      rw [List.getElem?_set] at hj
      by_cases q : k = j
      · subst q; simp at hj
      · rw [if_neg q] at hj; exact hj
    next => exact h.elim
  next => exact h.elim
def gup (g : GA) (n q : Nat) (cA : ClassId) : GA := (fun k => if k = n then q else g.1 k, fun k => if k = n then cA else g.2 k)
theorem gup_lt {g : GA} {n q : Nat} {cA : ClassId} : ∀ j, j < n → (gup g n q cA).1 j = g.1 j ∧ (gup g n q cA).2 j = g.2 j := fun j hj => ⟨if_neg (by omega), if_neg (by omega)⟩
theorem map_ok {g g' : GA} {n : Nat} (h : ∀ j, j < n → g'.1 j = g.1 j ∧ g'.2 j = g.2 j) {st : List Value} (hs : st.all (okV n) = true) : st.map (czA g'.1) = st.map (czA g.1) := List.map_congr_left fun v hv => czA_ok (fun j hj => (h j hj).1) (List.all_eq_true.mp hs v hv)
theorem loc_ok {g g' : GA} {n : Nat} {lsr : Array Slot} (h : ∀ j, j < n → g'.1 j = g.1 j ∧ g'.2 j = g.2 j) {ls : List Value} (hs : ls.all (okV n) = true) (hL : ∀ (i : Nat) (v : Value), ls[i]? = some v → lsr[i]? = some (.val (czA g.1 v))) : ∀ (i : Nat) (v : Value), ls[i]? = some v → lsr[i]? = some (.val (czA g'.1 v)) := by
  intro i v hi
  rw [czA_ok (fun j hj => (h j hj).1) (List.all_eq_true.mp hs v (List.mem_of_getElem? hi))]
  exact hL i v hi
/-- what must lie below the next cell: all that is named -/
def okA (ls st : List Value) (hp : List AE) : Bool := okH hp.length hp && (ls.all (okV hp.length) && st.all (okV hp.length))
def a_new (mcF msF ci : Nat) (fs : List Value) (K : AKn) : AKn := fun ls st hp uc us => okA ls st hp = true ∧ uc + 1 ≤ mcF ∧ us + fs.length ≤ msF ∧ K ls (.ref hp.length :: st) (hp ++ [.inr (ci, fs)]) (uc + 1) (us + fs.length)
theorem okA_1 {ls st : List Value} {hp : List AE} (h : okA ls st hp = true) : okH hp.length hp = true ∧ ls.all (okV hp.length) = true ∧ st.all (okV hp.length) = true := by
  simpa [okA, Bool.and_eq_true] using h
theorem AK.ext {D : va_G} {g g' : GA} {hp : List AE} {U : State} (h : AK D g hp U) (hg : ∀ j, j < hp.length → g'.1 j = g.1 j ∧ g'.2 j = g.2 j) : AK D g' hp U := by
  intro k t n hk
  rw [(hg k (List.getElem?_eq_some_iff.mp hk).1).2]
  exact h k t n hk
theorem AK.app {D : va_G} {g : GA} {hp : List AE} {U : State} {x : AE} (h : AK D g hp U) (hx : ∀ t n, x = .inl (t, n) → va_K D vwCl [(g.2 hp.length, tyA t)] U) : AK D g (hp ++ [x]) U := by
  intro k t n hk
  by_cases q : k < hp.length
  · rw [List.getElem?_append_left q] at hk
    exact h k t n hk
  · rw [List.getElem?_append_right (by omega)] at hk
    have hz : k - hp.length < 1 := (List.getElem?_eq_some_iff.mp hk).1
    have e9 : k = hp.length := by omega
    subst e9
    rw [Nat.sub_self] at hk
    exact hx t n (Option.some.inj hk)
theorem ok_a_new {d : Nat} {M : MD} {hF : List AE} {mcF msF pc : Nat} {ci index : Nat} {fs : List Value} {K : AKn} {C : String} {T : u_T} {N : Nat} {ty : Nat → FieldType} (hd : decode M.2.1 pc = .ok (.new index, 3)) (hcl : vwCl[ci]? = some (C, T, N)) (hC : CLok ci) (hty : ∀ k, k < N → parseFieldDescriptor (T k).2.2.1 = some (ty k)) (hl : Cond.classLink M.1.cls index C ∈ tb) (hl2 : Cond.instantiable C N ∈ tb) (hl3 : Cond.initialized C ∈ tb) (hfs : ∀ j, j < N → defaultValue (ty j) = vp_V fs j) (hno : fs.all (okV 0) = true) (hlen : fs.length = N) (hk : ASnd d M hF mcF msF (pc + 3) K) : ASnd d M hF mcF msF pc (a_new mcF msF ci fs K) := by
  intro ls st hp uc us h
  obtain ⟨hok, h1, h2, h⟩ := h
  obtain ⟨ho1, ho2, ho3⟩ := okA_1 hok
  intro D base p l e R s m args below meth c QQ g0 n0 X hend g H locs lsr hg hn0 hA hS hsz hL; obtain ⟨hx, hb, hml, hown, hts, hR, hnm, hax, hbs⟩ := id X; obtain ⟨hP, hD, hK0, hK⟩ := id hA
  obtain ⟨C', T', N', ty0, g1, g2, g3, g4⟩ := hC
  cases hcl.symm.trans g1
  rw [hlen] at h h2
  refine va_new (ci := ci) (fs := fs) hx hb hts g2 ty hty hown (hts _ hl) (hts _ hl2) (hts _ hl3) hK0 hP hD hS (fun q hq => Nat.le_trans hbs hq) hcl hfs (by have := hR.2.2.1; omega) (by have := hR.2.2.2; omega) hd (fun q H1 hP1 hD1 hS1 => ?_)
  have hgu := gup_lt (g := g) (n := hp.length) (q := q) (cA := g.2 hp.length)
  have hq0 : (gup g hp.length q (g.2 hp.length)).1 hp.length = q := if_pos rfl
  have hfz : fs.map (czA (gup g hp.length q (g.2 hp.length)).1) = fs := by
    rw [List.map_congr_left (g := id)]
    · simp
    · intro v hv
      have := List.all_eq_true.mp hno v hv
      cases v with
      | ref k => simp [okV] at this
      | _ => rfl
  have ew : aworld (gup g hp.length q (g.2 hp.length)) (hp ++ [.inr (ci, fs)]) = aworld g hp ++ [(q, .inr (ci, fs))] := by
    rw [aworld_app, aworld_ok hgu ho1]
    simp only [acell]
    rw [hfz, hq0]
  have h9 := hk _ _ _ _ _ h D base p l e R s m args below meth c QQ g0 n0 X hend (gup g hp.length q (g.2 hp.length)) H1 locs lsr (fun k hk => by rw [(hgu k (by omega)).1, (hgu k (by omega)).2]; exact hg k hk) (by simp; omega) ⟨by rw [ew]; exact hP1, by rw [ew]; exact hD1, hK0, (hK.ext hgu).app (fun t n hx => by cases hx)⟩ hS1 hsz (loc_ok hgu ho2 hL)
  rw [List.map_cons, map_ok hgu ho3, show czA (gup g hp.length q (g.2 hp.length)).1 (.ref hp.length) = .ref q by simp only [czA]; rw [hq0]] at h9
  exact h9
def a_arr (mcF msF t : Nat) (K : AKn) : AKn := fun ls st hp uc us => match st with
  | .int n :: r => okA ls r hp = true ∧ ¬ n < 0 ∧ n.toNatClampNeg ≤ 1000 ∧ uc + 1 ≤ mcF ∧ us + n.toNatClampNeg ≤ msF ∧ K ls (.ref hp.length :: r) (hp ++ [.inl (t, n.toNatClampNeg)]) (uc + 1) (us + n.toNatClampNeg)
  | _ => False
theorem ok_a_arr0 {d : Nat} {M : MD} {hF : List AE} {mcF msF pc : Nat} {K : AKn} (hd : decode M.2.1 pc = .ok (.newarray .int, 2)) (hl : Cond.arrayClass .int ∈ tb) (hk : ASnd d M hF mcF msF (pc + 2) K) : ASnd d M hF mcF msF pc (a_arr mcF msF 0 K) := by
  intro ls st hp uc us h
  unfold a_arr at h
  split at h
  next n r =>
    obtain ⟨hok, hn, hn2, h1, h2, h⟩ := h
    obtain ⟨ho1, ho2, ho3⟩ := okA_1 hok
    intro D base p l e R s m args below meth c QQ g0 n0 X hend g H locs lsr hg hn0 hA hS hsz hL; obtain ⟨hx, hb, hml, hown, hts, hR, hnm, hax, hbs⟩ := id X; obtain ⟨hP, hD, hK0, hK⟩ := id hA
    refine va_newa (atype := .int) (ty := .int) (a0 := (n.toNatClampNeg, .inl fun _ => 0)) hx hb (hts _ hl) rfl hK0 hP hD hS (fun q hq => Nat.le_trans hbs hq) (fun _ => rfl) hn rfl (by show n.toNatClampNeg * 4 ≤ 536870912; omega) (by have := hR.2.2.1; omega) (by have := hR.2.2.2; omega) hd (fun q cA H1 hK1 hP1 hD1 hS1 => ?_)
    have hgu := gup_lt (g := g) (n := hp.length) (q := q) (cA := cA)
    have hq0 : (gup g hp.length q cA).1 hp.length = q := if_pos rfl
    have hq1 : (gup g hp.length q cA).2 hp.length = cA := if_pos rfl
    have ew : aworld (gup g hp.length q cA) (hp ++ [.inl (0, n.toNatClampNeg)]) = aworld g hp ++ [(q, .inl (cA, n.toNatClampNeg, .inl fun _ => 0))] := by
      rw [aworld_app, aworld_ok hgu ho1]
      simp only [acell]
      rw [hq0, hq1]
    have h9 := hk _ _ _ _ _ h D base p l e R s m args below meth c QQ g0 n0 X hend (gup g hp.length q cA) H1 locs lsr (fun k hk => by rw [(hgu k (by omega)).1, (hgu k (by omega)).2]; exact hg k hk) (by simp; omega) ⟨by rw [ew]; exact hP1, by rw [ew]; exact hD1, hK0, (hK.ext hgu).app (fun t9 n9 hx9 => by cases hx9; rw [hq1]; exact hK1)⟩ hS1 hsz (loc_ok hgu ho2 hL)
    rw [List.map_cons, map_ok hgu ho3, show czA (gup g hp.length q cA).1 (.ref hp.length) = .ref q by simp only [czA]; rw [hq0]] at h9
    exact h9
  next => exact h.elim
theorem ok_a_arr1 {d : Nat} {M : MD} {hF : List AE} {mcF msF pc : Nat} {K : AKn} (hd : decode M.2.1 pc = .ok (.newarray .byte, 2)) (hl : Cond.arrayClass .byte ∈ tb) (hk : ASnd d M hF mcF msF (pc + 2) K) : ASnd d M hF mcF msF pc (a_arr mcF msF 1 K) := by
  intro ls st hp uc us h
  unfold a_arr at h
  split at h
  next n r =>
    obtain ⟨hok, hn, hn2, h1, h2, h⟩ := h
    obtain ⟨ho1, ho2, ho3⟩ := okA_1 hok
    intro D base p l e R s m args below meth c QQ g0 n0 X hend g H locs lsr hg hn0 hA hS hsz hL; obtain ⟨hx, hb, hml, hown, hts, hR, hnm, hax, hbs⟩ := id X; obtain ⟨hP, hD, hK0, hK⟩ := id hA
    refine va_newa (atype := .byte) (ty := .byte) (a0 := (n.toNatClampNeg, .inl fun _ => 0)) hx hb (hts _ hl) rfl hK0 hP hD hS (fun q hq => Nat.le_trans hbs hq) (fun _ => rfl) hn rfl (by show n.toNatClampNeg * 1 ≤ 536870912; omega) (by have := hR.2.2.1; omega) (by have := hR.2.2.2; omega) hd (fun q cA H1 hK1 hP1 hD1 hS1 => ?_)
    have hgu := gup_lt (g := g) (n := hp.length) (q := q) (cA := cA)
    have hq0 : (gup g hp.length q cA).1 hp.length = q := if_pos rfl
    have hq1 : (gup g hp.length q cA).2 hp.length = cA := if_pos rfl
    have ew : aworld (gup g hp.length q cA) (hp ++ [.inl (1, n.toNatClampNeg)]) = aworld g hp ++ [(q, .inl (cA, n.toNatClampNeg, .inl fun _ => 0))] := by
      rw [aworld_app, aworld_ok hgu ho1]
      simp only [acell]
      rw [hq0, hq1]
    have h9 := hk _ _ _ _ _ h D base p l e R s m args below meth c QQ g0 n0 X hend (gup g hp.length q cA) H1 locs lsr (fun k hk => by rw [(hgu k (by omega)).1, (hgu k (by omega)).2]; exact hg k hk) (by simp; omega) ⟨by rw [ew]; exact hP1, by rw [ew]; exact hD1, hK0, (hK.ext hgu).app (fun t9 n9 hx9 => by cases hx9; rw [hq1]; exact hK1)⟩ hS1 hsz (loc_ok hgu ho2 hL)
    rw [List.map_cons, map_ok hgu ho3, show czA (gup g hp.length q cA).1 (.ref hp.length) = .ref q by simp only [czA]; rw [hq0]] at h9
    exact h9
  next => exact h.elim
theorem ok_a_arr2 {d : Nat} {M : MD} {hF : List AE} {mcF msF pc : Nat} {K : AKn} (hd : decode M.2.1 pc = .ok (.newarray .long, 2)) (hl : Cond.arrayClass .long ∈ tb) (hk : ASnd d M hF mcF msF (pc + 2) K) : ASnd d M hF mcF msF pc (a_arr mcF msF 2 K) := by
  intro ls st hp uc us h
  unfold a_arr at h
  split at h
  next n r =>
    obtain ⟨hok, hn, hn2, h1, h2, h⟩ := h
    obtain ⟨ho1, ho2, ho3⟩ := okA_1 hok
    intro D base p l e R s m args below meth c QQ g0 n0 X hend g H locs lsr hg hn0 hA hS hsz hL; obtain ⟨hx, hb, hml, hown, hts, hR, hnm, hax, hbs⟩ := id X; obtain ⟨hP, hD, hK0, hK⟩ := id hA
    refine va_newa (atype := .long) (ty := .long) (a0 := (n.toNatClampNeg, .inr (.inl fun _ => 0))) hx hb (hts _ hl) rfl hK0 hP hD hS (fun q hq => Nat.le_trans hbs hq) (fun _ => rfl) hn rfl (by show n.toNatClampNeg * 8 ≤ 536870912; omega) (by have := hR.2.2.1; omega) (by have := hR.2.2.2; omega) hd (fun q cA H1 hK1 hP1 hD1 hS1 => ?_)
    have hgu := gup_lt (g := g) (n := hp.length) (q := q) (cA := cA)
    have hq0 : (gup g hp.length q cA).1 hp.length = q := if_pos rfl
    have hq1 : (gup g hp.length q cA).2 hp.length = cA := if_pos rfl
    have ew : aworld (gup g hp.length q cA) (hp ++ [.inl (2, n.toNatClampNeg)]) = aworld g hp ++ [(q, .inl (cA, n.toNatClampNeg, .inr (.inl fun _ => 0)))] := by
      rw [aworld_app, aworld_ok hgu ho1]
      simp only [acell]
      rw [hq0, hq1]
    have h9 := hk _ _ _ _ _ h D base p l e R s m args below meth c QQ g0 n0 X hend (gup g hp.length q cA) H1 locs lsr (fun k hk => by rw [(hgu k (by omega)).1, (hgu k (by omega)).2]; exact hg k hk) (by simp; omega) ⟨by rw [ew]; exact hP1, by rw [ew]; exact hD1, hK0, (hK.ext hgu).app (fun t9 n9 hx9 => by cases hx9; rw [hq1]; exact hK1)⟩ hS1 hsz (loc_ok hgu ho2 hL)
    rw [List.map_cons, map_ok hgu ho3, show czA (gup g hp.length q cA).1 (.ref hp.length) = .ref q by simp only [czA]; rw [hq0]] at h9
    exact h9
  next => exact h.elim
def a_call0 (mcF msF mc ms d : Nat) (C : MD) (h2 : List AE) (K : AKn) : AKn := fun ls st hp uc us => match st with
  | .ref k :: r => ACl d mc ms C [.ref k] hp h2 ∧ catS r ≤ 8 ∧ okA ls r hp = true ∧ hp.length ≤ h2.length ∧ uc + mc ≤ mcF ∧ us + ms ≤ msF ∧ K ls r h2 (uc + mc) (us + ms)
  | _ => False
theorem ok_a_call0 {d : Nat} {M : MD} {hF : List AE} {mcF msF pc : Nat} {K : AKn} {C : MD} {index mc ms : Nat} {h2 : List AE}  (hd : decode M.2.1 pc = .ok (.invokespecial index, 3)) (hl : Cond.methodLink M.1.cls index C.1 ∈ tb) (hC : MOk C 0 ∧ Cond.instanceMethod C.1 ∈ tb) (hname : C.1.name = "<init>") (hret : C.2.2.2.1 = none) (hk : ASnd d M hF mcF msF (pc + 3) K) : ASnd d M hF mcF msF pc (a_call0 mcF msF mc ms d C h2 K) := by
  intro ls st hp uc us h
  unfold a_call0 at h
  split at h
  next  k r =>
    obtain ⟨hA9, hcat, hok, hle, h1, h2', h⟩ := h
    obtain ⟨ho1, ho2, ho3⟩ := okA_1 hok
    intro D base p l e R s m args below meth c QQ g0 n0 X hend g H locs lsr hg hn0 hA hS hsz hL; obtain ⟨hx, hb, hml, hown, hts, hR, hnm, hax, hbs⟩ := id X; obtain ⟨hP, hD, hK0, hK⟩ := id hA
    have hM := hA9 D base g l { frames := d, cells := mc, slots := ms, locals := 60 * d } rfl rfl (Nat.le_refl _) (Nat.le_refl _)
    have hroom : d + 1 ≤ R.frames ∧ 8 + (C.2.2.1 + 11) + 60 * d ≤ R.locals := ⟨hR.1, by have := hC.1.2.2.2.2.1; have := hR.2.1; omega⟩
    have hcs : ((r.map (czA g.1)).map fun v => v.category).sum = catS r := by
      unfold catS
      rw [List.map_map]
      congr 1
      apply List.map_congr_left
      intro v _
      cases v <;> rfl
    have hr := va_runI (e := e) (below := below) (meth := meth) (H := H) (locs := locs) (cells := uc) (slots := us) (b := g.1 k) (bytes := C.2.1) (maxL := C.2.2.1) (n := 0) (index := index) (own := M.1.cls) (As := []) (rest := r.map (czA g.1)) (g := F0 m pc lsr ((.ref k :: r).map (czA g.1))) ⟨hx, hb, hml, hown, hts⟩ hM ⟨callB_of 0 hts (tb_good (mdw_in hC.1)) (by show _ = Cond.code C.1 C.2.1 C.2.2.1 none :: tb; unfold mdw; rw [hret]) rfl rfl (hts _ hC.1.2.1) (hts _ hl) hC.1.2.2.1 hroom, hname, hts _ hC.2⟩
      ⟨ACP.blind, fun U hUh hW => ⟨rfl, by rw [hUh]; exact hA.moved hW.alike, hax.warm hW, by rw [hUh]; exact Nat.le_trans hbs hS.1⟩⟩ rfl rfl hsz (by simp [czA]) (by rw [hcs]; show 2 * 0 + _ ≤ 8; omega) hd ⟨by have := hR.2.2.1; omega, by have := hR.2.2.2; omega⟩
    intro T hT Xs
    obtain ⟨v, st₀, t, T', L, q0, X', hL9, e1, e2, ⟨hv, ⟨g', hgg, hA2⟩, hz, hkk⟩, stp⟩ := hr T hT Xs
    cases hv
    rw [q0] at hz hkk
    have hA3 : AS D base g' h2 s T'.heap := by
      have h3 := hA2.moved (U := s) (by rw [← e2]; exact X'.warmed.alike.symm)
      rw [e1]
      exact h3
    have hS3 : va_S (fun q => base ≤ q) s.heap T'.heap (locs ++ L) := ⟨Nat.le_trans hS.1 (by rw [e1]; exact hz), fun q q1 q2 => by rw [e1, hkk q (Nat.lt_of_lt_of_le q1 hS.1) q2]; exact hS.2.1 q q1 q2, fun q hq => by
      rcases List.mem_append.mp hq with z | z
      · exact hS.2.2 q z
      · exact hL9 q z⟩
    have h9 := hk _ _ _ _ _ h D base p l e R s m args below meth c QQ g0 n0 X hend g' T'.heap (locs ++ L) lsr (fun k hk => by rw [(hgg k (by omega)).1, (hgg k (by omega)).2]; exact hg k hk) (by omega) hA3 hS3 hsz (loc_ok hgg ho2 hL)
    rw [map_ok hgg ho3] at h9
    obtain ⟨t2, a9, b9⟩ := h9 T' rfl X'
    exact ⟨t2, stp t2 a9, b9⟩
  next => exact h.elim
theorem ok_a_call0N {d : Nat} {M : MD} {hF : List AE} {mcF msF pc : Nat} {K : AKn} {C : MD} {index mc ms : Nat} {h2 : List AE} {host : String} (hd : decode M.2.1 pc = .ok (.invokespecial index, 3)) (hl : Cond.methodLinkNest M.1.cls index C.1 host ∈ nestL) (hC : MOk C 0 ∧ Cond.instanceMethod C.1 ∈ tb) (hname : C.1.name = "<init>") (hret : C.2.2.2.1 = none) (hk : ASnd d M hF mcF msF (pc + 3) K) : ASnd d M hF mcF msF pc (a_call0 mcF msF mc ms d C h2 K) := by
  intro ls st hp uc us h
  unfold a_call0 at h
  split at h
  next  k r =>
    obtain ⟨hA9, hcat, hok, hle, h1, h2', h⟩ := h
    obtain ⟨ho1, ho2, ho3⟩ := okA_1 hok
    intro D base p l e R s m args below meth c QQ g0 n0 X hend g H locs lsr hg hn0 hA hS hsz hL; obtain ⟨hx, hb, hml, hown, hts, hR, hnm, hax, hbs⟩ := id X; obtain ⟨hP, hD, hK0, hK⟩ := id hA
    have hM := hA9 D base g l { frames := d, cells := mc, slots := ms, locals := 60 * d } rfl rfl (Nat.le_refl _) (Nat.le_refl _)
    have hroom : d + 1 ≤ R.frames ∧ 8 + (C.2.2.1 + 11) + 60 * d ≤ R.locals := ⟨hR.1, by have := hC.1.2.2.2.2.1; have := hR.2.1; omega⟩
    have hcs : ((r.map (czA g.1)).map fun v => v.category).sum = catS r := by
      unfold catS
      rw [List.map_map]
      congr 1
      apply List.map_congr_left
      intro v _
      cases v <;> rfl
    have hr := va_runIN (e := e) (below := below) (meth := meth) (H := H) (locs := locs) (cells := uc) (slots := us) (b := g.1 k) (bytes := C.2.1) (maxL := C.2.2.1) (n := 0) (index := index) (own := M.1.cls) (As := []) (rest := r.map (czA g.1)) (g := F0 m pc lsr ((.ref k :: r).map (czA g.1))) ⟨hx, hb, hml, hown, hts⟩ hM ⟨va_cnB 0 hts (tb_good (mdw_in hC.1)) (by show _ = Cond.code C.1 C.2.1 C.2.2.1 none :: tb; unfold mdw; rw [hret]) rfl rfl (hax.1 _ hl) (hts _ hC.1.2.1) hC.1.2.2.1 hroom, hname, hts _ hC.2⟩
      ⟨ACP.blind, fun U hUh hW => ⟨rfl, by rw [hUh]; exact hA.moved hW.alike, hax.warm hW, by rw [hUh]; exact Nat.le_trans hbs hS.1⟩⟩ rfl rfl hsz (by simp [czA]) (by rw [hcs]; show 2 * 0 + _ ≤ 8; omega) hd ⟨by have := hR.2.2.1; omega, by have := hR.2.2.2; omega⟩
    intro T hT Xs
    obtain ⟨v, st₀, t, T', L, q0, X', hL9, e1, e2, ⟨hv, ⟨g', hgg, hA2⟩, hz, hkk⟩, stp⟩ := hr T hT Xs
    cases hv
    rw [q0] at hz hkk
    have hA3 : AS D base g' h2 s T'.heap := by
      have h3 := hA2.moved (U := s) (by rw [← e2]; exact X'.warmed.alike.symm)
      rw [e1]
      exact h3
    have hS3 : va_S (fun q => base ≤ q) s.heap T'.heap (locs ++ L) := ⟨Nat.le_trans hS.1 (by rw [e1]; exact hz), fun q q1 q2 => by rw [e1, hkk q (Nat.lt_of_lt_of_le q1 hS.1) q2]; exact hS.2.1 q q1 q2, fun q hq => by
      rcases List.mem_append.mp hq with z | z
      · exact hS.2.2 q z
      · exact hL9 q z⟩
    have h9 := hk _ _ _ _ _ h D base p l e R s m args below meth c QQ g0 n0 X hend g' T'.heap (locs ++ L) lsr (fun k hk => by rw [(hgg k (by omega)).1, (hgg k (by omega)).2]; exact hg k hk) (by omega) hA3 hS3 hsz (loc_ok hgg ho2 hL)
    rw [map_ok hgg ho3] at h9
    obtain ⟨t2, a9, b9⟩ := h9 T' rfl X'
    exact ⟨t2, stp t2 a9, b9⟩
  next => exact h.elim
def a_call1 (mcF msF mc ms d : Nat) (C : MD) (h2 : List AE) (K : AKn) : AKn := fun ls st hp uc us => match st with
  | a1 :: .ref k :: r => ACl d mc ms C [.ref k, a1] hp h2 ∧ catS r ≤ 8 ∧ okA ls r hp = true ∧ hp.length ≤ h2.length ∧ uc + mc ≤ mcF ∧ us + ms ≤ msF ∧ K ls r h2 (uc + mc) (us + ms)
  | _ => False
theorem ok_a_call1 {d : Nat} {M : MD} {hF : List AE} {mcF msF pc : Nat} {K : AKn} {C : MD} {index mc ms : Nat} {h2 : List AE}  (hd : decode M.2.1 pc = .ok (.invokespecial index, 3)) (hl : Cond.methodLink M.1.cls index C.1 ∈ tb) (hC : MOk C 1 ∧ Cond.instanceMethod C.1 ∈ tb) (hname : C.1.name = "<init>") (hret : C.2.2.2.1 = none) (hk : ASnd d M hF mcF msF (pc + 3) K) : ASnd d M hF mcF msF pc (a_call1 mcF msF mc ms d C h2 K) := by
  intro ls st hp uc us h
  unfold a_call1 at h
  split at h
  next a1 k r =>
    obtain ⟨hA9, hcat, hok, hle, h1, h2', h⟩ := h
    obtain ⟨ho1, ho2, ho3⟩ := okA_1 hok
    intro D base p l e R s m args below meth c QQ g0 n0 X hend g H locs lsr hg hn0 hA hS hsz hL; obtain ⟨hx, hb, hml, hown, hts, hR, hnm, hax, hbs⟩ := id X; obtain ⟨hP, hD, hK0, hK⟩ := id hA
    have hM := hA9 D base g l { frames := d, cells := mc, slots := ms, locals := 60 * d } rfl rfl (Nat.le_refl _) (Nat.le_refl _)
    have hroom : d + 1 ≤ R.frames ∧ 8 + (C.2.2.1 + 11) + 60 * d ≤ R.locals := ⟨hR.1, by have := hC.1.2.2.2.2.1; have := hR.2.1; omega⟩
    have hcs : ((r.map (czA g.1)).map fun v => v.category).sum = catS r := by
      unfold catS
      rw [List.map_map]
      congr 1
      apply List.map_congr_left
      intro v _
      cases v <;> rfl
    have hr := va_runI (e := e) (below := below) (meth := meth) (H := H) (locs := locs) (cells := uc) (slots := us) (b := g.1 k) (bytes := C.2.1) (maxL := C.2.2.1) (n := 1) (index := index) (own := M.1.cls) (As := [czA g.1 a1]) (rest := r.map (czA g.1)) (g := F0 m pc lsr ((a1 :: .ref k :: r).map (czA g.1))) ⟨hx, hb, hml, hown, hts⟩ hM ⟨callB_of 1 hts (tb_good (mdw_in hC.1)) (by show _ = Cond.code C.1 C.2.1 C.2.2.1 none :: tb; unfold mdw; rw [hret]) rfl rfl (hts _ hC.1.2.1) (hts _ hl) hC.1.2.2.1 hroom, hname, hts _ hC.2⟩
      ⟨ACP.blind, fun U hUh hW => ⟨rfl, by rw [hUh]; exact hA.moved hW.alike, hax.warm hW, by rw [hUh]; exact Nat.le_trans hbs hS.1⟩⟩ rfl rfl hsz (by simp [czA]) (by rw [hcs]; show 2 * 0 + _ ≤ 8; omega) hd ⟨by have := hR.2.2.1; omega, by have := hR.2.2.2; omega⟩
    intro T hT Xs
    obtain ⟨v, st₀, t, T', L, q0, X', hL9, e1, e2, ⟨hv, ⟨g', hgg, hA2⟩, hz, hkk⟩, stp⟩ := hr T hT Xs
    cases hv
    rw [q0] at hz hkk
    have hA3 : AS D base g' h2 s T'.heap := by
      have h3 := hA2.moved (U := s) (by rw [← e2]; exact X'.warmed.alike.symm)
      rw [e1]
      exact h3
    have hS3 : va_S (fun q => base ≤ q) s.heap T'.heap (locs ++ L) := ⟨Nat.le_trans hS.1 (by rw [e1]; exact hz), fun q q1 q2 => by rw [e1, hkk q (Nat.lt_of_lt_of_le q1 hS.1) q2]; exact hS.2.1 q q1 q2, fun q hq => by
      rcases List.mem_append.mp hq with z | z
      · exact hS.2.2 q z
      · exact hL9 q z⟩
    have h9 := hk _ _ _ _ _ h D base p l e R s m args below meth c QQ g0 n0 X hend g' T'.heap (locs ++ L) lsr (fun k hk => by rw [(hgg k (by omega)).1, (hgg k (by omega)).2]; exact hg k hk) (by omega) hA3 hS3 hsz (loc_ok hgg ho2 hL)
    rw [map_ok hgg ho3] at h9
    obtain ⟨t2, a9, b9⟩ := h9 T' rfl X'
    exact ⟨t2, stp t2 a9, b9⟩
  next => exact h.elim
theorem ok_a_call1N {d : Nat} {M : MD} {hF : List AE} {mcF msF pc : Nat} {K : AKn} {C : MD} {index mc ms : Nat} {h2 : List AE} {host : String} (hd : decode M.2.1 pc = .ok (.invokespecial index, 3)) (hl : Cond.methodLinkNest M.1.cls index C.1 host ∈ nestL) (hC : MOk C 1 ∧ Cond.instanceMethod C.1 ∈ tb) (hname : C.1.name = "<init>") (hret : C.2.2.2.1 = none) (hk : ASnd d M hF mcF msF (pc + 3) K) : ASnd d M hF mcF msF pc (a_call1 mcF msF mc ms d C h2 K) := by
  intro ls st hp uc us h
  unfold a_call1 at h
  split at h
  next a1 k r =>
    obtain ⟨hA9, hcat, hok, hle, h1, h2', h⟩ := h
    obtain ⟨ho1, ho2, ho3⟩ := okA_1 hok
    intro D base p l e R s m args below meth c QQ g0 n0 X hend g H locs lsr hg hn0 hA hS hsz hL; obtain ⟨hx, hb, hml, hown, hts, hR, hnm, hax, hbs⟩ := id X; obtain ⟨hP, hD, hK0, hK⟩ := id hA
    have hM := hA9 D base g l { frames := d, cells := mc, slots := ms, locals := 60 * d } rfl rfl (Nat.le_refl _) (Nat.le_refl _)
    have hroom : d + 1 ≤ R.frames ∧ 8 + (C.2.2.1 + 11) + 60 * d ≤ R.locals := ⟨hR.1, by have := hC.1.2.2.2.2.1; have := hR.2.1; omega⟩
    have hcs : ((r.map (czA g.1)).map fun v => v.category).sum = catS r := by
      unfold catS
      rw [List.map_map]
      congr 1
      apply List.map_congr_left
      intro v _
      cases v <;> rfl
    have hr := va_runIN (e := e) (below := below) (meth := meth) (H := H) (locs := locs) (cells := uc) (slots := us) (b := g.1 k) (bytes := C.2.1) (maxL := C.2.2.1) (n := 1) (index := index) (own := M.1.cls) (As := [czA g.1 a1]) (rest := r.map (czA g.1)) (g := F0 m pc lsr ((a1 :: .ref k :: r).map (czA g.1))) ⟨hx, hb, hml, hown, hts⟩ hM ⟨va_cnB 1 hts (tb_good (mdw_in hC.1)) (by show _ = Cond.code C.1 C.2.1 C.2.2.1 none :: tb; unfold mdw; rw [hret]) rfl rfl (hax.1 _ hl) (hts _ hC.1.2.1) hC.1.2.2.1 hroom, hname, hts _ hC.2⟩
      ⟨ACP.blind, fun U hUh hW => ⟨rfl, by rw [hUh]; exact hA.moved hW.alike, hax.warm hW, by rw [hUh]; exact Nat.le_trans hbs hS.1⟩⟩ rfl rfl hsz (by simp [czA]) (by rw [hcs]; show 2 * 0 + _ ≤ 8; omega) hd ⟨by have := hR.2.2.1; omega, by have := hR.2.2.2; omega⟩
    intro T hT Xs
    obtain ⟨v, st₀, t, T', L, q0, X', hL9, e1, e2, ⟨hv, ⟨g', hgg, hA2⟩, hz, hkk⟩, stp⟩ := hr T hT Xs
    cases hv
    rw [q0] at hz hkk
    have hA3 : AS D base g' h2 s T'.heap := by
      have h3 := hA2.moved (U := s) (by rw [← e2]; exact X'.warmed.alike.symm)
      rw [e1]
      exact h3
    have hS3 : va_S (fun q => base ≤ q) s.heap T'.heap (locs ++ L) := ⟨Nat.le_trans hS.1 (by rw [e1]; exact hz), fun q q1 q2 => by rw [e1, hkk q (Nat.lt_of_lt_of_le q1 hS.1) q2]; exact hS.2.1 q q1 q2, fun q hq => by
      rcases List.mem_append.mp hq with z | z
      · exact hS.2.2 q z
      · exact hL9 q z⟩
    have h9 := hk _ _ _ _ _ h D base p l e R s m args below meth c QQ g0 n0 X hend g' T'.heap (locs ++ L) lsr (fun k hk => by rw [(hgg k (by omega)).1, (hgg k (by omega)).2]; exact hg k hk) (by omega) hA3 hS3 hsz (loc_ok hgg ho2 hL)
    rw [map_ok hgg ho3] at h9
    obtain ⟨t2, a9, b9⟩ := h9 T' rfl X'
    exact ⟨t2, stp t2 a9, b9⟩
  next => exact h.elim
def a_call2 (mcF msF mc ms d : Nat) (C : MD) (h2 : List AE) (K : AKn) : AKn := fun ls st hp uc us => match st with
  | a2 :: a1 :: .ref k :: r => ACl d mc ms C [.ref k, a1, a2] hp h2 ∧ catS r ≤ 8 ∧ okA ls r hp = true ∧ hp.length ≤ h2.length ∧ uc + mc ≤ mcF ∧ us + ms ≤ msF ∧ K ls r h2 (uc + mc) (us + ms)
  | _ => False
theorem ok_a_call2 {d : Nat} {M : MD} {hF : List AE} {mcF msF pc : Nat} {K : AKn} {C : MD} {index mc ms : Nat} {h2 : List AE}  (hd : decode M.2.1 pc = .ok (.invokespecial index, 3)) (hl : Cond.methodLink M.1.cls index C.1 ∈ tb) (hC : MOk C 2 ∧ Cond.instanceMethod C.1 ∈ tb) (hname : C.1.name = "<init>") (hret : C.2.2.2.1 = none) (hk : ASnd d M hF mcF msF (pc + 3) K) : ASnd d M hF mcF msF pc (a_call2 mcF msF mc ms d C h2 K) := by
  intro ls st hp uc us h
  unfold a_call2 at h
  split at h
  next a2 a1 k r =>
    obtain ⟨hA9, hcat, hok, hle, h1, h2', h⟩ := h
    obtain ⟨ho1, ho2, ho3⟩ := okA_1 hok
    intro D base p l e R s m args below meth c QQ g0 n0 X hend g H locs lsr hg hn0 hA hS hsz hL; obtain ⟨hx, hb, hml, hown, hts, hR, hnm, hax, hbs⟩ := id X; obtain ⟨hP, hD, hK0, hK⟩ := id hA
    have hM := hA9 D base g l { frames := d, cells := mc, slots := ms, locals := 60 * d } rfl rfl (Nat.le_refl _) (Nat.le_refl _)
    have hroom : d + 1 ≤ R.frames ∧ 8 + (C.2.2.1 + 11) + 60 * d ≤ R.locals := ⟨hR.1, by have := hC.1.2.2.2.2.1; have := hR.2.1; omega⟩
    have hcs : ((r.map (czA g.1)).map fun v => v.category).sum = catS r := by
      unfold catS
      rw [List.map_map]
      congr 1
      apply List.map_congr_left
      intro v _
      cases v <;> rfl
    have hr := va_runI (e := e) (below := below) (meth := meth) (H := H) (locs := locs) (cells := uc) (slots := us) (b := g.1 k) (bytes := C.2.1) (maxL := C.2.2.1) (n := 2) (index := index) (own := M.1.cls) (As := [czA g.1 a1, czA g.1 a2]) (rest := r.map (czA g.1)) (g := F0 m pc lsr ((a2 :: a1 :: .ref k :: r).map (czA g.1))) ⟨hx, hb, hml, hown, hts⟩ hM ⟨callB_of 2 hts (tb_good (mdw_in hC.1)) (by show _ = Cond.code C.1 C.2.1 C.2.2.1 none :: tb; unfold mdw; rw [hret]) rfl rfl (hts _ hC.1.2.1) (hts _ hl) hC.1.2.2.1 hroom, hname, hts _ hC.2⟩
      ⟨ACP.blind, fun U hUh hW => ⟨rfl, by rw [hUh]; exact hA.moved hW.alike, hax.warm hW, by rw [hUh]; exact Nat.le_trans hbs hS.1⟩⟩ rfl rfl hsz (by simp [czA]) (by rw [hcs]; show 2 * 0 + _ ≤ 8; omega) hd ⟨by have := hR.2.2.1; omega, by have := hR.2.2.2; omega⟩
    intro T hT Xs
    obtain ⟨v, st₀, t, T', L, q0, X', hL9, e1, e2, ⟨hv, ⟨g', hgg, hA2⟩, hz, hkk⟩, stp⟩ := hr T hT Xs
    cases hv
    rw [q0] at hz hkk
    have hA3 : AS D base g' h2 s T'.heap := by
      have h3 := hA2.moved (U := s) (by rw [← e2]; exact X'.warmed.alike.symm)
      rw [e1]
      exact h3
    have hS3 : va_S (fun q => base ≤ q) s.heap T'.heap (locs ++ L) := ⟨Nat.le_trans hS.1 (by rw [e1]; exact hz), fun q q1 q2 => by rw [e1, hkk q (Nat.lt_of_lt_of_le q1 hS.1) q2]; exact hS.2.1 q q1 q2, fun q hq => by
      rcases List.mem_append.mp hq with z | z
      · exact hS.2.2 q z
      · exact hL9 q z⟩
    have h9 := hk _ _ _ _ _ h D base p l e R s m args below meth c QQ g0 n0 X hend g' T'.heap (locs ++ L) lsr (fun k hk => by rw [(hgg k (by omega)).1, (hgg k (by omega)).2]; exact hg k hk) (by omega) hA3 hS3 hsz (loc_ok hgg ho2 hL)
    rw [map_ok hgg ho3] at h9
    obtain ⟨t2, a9, b9⟩ := h9 T' rfl X'
    exact ⟨t2, stp t2 a9, b9⟩
  next => exact h.elim
theorem ok_a_call2N {d : Nat} {M : MD} {hF : List AE} {mcF msF pc : Nat} {K : AKn} {C : MD} {index mc ms : Nat} {h2 : List AE} {host : String} (hd : decode M.2.1 pc = .ok (.invokespecial index, 3)) (hl : Cond.methodLinkNest M.1.cls index C.1 host ∈ nestL) (hC : MOk C 2 ∧ Cond.instanceMethod C.1 ∈ tb) (hname : C.1.name = "<init>") (hret : C.2.2.2.1 = none) (hk : ASnd d M hF mcF msF (pc + 3) K) : ASnd d M hF mcF msF pc (a_call2 mcF msF mc ms d C h2 K) := by
  intro ls st hp uc us h
  unfold a_call2 at h
  split at h
  next a2 a1 k r =>
    obtain ⟨hA9, hcat, hok, hle, h1, h2', h⟩ := h
    obtain ⟨ho1, ho2, ho3⟩ := okA_1 hok
    intro D base p l e R s m args below meth c QQ g0 n0 X hend g H locs lsr hg hn0 hA hS hsz hL; obtain ⟨hx, hb, hml, hown, hts, hR, hnm, hax, hbs⟩ := id X; obtain ⟨hP, hD, hK0, hK⟩ := id hA
    have hM := hA9 D base g l { frames := d, cells := mc, slots := ms, locals := 60 * d } rfl rfl (Nat.le_refl _) (Nat.le_refl _)
    have hroom : d + 1 ≤ R.frames ∧ 8 + (C.2.2.1 + 11) + 60 * d ≤ R.locals := ⟨hR.1, by have := hC.1.2.2.2.2.1; have := hR.2.1; omega⟩
    have hcs : ((r.map (czA g.1)).map fun v => v.category).sum = catS r := by
      unfold catS
      rw [List.map_map]
      congr 1
      apply List.map_congr_left
      intro v _
      cases v <;> rfl
    have hr := va_runIN (e := e) (below := below) (meth := meth) (H := H) (locs := locs) (cells := uc) (slots := us) (b := g.1 k) (bytes := C.2.1) (maxL := C.2.2.1) (n := 2) (index := index) (own := M.1.cls) (As := [czA g.1 a1, czA g.1 a2]) (rest := r.map (czA g.1)) (g := F0 m pc lsr ((a2 :: a1 :: .ref k :: r).map (czA g.1))) ⟨hx, hb, hml, hown, hts⟩ hM ⟨va_cnB 2 hts (tb_good (mdw_in hC.1)) (by show _ = Cond.code C.1 C.2.1 C.2.2.1 none :: tb; unfold mdw; rw [hret]) rfl rfl (hax.1 _ hl) (hts _ hC.1.2.1) hC.1.2.2.1 hroom, hname, hts _ hC.2⟩
      ⟨ACP.blind, fun U hUh hW => ⟨rfl, by rw [hUh]; exact hA.moved hW.alike, hax.warm hW, by rw [hUh]; exact Nat.le_trans hbs hS.1⟩⟩ rfl rfl hsz (by simp [czA]) (by rw [hcs]; show 2 * 0 + _ ≤ 8; omega) hd ⟨by have := hR.2.2.1; omega, by have := hR.2.2.2; omega⟩
    intro T hT Xs
    obtain ⟨v, st₀, t, T', L, q0, X', hL9, e1, e2, ⟨hv, ⟨g', hgg, hA2⟩, hz, hkk⟩, stp⟩ := hr T hT Xs
    cases hv
    rw [q0] at hz hkk
    have hA3 : AS D base g' h2 s T'.heap := by
      have h3 := hA2.moved (U := s) (by rw [← e2]; exact X'.warmed.alike.symm)
      rw [e1]
      exact h3
    have hS3 : va_S (fun q => base ≤ q) s.heap T'.heap (locs ++ L) := ⟨Nat.le_trans hS.1 (by rw [e1]; exact hz), fun q q1 q2 => by rw [e1, hkk q (Nat.lt_of_lt_of_le q1 hS.1) q2]; exact hS.2.1 q q1 q2, fun q hq => by
      rcases List.mem_append.mp hq with z | z
      · exact hS.2.2 q z
      · exact hL9 q z⟩
    have h9 := hk _ _ _ _ _ h D base p l e R s m args below meth c QQ g0 n0 X hend g' T'.heap (locs ++ L) lsr (fun k hk => by rw [(hgg k (by omega)).1, (hgg k (by omega)).2]; exact hg k hk) (by omega) hA3 hS3 hsz (loc_ok hgg ho2 hL)
    rw [map_ok hgg ho3] at h9
    obtain ⟨t2, a9, b9⟩ := h9 T' rfl X'
    exact ⟨t2, stp t2 a9, b9⟩
  next => exact h.elim
def a_call3 (mcF msF mc ms d : Nat) (C : MD) (h2 : List AE) (K : AKn) : AKn := fun ls st hp uc us => match st with
  | a3 :: a2 :: a1 :: .ref k :: r => ACl d mc ms C [.ref k, a1, a2, a3] hp h2 ∧ catS r ≤ 8 ∧ okA ls r hp = true ∧ hp.length ≤ h2.length ∧ uc + mc ≤ mcF ∧ us + ms ≤ msF ∧ K ls r h2 (uc + mc) (us + ms)
  | _ => False
theorem ok_a_call3 {d : Nat} {M : MD} {hF : List AE} {mcF msF pc : Nat} {K : AKn} {C : MD} {index mc ms : Nat} {h2 : List AE}  (hd : decode M.2.1 pc = .ok (.invokespecial index, 3)) (hl : Cond.methodLink M.1.cls index C.1 ∈ tb) (hC : MOk C 3 ∧ Cond.instanceMethod C.1 ∈ tb) (hname : C.1.name = "<init>") (hret : C.2.2.2.1 = none) (hk : ASnd d M hF mcF msF (pc + 3) K) : ASnd d M hF mcF msF pc (a_call3 mcF msF mc ms d C h2 K) := by
  intro ls st hp uc us h
  unfold a_call3 at h
  split at h
  next a3 a2 a1 k r =>
    obtain ⟨hA9, hcat, hok, hle, h1, h2', h⟩ := h
    obtain ⟨ho1, ho2, ho3⟩ := okA_1 hok
    intro D base p l e R s m args below meth c QQ g0 n0 X hend g H locs lsr hg hn0 hA hS hsz hL; obtain ⟨hx, hb, hml, hown, hts, hR, hnm, hax, hbs⟩ := id X; obtain ⟨hP, hD, hK0, hK⟩ := id hA
    have hM := hA9 D base g l { frames := d, cells := mc, slots := ms, locals := 60 * d } rfl rfl (Nat.le_refl _) (Nat.le_refl _)
    have hroom : d + 1 ≤ R.frames ∧ 8 + (C.2.2.1 + 11) + 60 * d ≤ R.locals := ⟨hR.1, by have := hC.1.2.2.2.2.1; have := hR.2.1; omega⟩
    have hcs : ((r.map (czA g.1)).map fun v => v.category).sum = catS r := by
      unfold catS
      rw [List.map_map]
      congr 1
      apply List.map_congr_left
      intro v _
      cases v <;> rfl
    have hr := va_runI (e := e) (below := below) (meth := meth) (H := H) (locs := locs) (cells := uc) (slots := us) (b := g.1 k) (bytes := C.2.1) (maxL := C.2.2.1) (n := 3) (index := index) (own := M.1.cls) (As := [czA g.1 a1, czA g.1 a2, czA g.1 a3]) (rest := r.map (czA g.1)) (g := F0 m pc lsr ((a3 :: a2 :: a1 :: .ref k :: r).map (czA g.1))) ⟨hx, hb, hml, hown, hts⟩ hM ⟨callB_of 3 hts (tb_good (mdw_in hC.1)) (by show _ = Cond.code C.1 C.2.1 C.2.2.1 none :: tb; unfold mdw; rw [hret]) rfl rfl (hts _ hC.1.2.1) (hts _ hl) hC.1.2.2.1 hroom, hname, hts _ hC.2⟩
      ⟨ACP.blind, fun U hUh hW => ⟨rfl, by rw [hUh]; exact hA.moved hW.alike, hax.warm hW, by rw [hUh]; exact Nat.le_trans hbs hS.1⟩⟩ rfl rfl hsz (by simp [czA]) (by rw [hcs]; show 2 * 0 + _ ≤ 8; omega) hd ⟨by have := hR.2.2.1; omega, by have := hR.2.2.2; omega⟩
    intro T hT Xs
    obtain ⟨v, st₀, t, T', L, q0, X', hL9, e1, e2, ⟨hv, ⟨g', hgg, hA2⟩, hz, hkk⟩, stp⟩ := hr T hT Xs
    cases hv
    rw [q0] at hz hkk
    have hA3 : AS D base g' h2 s T'.heap := by
      have h3 := hA2.moved (U := s) (by rw [← e2]; exact X'.warmed.alike.symm)
      rw [e1]
      exact h3
    have hS3 : va_S (fun q => base ≤ q) s.heap T'.heap (locs ++ L) := ⟨Nat.le_trans hS.1 (by rw [e1]; exact hz), fun q q1 q2 => by rw [e1, hkk q (Nat.lt_of_lt_of_le q1 hS.1) q2]; exact hS.2.1 q q1 q2, fun q hq => by
      rcases List.mem_append.mp hq with z | z
      · exact hS.2.2 q z
      · exact hL9 q z⟩
    have h9 := hk _ _ _ _ _ h D base p l e R s m args below meth c QQ g0 n0 X hend g' T'.heap (locs ++ L) lsr (fun k hk => by rw [(hgg k (by omega)).1, (hgg k (by omega)).2]; exact hg k hk) (by omega) hA3 hS3 hsz (loc_ok hgg ho2 hL)
    rw [map_ok hgg ho3] at h9
    obtain ⟨t2, a9, b9⟩ := h9 T' rfl X'
    exact ⟨t2, stp t2 a9, b9⟩
  next => exact h.elim
theorem ok_a_call3N {d : Nat} {M : MD} {hF : List AE} {mcF msF pc : Nat} {K : AKn} {C : MD} {index mc ms : Nat} {h2 : List AE} {host : String} (hd : decode M.2.1 pc = .ok (.invokespecial index, 3)) (hl : Cond.methodLinkNest M.1.cls index C.1 host ∈ nestL) (hC : MOk C 3 ∧ Cond.instanceMethod C.1 ∈ tb) (hname : C.1.name = "<init>") (hret : C.2.2.2.1 = none) (hk : ASnd d M hF mcF msF (pc + 3) K) : ASnd d M hF mcF msF pc (a_call3 mcF msF mc ms d C h2 K) := by
  intro ls st hp uc us h
  unfold a_call3 at h
  split at h
  next a3 a2 a1 k r =>
    obtain ⟨hA9, hcat, hok, hle, h1, h2', h⟩ := h
    obtain ⟨ho1, ho2, ho3⟩ := okA_1 hok
    intro D base p l e R s m args below meth c QQ g0 n0 X hend g H locs lsr hg hn0 hA hS hsz hL; obtain ⟨hx, hb, hml, hown, hts, hR, hnm, hax, hbs⟩ := id X; obtain ⟨hP, hD, hK0, hK⟩ := id hA
    have hM := hA9 D base g l { frames := d, cells := mc, slots := ms, locals := 60 * d } rfl rfl (Nat.le_refl _) (Nat.le_refl _)
    have hroom : d + 1 ≤ R.frames ∧ 8 + (C.2.2.1 + 11) + 60 * d ≤ R.locals := ⟨hR.1, by have := hC.1.2.2.2.2.1; have := hR.2.1; omega⟩
    have hcs : ((r.map (czA g.1)).map fun v => v.category).sum = catS r := by
      unfold catS
      rw [List.map_map]
      congr 1
      apply List.map_congr_left
      intro v _
      cases v <;> rfl
    have hr := va_runIN (e := e) (below := below) (meth := meth) (H := H) (locs := locs) (cells := uc) (slots := us) (b := g.1 k) (bytes := C.2.1) (maxL := C.2.2.1) (n := 3) (index := index) (own := M.1.cls) (As := [czA g.1 a1, czA g.1 a2, czA g.1 a3]) (rest := r.map (czA g.1)) (g := F0 m pc lsr ((a3 :: a2 :: a1 :: .ref k :: r).map (czA g.1))) ⟨hx, hb, hml, hown, hts⟩ hM ⟨va_cnB 3 hts (tb_good (mdw_in hC.1)) (by show _ = Cond.code C.1 C.2.1 C.2.2.1 none :: tb; unfold mdw; rw [hret]) rfl rfl (hax.1 _ hl) (hts _ hC.1.2.1) hC.1.2.2.1 hroom, hname, hts _ hC.2⟩
      ⟨ACP.blind, fun U hUh hW => ⟨rfl, by rw [hUh]; exact hA.moved hW.alike, hax.warm hW, by rw [hUh]; exact Nat.le_trans hbs hS.1⟩⟩ rfl rfl hsz (by simp [czA]) (by rw [hcs]; show 2 * 0 + _ ≤ 8; omega) hd ⟨by have := hR.2.2.1; omega, by have := hR.2.2.2; omega⟩
    intro T hT Xs
    obtain ⟨v, st₀, t, T', L, q0, X', hL9, e1, e2, ⟨hv, ⟨g', hgg, hA2⟩, hz, hkk⟩, stp⟩ := hr T hT Xs
    cases hv
    rw [q0] at hz hkk
    have hA3 : AS D base g' h2 s T'.heap := by
      have h3 := hA2.moved (U := s) (by rw [← e2]; exact X'.warmed.alike.symm)
      rw [e1]
      exact h3
    have hS3 : va_S (fun q => base ≤ q) s.heap T'.heap (locs ++ L) := ⟨Nat.le_trans hS.1 (by rw [e1]; exact hz), fun q q1 q2 => by rw [e1, hkk q (Nat.lt_of_lt_of_le q1 hS.1) q2]; exact hS.2.1 q q1 q2, fun q hq => by
      rcases List.mem_append.mp hq with z | z
      · exact hS.2.2 q z
      · exact hL9 q z⟩
    have h9 := hk _ _ _ _ _ h D base p l e R s m args below meth c QQ g0 n0 X hend g' T'.heap (locs ++ L) lsr (fun k hk => by rw [(hgg k (by omega)).1, (hgg k (by omega)).2]; exact hg k hk) (by omega) hA3 hS3 hsz (loc_ok hgg ho2 hL)
    rw [map_ok hgg ho3] at h9
    obtain ⟨t2, a9, b9⟩ := h9 T' rfl X'
    exact ⟨t2, stp t2 a9, b9⟩
  next => exact h.elim
theorem ACl_of {M : MD} {d mc ms n : Nat} {as : List Value} {hp hF : List AE} (hM : MOk M n) (hret : M.2.2.2.1 = none) (hlen : (lay as).length ≤ M.2.2.1) (hcat : as.all (fun v => decide (v.category = 1)) = true) (hname : M.1.name = "<init>") (h : AWp d M hF mc ms 0 as [] hp 0 0) : ACl (d + 1) mc ms M as hp hF := by
  intro D base g l rm hrc hrs hrf hrl
  refine Met.ofW (cc := M.2.1) (maxL := M.2.2.1) (ret := M.2.2.2.1) hM.2.2.2.1 rfl ?_
  intro p e s m args below meth c s₁ B hml hv
  obtain ⟨rfl, hA, hax, hbs⟩ := hv
  have hts : ∀ w ∈ mdw M, w.before (as.map (czA g.1)).toArray s = true := atoms_spec (ws := mdw M) B.pre
  have hown : s.vm.findClass M.1.cls = some m.cls := findClass_of_methodNamed B.named
  have hlk : meth.locks = false := B.notSynchronized
  have hnm : meth.name = "<init>" := by rw [← hname]; exact (name_of_methodNamed B.named B.method).1
  have hcz : ∀ v ∈ as.map (czA g.1), v.category = 1 := by
    intro v hv
    obtain ⟨u, hu, rfl⟩ := List.mem_map.mp hv
    have := of_decide_eq_true (List.all_eq_true.mp hcat u hu)
    cases u <;> first | exact this | rfl
  rw [entry_eq m (as.map (czA g.1)) hcz]
  have hlen2 : as.length ≤ M.2.2.1 := by
    have : (lay as).length = as.length := by
      have h2 : ∀ l : List Value, l.all (fun v => decide (v.category = 1)) = true → (lay l).length = l.length := by
        intro l
        induction l with
        | nil => intro _; rfl
        | cons v t ih =>
          intro hh
          simp only [List.all_cons, Bool.and_eq_true, decide_eq_true_eq] at hh
          have h3 := ih hh.2
          simp only [lay, List.flatMap_cons, List.length_append] at h3 ⊢
          rw [h3, if_neg (by omega)]
          simp; omega
      exact h2 as hcat
    omega
  refine h D base p l e (headSpec (mdw M) rm).room s m _ below meth c _ g hp.length ⟨B.exec, B.bytes, hml, hown, fun w hw => hts w (List.mem_cons_of_mem _ hw), ⟨hrf, hrl, Nat.le_of_eq hrc.symm, Nat.le_of_eq hrs.symm⟩, hnm, hax, hbs⟩ ?_ g s.heap [] _ (fun _ _ => ⟨rfl, rfl⟩) (Nat.le_refl _) hA va_S.rf (by simp; omega) ?_
  · intro g' pc ls H locs hg hd hA1 hS1
    exact W.vret B.exec B.bytes (by rw [B.returns]; exact hret) (fun t ht hW => ⟨rfl, ⟨g', hg, by rw [ht]; exact hA1.moved hW.alike⟩, hS1.F ht⟩) hS1.2.2 hd hlk
  · intro i v hi
    have hl : i < as.length := (List.getElem?_eq_some_iff.mp hi).1
    rw [List.getElem?_toArray, List.getElem?_append_left (by simpa using hl)]
    simp [hi]
/-- rows of rows: the cell, then its rows -/
def a_mna (mcF msF : Nat) (K : AKn) : AKn := fun ls st hp uc us => match st with
  | .int n :: .int k :: r => n = 32 ∧ k = 4 ∧ okA ls r hp = true ∧ (∃ (j : Nat) (n9 : Nat), hp[j]? = some (Sum.inl (0, n9))) ∧ uc + 5 ≤ mcF ∧ us + 132 ≤ msF ∧ K ls (.ref hp.length :: r) (hp ++ [.inl (3, 4), .inl (0, 32), .inl (0, 32), .inl (0, 32), .inl (0, 32)]) (uc + 5) (us + 132)
  | _ => False
def gup5 (g : GA) (n q : Nat) (r : Nat → Nat) (cA cI : ClassId) : GA := (fun k => if k < n then g.1 k else if k = n then q else r (k - n - 1), fun k => if k < n then g.2 k else if k = n then cA else cI)
theorem ok_a_mna {d : Nat} {M : MD} {hF : List AE} {mcF msF pc : Nat} {K : AKn} {index : Nat} (hd : decode M.2.1 pc = .ok (.multianewarray index 2, 4)) (hl : Cond.classLink M.1.cls index ("[" ++ (FieldType.array .int).toString) ∈ tb) (hl2 : Cond.arrayClass .int ∈ tb) (hk : ASnd d M hF mcF msF (pc + 4) K) : ASnd d M hF mcF msF pc (a_mna mcF msF K) := by
  intro ls st hp uc us h
  unfold a_mna at h
  split at h
  next n k r =>
    obtain ⟨rfl, rfl, hok, ⟨j, n9, hj⟩, h1, h2, h⟩ := h
    obtain ⟨ho1, ho2, ho3⟩ := okA_1 hok
    intro D base p l e R s m args below meth c QQ g0 n0 X hend g H locs lsr hg hn0 hA hS hsz hL; obtain ⟨hx, hb, hml, hown, hts, hR, hnm, hax, hbs⟩ := id X; obtain ⟨hP, hD, hK0, hK⟩ := id hA
    have hjj := hK j 0 n9 hj
    have hcy : s.vm.findClass (FieldType.array .int).toString = some (g.2 j) := (hjj.2 0 _ rfl).2
    refine va_mna (X := aworld g hp) (L := []) (f := fun _ => .inl (0, 0, .inl fun _ => 0)) (z := (32, .inl fun _ => 0)) (N' := 4) (K' := 32) (ty := .int) hx hb hown (hts _ hl) hax.2 (hts _ hl2) hcy hK0 (by simpa [va_pl] using hP) (by simpa [va_pl] using hD) hS (fun q hq => Nat.le_trans hbs hq) (by decide) (by decide) rfl rfl (by decide) (by decide) (by decide) rfl rfl (by have := hR.2.2.1; omega) (by have := hR.2.2.2; omega) (fun c => ?_) hd (fun q rr cA H1 hinj hnl hK1 hP1 hD1 hS1 => ?_)
    · rw [vp_cell_i]; exact arrV_new _ _ _
    · have hgu : ∀ i, i < hp.length → (gup5 g hp.length q rr cA (g.2 j)).1 i = g.1 i ∧ (gup5 g hp.length q rr cA (g.2 j)).2 i = g.2 i := fun i hi => ⟨if_pos hi, if_pos hi⟩
      have hq0 : (gup5 g hp.length q rr cA (g.2 j)).1 hp.length = q := by simp [gup5]
      have hq1 : (gup5 g hp.length q rr cA (g.2 j)).2 hp.length = cA := by simp [gup5]
      have hr0 : ∀ i, (gup5 g hp.length q rr cA (g.2 j)).1 (hp.length + 1 + i) = rr i := fun i => by
        show (if hp.length + 1 + i < hp.length then _ else if hp.length + 1 + i = hp.length then _ else _) = _
        rw [if_neg (by omega), if_neg (by omega)]
        congr 1; omega
      have hr1 : ∀ i, (gup5 g hp.length q rr cA (g.2 j)).2 (hp.length + 1 + i) = g.2 j := fun i => by
        show (if hp.length + 1 + i < hp.length then _ else if hp.length + 1 + i = hp.length then _ else _) = _
        rw [if_neg (by omega), if_neg (by omega)]
      have ew : aworld (gup5 g hp.length q rr cA (g.2 j)) (hp ++ [.inl (3, 4), .inl (0, 32), .inl (0, 32), .inl (0, 32), .inl (0, 32)]) = (aworld g hp ++ [(q, .inl (cA, 4, .inr (.inr (.inr (.inr (fun i => if i < 4 then some (rr i) else none))))))]) ++ va_pl ([] ++ (List.range 4).map rr) (vr_up (fun _ => .inl (0, 0, .inl fun _ => 0)) ((List.range 4).map rr) (.inl (g.2 j, 32, .inl fun _ => 0))) := by
        have e1 : aworld (gup5 g hp.length q rr cA (g.2 j)) (hp ++ [.inl (3, 4), .inl (0, 32), .inl (0, 32), .inl (0, 32), .inl (0, 32)]) = aworld (gup5 g hp.length q rr cA (g.2 j)) hp ++ [acell (gup5 g hp.length q rr cA (g.2 j)) hp.length (.inl (3, 4)), acell (gup5 g hp.length q rr cA (g.2 j)) (hp.length + 1 + 0) (.inl (0, 32)), acell (gup5 g hp.length q rr cA (g.2 j)) (hp.length + 1 + 1) (.inl (0, 32)), acell (gup5 g hp.length q rr cA (g.2 j)) (hp.length + 1 + 2) (.inl (0, 32)), acell (gup5 g hp.length q rr cA (g.2 j)) (hp.length + 1 + 3) (.inl (0, 32))] := by
          have e0 : hp ++ [.inl (3, 4), .inl (0, 32), .inl (0, 32), .inl (0, 32), .inl (0, 32)] = ((((hp ++ [.inl (3, 4)]) ++ [.inl (0, 32)]) ++ [.inl (0, 32)]) ++ [.inl (0, 32)]) ++ [.inl (0, 32)] := by simp
          rw [e0, aworld_app, aworld_app, aworld_app, aworld_app, aworld_app]
          simp only [List.length_append, List.length_cons, List.length_nil, List.append_assoc, List.cons_append, List.nil_append, Nat.add_zero, Nat.zero_add, Nat.add_assoc, Nat.reduceAdd]
        rw [e1, aworld_ok hgu ho1, List.append_assoc]
        congr 1
        simp only [acell, hq0, hq1, hr0, hr1]
        simp only [va_pl, vr_up, List.range, List.range.loop, List.map_cons, List.map_nil, List.nil_append, List.mem_cons, true_or, or_true, if_true, List.cons_append]
      have h9 := hk _ _ _ _ _ h D base p l e R s m args below meth c QQ g0 n0 X hend (gup5 g hp.length q rr cA (g.2 j)) H1 locs lsr (fun k hk => by rw [(hgu k (by omega)).1, (hgu k (by omega)).2]; exact hg k hk) (by simp; omega) ⟨by rw [ew]; exact hP1, by rw [ew]; exact hD1, hK0, ?_⟩ hS1 hsz (loc_ok hgu ho2 hL)
      · rw [List.map_cons, map_ok hgu ho3, show czA (gup5 g hp.length q rr cA (g.2 j)).1 (.ref hp.length) = .ref q by simp only [czA]; rw [hq0]] at h9
        exact h9
      · intro i t n hi
        by_cases q1 : i < hp.length
        · rw [List.getElem?_append_left q1] at hi
          rw [(hgu i q1).2]
          exact hK i t n hi
        · rw [List.getElem?_append_right (by omega)] at hi
          obtain ⟨x9, hx9⟩ : ∃ x9, i = hp.length + x9 := ⟨i - hp.length, by omega⟩
          subst hx9
          rw [Nat.add_sub_cancel_left] at hi
          match x9, hi with
          | 0, hi => cases hi; rw [Nat.add_zero, hq1]; exact hK1
          | 1, hi => cases hi; exact (hr1 0).symm ▸ hjj
          | 2, hi => cases hi; exact (hr1 1).symm ▸ hjj
          | 3, hi => cases hi; exact (hr1 2).symm ▸ hjj
          | 4, hi => cases hi; exact (hr1 3).symm ▸ hjj
          | x + 5, hi => simp at hi
  next => exact h.elim
