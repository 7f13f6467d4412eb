def o_iconst (v : Int32) (K : Kn) : Kn := fun ls st w => K ls (.int v :: st) w
theorem ok_iconst {M : MD} {d b : Nat} {Q : Option Value → Mem → Prop} {pc : Nat} {v : Int32} {K : Kn} {n : Int} (hd : decode M.2.1 pc = .ok (.iconst n, 1)) (hv : Int32.ofInt n = v) (hk : Snd M d b Q (pc + 1) K) : Snd M d b Q pc (o_iconst v K) := by
  intro ls st w h
  · intro G p l e R s m args below meth c QQ mcF msF X H locs cells slots lsr hP hS hc hs hL; obtain ⟨hx, hb, hml, hown, hts, hR, hU, ⟨htr, hpg, hthr⟩, hend⟩ := id X
    exact lv_iconst hx hb hd hv (hk _ _ _ h G p l e R s m args below meth c QQ mcF msF X H locs cells slots lsr hP hS hc hs hL)
theorem ok_bipush {M : MD} {d b : Nat} {Q : Option Value → Mem → Prop} {pc : Nat} {v : Int32} {K : Kn} {n : Int} (hd : decode M.2.1 pc = .ok (.bipush n, 2)) (hv : (Int8.ofInt n).toInt32 = v) (hk : Snd M d b Q (pc + 2) K) : Snd M d b Q pc (o_iconst v K) := by
  intro ls st w h
  · intro G p l e R s m args below meth c QQ mcF msF X H locs cells slots lsr hP hS hc hs hL; obtain ⟨hx, hb, hml, hown, hts, hR, hU, ⟨htr, hpg, hthr⟩, hend⟩ := id X
    exact lv_bipush hx hb hd hv (hk _ _ _ h G p l e R s m args below meth c QQ mcF msF X H locs cells slots lsr hP hS hc hs hL)
theorem ok_sipush {M : MD} {d b : Nat} {Q : Option Value → Mem → Prop} {pc : Nat} {v : Int32} {K : Kn} {n : Int} (hd : decode M.2.1 pc = .ok (.sipush n, 3)) (hv : (Int16.ofInt n).toInt32 = v) (hk : Snd M d b Q (pc + 3) K) : Snd M d b Q pc (o_iconst v K) := by
  intro ls st w h
  · intro G p l e R s m args below meth c QQ mcF msF X H locs cells slots lsr hP hS hc hs hL; obtain ⟨hx, hb, hml, hown, hts, hR, hU, ⟨htr, hpg, hthr⟩, hend⟩ := id X
    exact lv_sipush hx hb hd hv (hk _ _ _ h G p l e R s m args below meth c QQ mcF msF X H locs cells slots lsr hP hS hc hs hL)
theorem ok_ldc {M : MD} {d b : Nat} {Q : Option Value → Mem → Prop} {pc : Nat} {v : Int32} {K : Kn} {i : Nat} (hd : decode M.2.1 pc = .ok (.ldc i, 2)) (hv : Cond.constant M.1.cls i v ∈ tb) (hk : Snd M d b Q (pc + 2) K) : Snd M d b Q pc (o_iconst v K) := by
  intro ls st w h
  · intro G p l e R s m args below meth c QQ mcF msF X H locs cells slots lsr hP hS hc hs hL; obtain ⟨hx, hb, hml, hown, hts, hR, hU, ⟨htr, hpg, hthr⟩, hend⟩ := id X
    exact lv_ldc hx hb hown (hts _ hv) hd (hk _ _ _ h G p l e R s m args below meth c QQ mcF msF X H locs cells slots lsr hP hS hc hs hL)
theorem ok_ldcw {M : MD} {d b : Nat} {Q : Option Value → Mem → Prop} {pc : Nat} {v : Int32} {K : Kn} {i : Nat} (hd : decode M.2.1 pc = .ok (.ldc_w i, 3)) (hv : Cond.constant M.1.cls i v ∈ tb) (hk : Snd M d b Q (pc + 3) K) : Snd M d b Q pc (o_iconst v K) := by
  intro ls st w h
  · intro G p l e R s m args below meth c QQ mcF msF X H locs cells slots lsr hP hS hc hs hL; obtain ⟨hx, hb, hml, hown, hts, hR, hU, ⟨htr, hpg, hthr⟩, hend⟩ := id X
    exact lv_ldcw hx hb hown (hts _ hv) hd (hk _ _ _ h G p l e R s m args below meth c QQ mcF msF X H locs cells slots lsr hP hS hc hs hL)
def o_lconst (v : Int64) (K : Kn) : Kn := fun ls st w => K ls (.long v :: st) w
theorem ok_lconst {M : MD} {d b : Nat} {Q : Option Value → Mem → Prop} {pc : Nat} {v : Int64} {K : Kn} {n : Fin 2} (hd : decode M.2.1 pc = .ok (.lconst n, 1)) (hv : Int64.ofNat (n : Nat) = v) (hk : Snd M d b Q (pc + 1) K) : Snd M d b Q pc (o_lconst v K) := by
  intro ls st w h
  · intro G p l e R s m args below meth c QQ mcF msF X H locs cells slots lsr hP hS hc hs hL; obtain ⟨hx, hb, hml, hown, hts, hR, hU, ⟨htr, hpg, hthr⟩, hend⟩ := id X
    exact lv_lconst hx hb hd hv (hk _ _ _ h G p l e R s m args below meth c QQ mcF msF X H locs cells slots lsr hP hS hc hs hL)
theorem ok_ldc2 {M : MD} {d b : Nat} {Q : Option Value → Mem → Prop} {pc : Nat} {v : Int64} {K : Kn} {i : Nat} (hd : decode M.2.1 pc = .ok (.ldc2_w i, 3)) (hv : Cond.constantLong M.1.cls i v ∈ tb) (hk : Snd M d b Q (pc + 3) K) : Snd M d b Q pc (o_lconst v K) := by
  intro ls st w h
  · intro G p l e R s m args below meth c QQ mcF msF X H locs cells slots lsr hP hS hc hs hL; obtain ⟨hx, hb, hml, hown, hts, hR, hU, ⟨htr, hpg, hthr⟩, hend⟩ := id X
    exact lv_ldc2 hx hb hown (hts _ hv) hd (hk _ _ _ h G p l e R s m args below meth c QQ mcF msF X H locs cells slots lsr hP hS hc hs hL)
theorem NS_le : NS ≤ 100 := by decide
theorem cz_ref {G : Gl} {k : Nat} (h : k ≠ 3000) : cz G (.ref k) = .ref (gad G k) := by simp [cz, h]
def o_ldcS (i : Nat) (K : Kn) : Kn := fun ls st w => K ls (.ref (1000 + i) :: st) w
theorem ok_ldcS {M : MD} {d b : Nat} {Q : Option Value → Mem → Prop} {pc : Nat} {i index : Nat} {tx : String} {K : Kn} (hd : decode M.2.1 pc = .ok (.ldc index, 2)) (hm : (M.1.cls, index, tx, i) ∈ STR) (hi : i < NS) (hk : Snd M d b Q (pc + 2) K) : Snd M d b Q pc (o_ldcS i K) := by
  intro ls st w h
  · intro G p l e R s m args below meth c QQ mcF msF X H locs cells slots lsr hP hS hc hs hL; obtain ⟨hx, hb, hml, hown, hts, hR, hU, ⟨htr, hpg, hthr⟩, hend⟩ := id X
    have e9 : cz G (.ref (1000 + i)) = .ref (gad G (1000 + i)) := cz_ref (by have := NS_le; omega)
    have h2 := (hk _ _ _ h G p l e R s m args below meth c QQ mcF msF X H locs cells slots lsr hP hS hc hs hL)
    rw [List.map_cons, e9] at h2
    exact va_ldcS hx hb hown (hU.2.2.2.1 _ hm) hd h2
def o_iload (i : Nat) (K : Kn) : Kn := fun ls st w => match ls[i]? with
  | some (.int x) => K ls (.int x :: st) w
  | _ => False
theorem ok_iload_n {M : MD} {d b : Nat} {Q : Option Value → Mem → Prop} {pc : Nat} {i : Nat} {K : Kn} {k : Fin 4} (hd : decode M.2.1 pc = .ok (.iload_n k, 1)) (hi : (k : Nat) = i) (hk : Snd M d b Q (pc + 1) K) : Snd M d b Q pc (o_iload i K) := by
  intro ls st w h
  unfold o_iload at h
  split at h
  next x h0 =>
    intro G p l e R s m args below meth c QQ mcF msF X H locs cells slots lsr hP hS hc hs hL; obtain ⟨hx, hb, hml, hown, hts, hR, hU, ⟨htr, hpg, hthr⟩, hend⟩ := id X
    exact lv_iload_n hx hb hd hi (hL.2.2 i _ h0 (by simp)) (hk _ _ _ h G p l e R s m args below meth c QQ mcF msF X H locs cells slots lsr hP hS hc hs hL)
  next => exact h.elim
theorem ok_iload {M : MD} {d b : Nat} {Q : Option Value → Mem → Prop} {pc : Nat} {i : Nat} {K : Kn}  (hd : decode M.2.1 pc = .ok (.iload i, 2))  (hk : Snd M d b Q (pc + 2) K) : Snd M d b Q pc (o_iload i K) := by
  intro ls st w h
  unfold o_iload at h
  split at h
  next x h0 =>
    intro G p l e R s m args below meth c QQ mcF msF X H locs cells slots lsr hP hS hc hs hL; obtain ⟨hx, hb, hml, hown, hts, hR, hU, ⟨htr, hpg, hthr⟩, hend⟩ := id X
    exact lv_iload hx hb hd (hL.2.2 i _ h0 (by simp)) (hk _ _ _ h G p l e R s m args below meth c QQ mcF msF X H locs cells slots lsr hP hS hc hs hL)
  next => exact h.elim
def o_lload (i : Nat) (K : Kn) : Kn := fun ls st w => match ls[i]? with
  | some (.long x) => K ls (.long x :: st) w
  | _ => False
theorem ok_lload_n {M : MD} {d b : Nat} {Q : Option Value → Mem → Prop} {pc : Nat} {i : Nat} {K : Kn} {k : Fin 4} (hd : decode M.2.1 pc = .ok (.lload_n k, 1)) (hi : (k : Nat) = i) (hk : Snd M d b Q (pc + 1) K) : Snd M d b Q pc (o_lload i K) := by
  intro ls st w h
  unfold o_lload at h
  split at h
  next x h0 =>
    intro G p l e R s m args below meth c QQ mcF msF X H locs cells slots lsr hP hS hc hs hL; obtain ⟨hx, hb, hml, hown, hts, hR, hU, ⟨htr, hpg, hthr⟩, hend⟩ := id X
    exact lv_lload_n hx hb hd hi (hL.2.2 i _ h0 (by simp)) (hk _ _ _ h G p l e R s m args below meth c QQ mcF msF X H locs cells slots lsr hP hS hc hs hL)
  next => exact h.elim
theorem ok_lload {M : MD} {d b : Nat} {Q : Option Value → Mem → Prop} {pc : Nat} {i : Nat} {K : Kn}  (hd : decode M.2.1 pc = .ok (.lload i, 2))  (hk : Snd M d b Q (pc + 2) K) : Snd M d b Q pc (o_lload i K) := by
  intro ls st w h
  unfold o_lload at h
  split at h
  next x h0 =>
    intro G p l e R s m args below meth c QQ mcF msF X H locs cells slots lsr hP hS hc hs hL; obtain ⟨hx, hb, hml, hown, hts, hR, hU, ⟨htr, hpg, hthr⟩, hend⟩ := id X
    exact lv_lload hx hb hd (hL.2.2 i _ h0 (by simp)) (hk _ _ _ h G p l e R s m args below meth c QQ mcF msF X H locs cells slots lsr hP hS hc hs hL)
  next => exact h.elim
def o_aload (i : Nat) (K : Kn) : Kn := fun ls st w => match ls[i]? with
  | some (.ref x) => K ls (.ref x :: st) w
  | _ => False
theorem ok_aload_n {M : MD} {d b : Nat} {Q : Option Value → Mem → Prop} {pc : Nat} {i : Nat} {K : Kn} {k : Fin 4} (hd : decode M.2.1 pc = .ok (.aload_n k, 1)) (hi : (k : Nat) = i) (hk : Snd M d b Q (pc + 1) K) : Snd M d b Q pc (o_aload i K) := by
  intro ls st w h
  unfold o_aload at h
  split at h
  next x h0 =>
    intro G p l e R s m args below meth c QQ mcF msF X H locs cells slots lsr hP hS hc hs hL; obtain ⟨hx, hb, hml, hown, hts, hR, hU, ⟨htr, hpg, hthr⟩, hend⟩ := id X
    have h1 := hL.2.2 i _ h0 (by simp)
    have h2 := (hk _ _ _ h G p l e R s m args below meth c QQ mcF msF X H locs cells slots lsr hP hS hc hs hL)
    rw [List.map_cons] at h2
    by_cases q : x = 3000
    · have e9 : cz G (.ref x) = gfv G := by simp [cz, q]
      rw [e9] at h1 h2
      rcases hU.2.2.2.2.2.2.2.2.1 with e2 | ⟨a, e2⟩
      · rw [e2] at h1 h2
        exact lv_aload_nN hx hb hd hi h1 h2
      · rw [e2] at h1 h2
        exact lv_aload_n hx hb hd hi h1 h2
    · rw [cz_ref q] at h1 h2
      exact lv_aload_n hx hb hd hi h1 h2
  next => exact h.elim
theorem ok_aload {M : MD} {d b : Nat} {Q : Option Value → Mem → Prop} {pc : Nat} {i : Nat} {K : Kn}  (hd : decode M.2.1 pc = .ok (.aload i, 2))  (hk : Snd M d b Q (pc + 2) K) : Snd M d b Q pc (o_aload i K) := by
  intro ls st w h
  unfold o_aload at h
  split at h
  next x h0 =>
    intro G p l e R s m args below meth c QQ mcF msF X H locs cells slots lsr hP hS hc hs hL; obtain ⟨hx, hb, hml, hown, hts, hR, hU, ⟨htr, hpg, hthr⟩, hend⟩ := id X
    have h1 := hL.2.2 i _ h0 (by simp)
    have h2 := (hk _ _ _ h G p l e R s m args below meth c QQ mcF msF X H locs cells slots lsr hP hS hc hs hL)
    rw [List.map_cons] at h2
    by_cases q : x = 3000
    · have e9 : cz G (.ref x) = gfv G := by simp [cz, q]
      rw [e9] at h1 h2
      rcases hU.2.2.2.2.2.2.2.2.1 with e2 | ⟨a, e2⟩
      · rw [e2] at h1 h2
        exact lv_aloadN hx hb hd h1 h2
      · rw [e2] at h1 h2
        exact lv_aload hx hb hd h1 h2
    · rw [cz_ref q] at h1 h2
      exact lv_aload hx hb hd h1 h2
  next => exact h.elim
def o_istore (i : Nat) (K : Kn) : Kn := fun ls st w => match st with
  | .int x :: r => K (st1 ls i (.int x)) r w
  | _ => False
theorem ok_istore_n {M : MD} {d b : Nat} {Q : Option Value → Mem → Prop} {pc : Nat} {i : Nat} {K : Kn} {k : Fin 4} (hd : decode M.2.1 pc = .ok (.istore_n k, 1)) (hi : (k : Nat) = i) (hn : i < M.2.2.1) (hk : Snd M d b Q (pc + 1) K) : Snd M d b Q pc (o_istore i K) := by
  intro ls st w h
  unfold o_istore at h
  split at h
  next x r =>
    intro G p l e R s m args below meth c QQ mcF msF X H locs cells slots lsr hP hS hc hs hL; obtain ⟨hx, hb, hml, hown, hts, hR, hU, ⟨htr, hpg, hthr⟩, hend⟩ := id X
    refine lv_istore_n hx hb hd hi hL.has hn rfl (fun ls1 h1 => ?_)
    have hL1 := LR_st1 hU (v := .int x) (ls := ls) h1
    exact (hk _ _ _ h G p l e R s m args below meth c QQ mcF msF X H locs cells slots ls1 hP hS hc hs hL1)
  next => exact h.elim
theorem ok_istore {M : MD} {d b : Nat} {Q : Option Value → Mem → Prop} {pc : Nat} {i : Nat} {K : Kn}  (hd : decode M.2.1 pc = .ok (.istore i, 2))  (hn : i < M.2.2.1) (hk : Snd M d b Q (pc + 2) K) : Snd M d b Q pc (o_istore i K) := by
  intro ls st w h
  unfold o_istore at h
  split at h
  next x r =>
    intro G p l e R s m args below meth c QQ mcF msF X H locs cells slots lsr hP hS hc hs hL; obtain ⟨hx, hb, hml, hown, hts, hR, hU, ⟨htr, hpg, hthr⟩, hend⟩ := id X
    refine lv_istore hx hb hd hL.has hn rfl (fun ls1 h1 => ?_)
    have hL1 := LR_st1 hU (v := .int x) (ls := ls) h1
    exact (hk _ _ _ h G p l e R s m args below meth c QQ mcF msF X H locs cells slots ls1 hP hS hc hs hL1)
  next => exact h.elim
def o_lstore (i : Nat) (K : Kn) : Kn := fun ls st w => match st with
  | .long x :: r => K (st2 ls i (.long x)) r w
  | _ => False
theorem ok_lstore_n {M : MD} {d b : Nat} {Q : Option Value → Mem → Prop} {pc : Nat} {i : Nat} {K : Kn} {k : Fin 4} (hd : decode M.2.1 pc = .ok (.lstore_n k, 1)) (hi : (k : Nat) = i) (hn : i + 1 < M.2.2.1) (hk : Snd M d b Q (pc + 1) K) : Snd M d b Q pc (o_lstore i K) := by
  intro ls st w h
  unfold o_lstore at h
  split at h
  next x r =>
    intro G p l e R s m args below meth c QQ mcF msF X H locs cells slots lsr hP hS hc hs hL; obtain ⟨hx, hb, hml, hown, hts, hR, hU, ⟨htr, hpg, hthr⟩, hend⟩ := id X
    refine lv_lstore_n hx hb hd hi hL.has hn rfl (fun ls1 h1 => ?_)
    have hL1 := LR_st2 hU (v := .long x) (ls := ls) h1
    exact (hk _ _ _ h G p l e R s m args below meth c QQ mcF msF X H locs cells slots ls1 hP hS hc hs hL1)
  next => exact h.elim
theorem ok_lstore {M : MD} {d b : Nat} {Q : Option Value → Mem → Prop} {pc : Nat} {i : Nat} {K : Kn}  (hd : decode M.2.1 pc = .ok (.lstore i, 2))  (hn : i + 1 < M.2.2.1) (hk : Snd M d b Q (pc + 2) K) : Snd M d b Q pc (o_lstore i K) := by
  intro ls st w h
  unfold o_lstore at h
  split at h
  next x r =>
    intro G p l e R s m args below meth c QQ mcF msF X H locs cells slots lsr hP hS hc hs hL; obtain ⟨hx, hb, hml, hown, hts, hR, hU, ⟨htr, hpg, hthr⟩, hend⟩ := id X
    refine lv_lstore hx hb hd hL.has hn rfl (fun ls1 h1 => ?_)
    have hL1 := LR_st2 hU (v := .long x) (ls := ls) h1
    exact (hk _ _ _ h G p l e R s m args below meth c QQ mcF msF X H locs cells slots ls1 hP hS hc hs hL1)
  next => exact h.elim
def o_astore (i : Nat) (K : Kn) : Kn := fun ls st w => match st with
  | .ref x :: r => x ≠ 3000 ∧ K (st1 ls i (.ref x)) r w
  | _ => False
theorem ok_astore_n {M : MD} {d b : Nat} {Q : Option Value → Mem → Prop} {pc : Nat} {i : Nat} {K : Kn} {k : Fin 4} (hd : decode M.2.1 pc = .ok (.astore_n k, 1)) (hi : (k : Nat) = i) (hn : i < M.2.2.1) (hk : Snd M d b Q (pc + 1) K) : Snd M d b Q pc (o_astore i K) := by
  intro ls st w h
  unfold o_astore at h
  split at h
  next x r =>
    obtain ⟨hne, h⟩ := h
    intro G p l e R s m args below meth c QQ mcF msF X H locs cells slots lsr hP hS hc hs hL; obtain ⟨hx, hb, hml, hown, hts, hR, hU, ⟨htr, hpg, hthr⟩, hend⟩ := id X
    have e0 : (cz G (.ref x) :: r.map (cz G)) = (.ref (gad G x) :: r.map (cz G)) := by rw [cz_ref hne]
    rw [List.map_cons, e0]
    refine lv_astore_n hx hb hd hi hL.has hn rfl (fun ls1 h1 => ?_)
    have hL1 := LR_st1 hU (v := .ref x) (ls := ls) (by rw [cz_ref hne]; exact h1)
    exact (hk _ _ _ h G p l e R s m args below meth c QQ mcF msF X H locs cells slots ls1 hP hS hc hs hL1)
  next => exact h.elim
theorem ok_astore {M : MD} {d b : Nat} {Q : Option Value → Mem → Prop} {pc : Nat} {i : Nat} {K : Kn}  (hd : decode M.2.1 pc = .ok (.astore i, 2))  (hn : i < M.2.2.1) (hk : Snd M d b Q (pc + 2) K) : Snd M d b Q pc (o_astore i K) := by
  intro ls st w h
  unfold o_astore at h
  split at h
  next x r =>
    obtain ⟨hne, h⟩ := h
    intro G p l e R s m args below meth c QQ mcF msF X H locs cells slots lsr hP hS hc hs hL; obtain ⟨hx, hb, hml, hown, hts, hR, hU, ⟨htr, hpg, hthr⟩, hend⟩ := id X
    have e0 : (cz G (.ref x) :: r.map (cz G)) = (.ref (gad G x) :: r.map (cz G)) := by rw [cz_ref hne]
    rw [List.map_cons, e0]
    refine lv_astore hx hb hd hL.has hn rfl (fun ls1 h1 => ?_)
    have hL1 := LR_st1 hU (v := .ref x) (ls := ls) (by rw [cz_ref hne]; exact h1)
    exact (hk _ _ _ h G p l e R s m args below meth c QQ mcF msF X H locs cells slots ls1 hP hS hc hs hL1)
  next => exact h.elim
def o_iinc (i : Nat) (n : Int32) (K : Kn) : Kn := fun ls st w => match ls[i]? with
  | some (.int x) => K (st1 ls i (.int (x + n))) st w
  | _ => False
theorem ok_iinc {M : MD} {d b : Nat} {Q : Option Value → Mem → Prop} {pc : Nat} {i : Nat} {n : Int32} {a : Int} {K : Kn} (hd : decode M.2.1 pc = .ok (.iinc i a, 3)) (ha : Int32.ofInt a = n) (hn : i < M.2.2.1) (hk : Snd M d b Q (pc + 3) K) : Snd M d b Q pc (o_iinc i n K) := by
  intro ls st w h
  unfold o_iinc at h
  split at h
  next x h0 =>
    intro G p l e R s m args below meth c QQ mcF msF X H locs cells slots lsr hP hS hc hs hL; obtain ⟨hx, hb, hml, hown, hts, hR, hU, ⟨htr, hpg, hthr⟩, hend⟩ := id X
    obtain ⟨k, hkk⟩ := List.getElem?_of_mem (lvl_mem (G := G) h0 (by simp))
    refine lv_iinc hx hb hd hL.has hkk (v := x + n) (by rw [ha]) hn rfl (fun ls1 h1 => ?_)
    have hL1 := LR_st1 hU (v := .int (x + n)) (ls := ls) h1
    exact (hk _ _ _ h G p l e R s m args below meth c QQ mcF msF X H locs cells slots ls1 hP hS hc hs hL1)
  next => exact h.elim
def o_iadd (K : Kn) : Kn := fun ls st w => match st with
  | .int y :: .int x :: r => K ls (.int (x + y) :: r) w
  | _ => False
theorem ok_iadd {M : MD} {d b : Nat} {Q : Option Value → Mem → Prop} {pc : Nat} {K : Kn} (hd : decode M.2.1 pc = .ok (.iadd, 1)) (hk : Snd M d b Q (pc + 1) K) : Snd M d b Q pc (o_iadd K) := by
  intro ls st w h
  unfold o_iadd at h
  split at h
  next y x r =>
    intro G p l e R s m args below meth c QQ mcF msF X H locs cells slots lsr hP hS hc hs hL; obtain ⟨hx, hb, hml, hown, hts, hR, hU, ⟨htr, hpg, hthr⟩, hend⟩ := id X
    exact lv_iadd hx hb hd (hk _ _ _ h G p l e R s m args below meth c QQ mcF msF X H locs cells slots lsr hP hS hc hs hL)
  next => exact h.elim
def o_isub (K : Kn) : Kn := fun ls st w => match st with
  | .int y :: .int x :: r => K ls (.int (x - y) :: r) w
  | _ => False
theorem ok_isub {M : MD} {d b : Nat} {Q : Option Value → Mem → Prop} {pc : Nat} {K : Kn} (hd : decode M.2.1 pc = .ok (.isub, 1)) (hk : Snd M d b Q (pc + 1) K) : Snd M d b Q pc (o_isub K) := by
  intro ls st w h
  unfold o_isub at h
  split at h
  next y x r =>
    intro G p l e R s m args below meth c QQ mcF msF X H locs cells slots lsr hP hS hc hs hL; obtain ⟨hx, hb, hml, hown, hts, hR, hU, ⟨htr, hpg, hthr⟩, hend⟩ := id X
    exact lv_isub hx hb hd (hk _ _ _ h G p l e R s m args below meth c QQ mcF msF X H locs cells slots lsr hP hS hc hs hL)
  next => exact h.elim
def o_imul (K : Kn) : Kn := fun ls st w => match st with
  | .int y :: .int x :: r => K ls (.int (x * y) :: r) w
  | _ => False
theorem ok_imul {M : MD} {d b : Nat} {Q : Option Value → Mem → Prop} {pc : Nat} {K : Kn} (hd : decode M.2.1 pc = .ok (.imul, 1)) (hk : Snd M d b Q (pc + 1) K) : Snd M d b Q pc (o_imul K) := by
  intro ls st w h
  unfold o_imul at h
  split at h
  next y x r =>
    intro G p l e R s m args below meth c QQ mcF msF X H locs cells slots lsr hP hS hc hs hL; obtain ⟨hx, hb, hml, hown, hts, hR, hU, ⟨htr, hpg, hthr⟩, hend⟩ := id X
    exact lv_imul hx hb hd (hk _ _ _ h G p l e R s m args below meth c QQ mcF msF X H locs cells slots lsr hP hS hc hs hL)
  next => exact h.elim
def o_iand (K : Kn) : Kn := fun ls st w => match st with
  | .int y :: .int x :: r => K ls (.int (x &&& y) :: r) w
  | _ => False
theorem ok_iand {M : MD} {d b : Nat} {Q : Option Value → Mem → Prop} {pc : Nat} {K : Kn} (hd : decode M.2.1 pc = .ok (.iand, 1)) (hk : Snd M d b Q (pc + 1) K) : Snd M d b Q pc (o_iand K) := by
  intro ls st w h
  unfold o_iand at h
  split at h
  next y x r =>
    intro G p l e R s m args below meth c QQ mcF msF X H locs cells slots lsr hP hS hc hs hL; obtain ⟨hx, hb, hml, hown, hts, hR, hU, ⟨htr, hpg, hthr⟩, hend⟩ := id X
    exact lv_iand hx hb hd (hk _ _ _ h G p l e R s m args below meth c QQ mcF msF X H locs cells slots lsr hP hS hc hs hL)
  next => exact h.elim
def o_ior (K : Kn) : Kn := fun ls st w => match st with
  | .int y :: .int x :: r => K ls (.int (x ||| y) :: r) w
  | _ => False
theorem ok_ior {M : MD} {d b : Nat} {Q : Option Value → Mem → Prop} {pc : Nat} {K : Kn} (hd : decode M.2.1 pc = .ok (.ior, 1)) (hk : Snd M d b Q (pc + 1) K) : Snd M d b Q pc (o_ior K) := by
  intro ls st w h
  unfold o_ior at h
  split at h
  next y x r =>
    intro G p l e R s m args below meth c QQ mcF msF X H locs cells slots lsr hP hS hc hs hL; obtain ⟨hx, hb, hml, hown, hts, hR, hU, ⟨htr, hpg, hthr⟩, hend⟩ := id X
    exact lv_ior hx hb hd (hk _ _ _ h G p l e R s m args below meth c QQ mcF msF X H locs cells slots lsr hP hS hc hs hL)
  next => exact h.elim
def o_ixor (K : Kn) : Kn := fun ls st w => match st with
  | .int y :: .int x :: r => K ls (.int (x ^^^ y) :: r) w
  | _ => False
theorem ok_ixor {M : MD} {d b : Nat} {Q : Option Value → Mem → Prop} {pc : Nat} {K : Kn} (hd : decode M.2.1 pc = .ok (.ixor, 1)) (hk : Snd M d b Q (pc + 1) K) : Snd M d b Q pc (o_ixor K) := by
  intro ls st w h
  unfold o_ixor at h
  split at h
  next y x r =>
    intro G p l e R s m args below meth c QQ mcF msF X H locs cells slots lsr hP hS hc hs hL; obtain ⟨hx, hb, hml, hown, hts, hR, hU, ⟨htr, hpg, hthr⟩, hend⟩ := id X
    exact lv_ixor hx hb hd (hk _ _ _ h G p l e R s m args below meth c QQ mcF msF X H locs cells slots lsr hP hS hc hs hL)
  next => exact h.elim
def o_ishl (K : Kn) : Kn := fun ls st w => match st with
  | .int y :: .int x :: r => K ls (.int (x <<< (y &&& 31)) :: r) w
  | _ => False
theorem ok_ishl {M : MD} {d b : Nat} {Q : Option Value → Mem → Prop} {pc : Nat} {K : Kn} (hd : decode M.2.1 pc = .ok (.ishl, 1)) (hk : Snd M d b Q (pc + 1) K) : Snd M d b Q pc (o_ishl K) := by
  intro ls st w h
  unfold o_ishl at h
  split at h
  next y x r =>
    intro G p l e R s m args below meth c QQ mcF msF X H locs cells slots lsr hP hS hc hs hL; obtain ⟨hx, hb, hml, hown, hts, hR, hU, ⟨htr, hpg, hthr⟩, hend⟩ := id X
    exact lv_ishl hx hb hd (hk _ _ _ h G p l e R s m args below meth c QQ mcF msF X H locs cells slots lsr hP hS hc hs hL)
  next => exact h.elim
def o_ishr (K : Kn) : Kn := fun ls st w => match st with
  | .int y :: .int x :: r => K ls (.int (x >>> (y &&& 31)) :: r) w
  | _ => False
theorem ok_ishr {M : MD} {d b : Nat} {Q : Option Value → Mem → Prop} {pc : Nat} {K : Kn} (hd : decode M.2.1 pc = .ok (.ishr, 1)) (hk : Snd M d b Q (pc + 1) K) : Snd M d b Q pc (o_ishr K) := by
  intro ls st w h
  unfold o_ishr at h
  split at h
  next y x r =>
    intro G p l e R s m args below meth c QQ mcF msF X H locs cells slots lsr hP hS hc hs hL; obtain ⟨hx, hb, hml, hown, hts, hR, hU, ⟨htr, hpg, hthr⟩, hend⟩ := id X
    exact lv_ishr hx hb hd (hk _ _ _ h G p l e R s m args below meth c QQ mcF msF X H locs cells slots lsr hP hS hc hs hL)
  next => exact h.elim
def o_iushr (K : Kn) : Kn := fun ls st w => match st with
  | .int y :: .int x :: r => K ls (.int ((x.toUInt32 >>> (y.toUInt32 &&& Int32.toUInt32 31)).toInt32) :: r) w
  | _ => False
theorem ok_iushr {M : MD} {d b : Nat} {Q : Option Value → Mem → Prop} {pc : Nat} {K : Kn} (hd : decode M.2.1 pc = .ok (.iushr, 1)) (hk : Snd M d b Q (pc + 1) K) : Snd M d b Q pc (o_iushr K) := by
  intro ls st w h
  unfold o_iushr at h
  split at h
  next y x r =>
    intro G p l e R s m args below meth c QQ mcF msF X H locs cells slots lsr hP hS hc hs hL; obtain ⟨hx, hb, hml, hown, hts, hR, hU, ⟨htr, hpg, hthr⟩, hend⟩ := id X
    exact lv_iushr hx hb hd rfl (hk _ _ _ h G p l e R s m args below meth c QQ mcF msF X H locs cells slots lsr hP hS hc hs hL)
  next => exact h.elim
def o_idiv (K : Kn) : Kn := fun ls st w => match st with
  | .int y :: .int x :: r => ¬ y = 0 ∧ K ls (.int (x / y) :: r) w
  | _ => False
theorem ok_idiv {M : MD} {d b : Nat} {Q : Option Value → Mem → Prop} {pc : Nat} {K : Kn} (hd : decode M.2.1 pc = .ok (.idiv, 1)) (hk : Snd M d b Q (pc + 1) K) : Snd M d b Q pc (o_idiv K) := by
  intro ls st w h
  unfold o_idiv at h
  split at h
  next y x r =>
    obtain ⟨hne, h⟩ := h
    intro G p l e R s m args below meth c QQ mcF msF X H locs cells slots lsr hP hS hc hs hL; obtain ⟨hx, hb, hml, hown, hts, hR, hU, ⟨htr, hpg, hthr⟩, hend⟩ := id X
    exact lv_idiv hx hb hd hne (hk _ _ _ h G p l e R s m args below meth c QQ mcF msF X H locs cells slots lsr hP hS hc hs hL)
  next => exact h.elim
def o_irem (K : Kn) : Kn := fun ls st w => match st with
  | .int y :: .int x :: r => ¬ y = 0 ∧ K ls (.int (x - x / y * y) :: r) w
  | _ => False
theorem ok_irem {M : MD} {d b : Nat} {Q : Option Value → Mem → Prop} {pc : Nat} {K : Kn} (hd : decode M.2.1 pc = .ok (.irem, 1)) (hk : Snd M d b Q (pc + 1) K) : Snd M d b Q pc (o_irem K) := by
  intro ls st w h
  unfold o_irem at h
  split at h
  next y x r =>
    obtain ⟨hne, h⟩ := h
    intro G p l e R s m args below meth c QQ mcF msF X H locs cells slots lsr hP hS hc hs hL; obtain ⟨hx, hb, hml, hown, hts, hR, hU, ⟨htr, hpg, hthr⟩, hend⟩ := id X
    exact lv_irem hx hb hd hne (hk _ _ _ h G p l e R s m args below meth c QQ mcF msF X H locs cells slots lsr hP hS hc hs hL)
  next => exact h.elim
def o_ladd (K : Kn) : Kn := fun ls st w => match st with
  | .long y :: .long x :: r => K ls (.long (x + y) :: r) w
  | _ => False
theorem ok_ladd {M : MD} {d b : Nat} {Q : Option Value → Mem → Prop} {pc : Nat} {K : Kn} (hd : decode M.2.1 pc = .ok (.ladd, 1)) (hk : Snd M d b Q (pc + 1) K) : Snd M d b Q pc (o_ladd K) := by
  intro ls st w h
  unfold o_ladd at h
  split at h
  next y x r =>
    intro G p l e R s m args below meth c QQ mcF msF X H locs cells slots lsr hP hS hc hs hL; obtain ⟨hx, hb, hml, hown, hts, hR, hU, ⟨htr, hpg, hthr⟩, hend⟩ := id X
    exact lv_ladd hx hb hd (hk _ _ _ h G p l e R s m args below meth c QQ mcF msF X H locs cells slots lsr hP hS hc hs hL)
  next => exact h.elim
def o_lsub (K : Kn) : Kn := fun ls st w => match st with
  | .long y :: .long x :: r => K ls (.long (x - y) :: r) w
  | _ => False
theorem ok_lsub {M : MD} {d b : Nat} {Q : Option Value → Mem → Prop} {pc : Nat} {K : Kn} (hd : decode M.2.1 pc = .ok (.lsub, 1)) (hk : Snd M d b Q (pc + 1) K) : Snd M d b Q pc (o_lsub K) := by
  intro ls st w h
  unfold o_lsub at h
  split at h
  next y x r =>
    intro G p l e R s m args below meth c QQ mcF msF X H locs cells slots lsr hP hS hc hs hL; obtain ⟨hx, hb, hml, hown, hts, hR, hU, ⟨htr, hpg, hthr⟩, hend⟩ := id X
    exact lv_lsub hx hb hd (hk _ _ _ h G p l e R s m args below meth c QQ mcF msF X H locs cells slots lsr hP hS hc hs hL)
  next => exact h.elim
def o_lmul (K : Kn) : Kn := fun ls st w => match st with
  | .long y :: .long x :: r => K ls (.long (x * y) :: r) w
  | _ => False
theorem ok_lmul {M : MD} {d b : Nat} {Q : Option Value → Mem → Prop} {pc : Nat} {K : Kn} (hd : decode M.2.1 pc = .ok (.lmul, 1)) (hk : Snd M d b Q (pc + 1) K) : Snd M d b Q pc (o_lmul K) := by
  intro ls st w h
  unfold o_lmul at h
  split at h
  next y x r =>
    intro G p l e R s m args below meth c QQ mcF msF X H locs cells slots lsr hP hS hc hs hL; obtain ⟨hx, hb, hml, hown, hts, hR, hU, ⟨htr, hpg, hthr⟩, hend⟩ := id X
    exact lv_lmul hx hb hd (hk _ _ _ h G p l e R s m args below meth c QQ mcF msF X H locs cells slots lsr hP hS hc hs hL)
  next => exact h.elim
def o_land (K : Kn) : Kn := fun ls st w => match st with
  | .long y :: .long x :: r => K ls (.long (x &&& y) :: r) w
  | _ => False
theorem ok_land {M : MD} {d b : Nat} {Q : Option Value → Mem → Prop} {pc : Nat} {K : Kn} (hd : decode M.2.1 pc = .ok (.land, 1)) (hk : Snd M d b Q (pc + 1) K) : Snd M d b Q pc (o_land K) := by
  intro ls st w h
  unfold o_land at h
  split at h
  next y x r =>
    intro G p l e R s m args below meth c QQ mcF msF X H locs cells slots lsr hP hS hc hs hL; obtain ⟨hx, hb, hml, hown, hts, hR, hU, ⟨htr, hpg, hthr⟩, hend⟩ := id X
    exact lv_land hx hb hd (hk _ _ _ h G p l e R s m args below meth c QQ mcF msF X H locs cells slots lsr hP hS hc hs hL)
  next => exact h.elim
def o_lor (K : Kn) : Kn := fun ls st w => match st with
  | .long y :: .long x :: r => K ls (.long (x ||| y) :: r) w
  | _ => False
theorem ok_lor {M : MD} {d b : Nat} {Q : Option Value → Mem → Prop} {pc : Nat} {K : Kn} (hd : decode M.2.1 pc = .ok (.lor, 1)) (hk : Snd M d b Q (pc + 1) K) : Snd M d b Q pc (o_lor K) := by
  intro ls st w h
  unfold o_lor at h
  split at h
  next y x r =>
    intro G p l e R s m args below meth c QQ mcF msF X H locs cells slots lsr hP hS hc hs hL; obtain ⟨hx, hb, hml, hown, hts, hR, hU, ⟨htr, hpg, hthr⟩, hend⟩ := id X
    exact lv_lor hx hb hd (hk _ _ _ h G p l e R s m args below meth c QQ mcF msF X H locs cells slots lsr hP hS hc hs hL)
  next => exact h.elim
def o_ldiv (K : Kn) : Kn := fun ls st w => match st with
  | .long y :: .long x :: r => ¬ y = 0 ∧ K ls (.long (x / y) :: r) w
  | _ => False
theorem ok_ldiv {M : MD} {d b : Nat} {Q : Option Value → Mem → Prop} {pc : Nat} {K : Kn} (hd : decode M.2.1 pc = .ok (.ldiv, 1)) (hk : Snd M d b Q (pc + 1) K) : Snd M d b Q pc (o_ldiv K) := by
  intro ls st w h
  unfold o_ldiv at h
  split at h
  next y x r =>
    obtain ⟨hne, h⟩ := h
    intro G p l e R s m args below meth c QQ mcF msF X H locs cells slots lsr hP hS hc hs hL; obtain ⟨hx, hb, hml, hown, hts, hR, hU, ⟨htr, hpg, hthr⟩, hend⟩ := id X
    exact lv_ldiv hx hb hd hne (hk _ _ _ h G p l e R s m args below meth c QQ mcF msF X H locs cells slots lsr hP hS hc hs hL)
  next => exact h.elim
def o_lrem (K : Kn) : Kn := fun ls st w => match st with
  | .long y :: .long x :: r => ¬ y = 0 ∧ K ls (.long (x - x / y * y) :: r) w
  | _ => False
theorem ok_lrem {M : MD} {d b : Nat} {Q : Option Value → Mem → Prop} {pc : Nat} {K : Kn} (hd : decode M.2.1 pc = .ok (.lrem, 1)) (hk : Snd M d b Q (pc + 1) K) : Snd M d b Q pc (o_lrem K) := by
  intro ls st w h
  unfold o_lrem at h
  split at h
  next y x r =>
    obtain ⟨hne, h⟩ := h
    intro G p l e R s m args below meth c QQ mcF msF X H locs cells slots lsr hP hS hc hs hL; obtain ⟨hx, hb, hml, hown, hts, hR, hU, ⟨htr, hpg, hthr⟩, hend⟩ := id X
    exact lv_lrem hx hb hd hne (hk _ _ _ h G p l e R s m args below meth c QQ mcF msF X H locs cells slots lsr hP hS hc hs hL)
  next => exact h.elim
def o_lshl (K : Kn) : Kn := fun ls st w => match st with
  | .int y :: .long x :: r => K ls (.long (x <<< (y.toInt64 &&& 63)) :: r) w
  | _ => False
theorem ok_lshl {M : MD} {d b : Nat} {Q : Option Value → Mem → Prop} {pc : Nat} {K : Kn} (hd : decode M.2.1 pc = .ok (.lshl, 1)) (hk : Snd M d b Q (pc + 1) K) : Snd M d b Q pc (o_lshl K) := by
  intro ls st w h
  unfold o_lshl at h
  split at h
  next y x r =>
    intro G p l e R s m args below meth c QQ mcF msF X H locs cells slots lsr hP hS hc hs hL; obtain ⟨hx, hb, hml, hown, hts, hR, hU, ⟨htr, hpg, hthr⟩, hend⟩ := id X
    exact lv_lshl hx hb hd rfl (hk _ _ _ h G p l e R s m args below meth c QQ mcF msF X H locs cells slots lsr hP hS hc hs hL)
  next => exact h.elim
def o_lshr (K : Kn) : Kn := fun ls st w => match st with
  | .int y :: .long x :: r => K ls (.long (x >>> (y.toInt64 &&& 63)) :: r) w
  | _ => False
theorem ok_lshr {M : MD} {d b : Nat} {Q : Option Value → Mem → Prop} {pc : Nat} {K : Kn} (hd : decode M.2.1 pc = .ok (.lshr, 1)) (hk : Snd M d b Q (pc + 1) K) : Snd M d b Q pc (o_lshr K) := by
  intro ls st w h
  unfold o_lshr at h
  split at h
  next y x r =>
    intro G p l e R s m args below meth c QQ mcF msF X H locs cells slots lsr hP hS hc hs hL; obtain ⟨hx, hb, hml, hown, hts, hR, hU, ⟨htr, hpg, hthr⟩, hend⟩ := id X
    exact lv_lshr hx hb hd rfl (hk _ _ _ h G p l e R s m args below meth c QQ mcF msF X H locs cells slots lsr hP hS hc hs hL)
  next => exact h.elim
def o_lcmp (K : Kn) : Kn := fun ls st w => match st with
  | .long y :: .long x :: r => K ls (.int (lg_cmp x y) :: r) w
  | _ => False
theorem ok_lcmp {M : MD} {d b : Nat} {Q : Option Value → Mem → Prop} {pc : Nat} {K : Kn} (hd : decode M.2.1 pc = .ok (.lcmp, 1)) (hk : Snd M d b Q (pc + 1) K) : Snd M d b Q pc (o_lcmp K) := by
  intro ls st w h
  unfold o_lcmp at h
  split at h
  next y x r =>
    intro G p l e R s m args below meth c QQ mcF msF X H locs cells slots lsr hP hS hc hs hL; obtain ⟨hx, hb, hml, hown, hts, hR, hU, ⟨htr, hpg, hthr⟩, hend⟩ := id X
    exact W.lcmp hx hb hd (hk _ _ _ h G p l e R s m args below meth c QQ mcF msF X H locs cells slots lsr hP hS hc hs hL)
  next => exact h.elim
def o_ineg (K : Kn) : Kn := fun ls st w => match st with
  | .int x :: r => K ls (.int (0 - x) :: r) w
  | _ => False
theorem ok_ineg {M : MD} {d b : Nat} {Q : Option Value → Mem → Prop} {pc : Nat} {K : Kn} (hd : decode M.2.1 pc = .ok (.ineg, 1)) (hk : Snd M d b Q (pc + 1) K) : Snd M d b Q pc (o_ineg K) := by
  intro ls st w h
  unfold o_ineg at h
  split at h
  next x r =>
    intro G p l e R s m args below meth c QQ mcF msF X H locs cells slots lsr hP hS hc hs hL; obtain ⟨hx, hb, hml, hown, hts, hR, hU, ⟨htr, hpg, hthr⟩, hend⟩ := id X
    exact lv_ineg hx hb hd (hk _ _ _ h G p l e R s m args below meth c QQ mcF msF X H locs cells slots lsr hP hS hc hs hL)
  next => exact h.elim
def o_i2l (K : Kn) : Kn := fun ls st w => match st with
  | .int x :: r => K ls (.long (x.toInt64) :: r) w
  | _ => False
theorem ok_i2l {M : MD} {d b : Nat} {Q : Option Value → Mem → Prop} {pc : Nat} {K : Kn} (hd : decode M.2.1 pc = .ok (.i2l, 1)) (hk : Snd M d b Q (pc + 1) K) : Snd M d b Q pc (o_i2l K) := by
  intro ls st w h
  unfold o_i2l at h
  split at h
  next x r =>
    intro G p l e R s m args below meth c QQ mcF msF X H locs cells slots lsr hP hS hc hs hL; obtain ⟨hx, hb, hml, hown, hts, hR, hU, ⟨htr, hpg, hthr⟩, hend⟩ := id X
    exact lv_i2l hx hb hd rfl (hk _ _ _ h G p l e R s m args below meth c QQ mcF msF X H locs cells slots lsr hP hS hc hs hL)
  next => exact h.elim
def o_l2i (K : Kn) : Kn := fun ls st w => match st with
  | .long x :: r => K ls (.int (x.toInt32) :: r) w
  | _ => False
theorem ok_l2i {M : MD} {d b : Nat} {Q : Option Value → Mem → Prop} {pc : Nat} {K : Kn} (hd : decode M.2.1 pc = .ok (.l2i, 1)) (hk : Snd M d b Q (pc + 1) K) : Snd M d b Q pc (o_l2i K) := by
  intro ls st w h
  unfold o_l2i at h
  split at h
  next x r =>
    intro G p l e R s m args below meth c QQ mcF msF X H locs cells slots lsr hP hS hc hs hL; obtain ⟨hx, hb, hml, hown, hts, hR, hU, ⟨htr, hpg, hthr⟩, hend⟩ := id X
    exact lv_l2i hx hb hd rfl (hk _ _ _ h G p l e R s m args below meth c QQ mcF msF X H locs cells slots lsr hP hS hc hs hL)
  next => exact h.elim
def o_i2b (K : Kn) : Kn := fun ls st w => match st with
  | .int x :: r => K ls (.int (x.toInt8.toInt32) :: r) w
  | _ => False
theorem ok_i2b {M : MD} {d b : Nat} {Q : Option Value → Mem → Prop} {pc : Nat} {K : Kn} (hd : decode M.2.1 pc = .ok (.i2b, 1)) (hk : Snd M d b Q (pc + 1) K) : Snd M d b Q pc (o_i2b K) := by
  intro ls st w h
  unfold o_i2b at h
  split at h
  next x r =>
    intro G p l e R s m args below meth c QQ mcF msF X H locs cells slots lsr hP hS hc hs hL; obtain ⟨hx, hb, hml, hown, hts, hR, hU, ⟨htr, hpg, hthr⟩, hend⟩ := id X
    exact lv_i2b hx hb hd rfl (hk _ _ _ h G p l e R s m args below meth c QQ mcF msF X H locs cells slots lsr hP hS hc hs hL)
  next => exact h.elim
def o_i2c (K : Kn) : Kn := fun ls st w => match st with
  | .int x :: r => K ls (.int ((x.toUInt32 % 65536).toInt32) :: r) w
  | _ => False
theorem ok_i2c {M : MD} {d b : Nat} {Q : Option Value → Mem → Prop} {pc : Nat} {K : Kn} (hd : decode M.2.1 pc = .ok (.i2c, 1)) (hk : Snd M d b Q (pc + 1) K) : Snd M d b Q pc (o_i2c K) := by
  intro ls st w h
  unfold o_i2c at h
  split at h
  next x r =>
    intro G p l e R s m args below meth c QQ mcF msF X H locs cells slots lsr hP hS hc hs hL; obtain ⟨hx, hb, hml, hown, hts, hR, hU, ⟨htr, hpg, hthr⟩, hend⟩ := id X
    exact lv_i2c hx hb hd rfl (hk _ _ _ h G p l e R s m args below meth c QQ mcF msF X H locs cells slots lsr hP hS hc hs hL)
  next => exact h.elim
def o_dup (K : Kn) : Kn := fun ls st w => match st with
  | .int x :: r => K ls (.int x :: .int x :: r) w
  | .ref x :: r => K ls (.ref x :: .ref x :: r) w
  | _ => False
theorem ok_dup {M : MD} {d b : Nat} {Q : Option Value → Mem → Prop} {pc : Nat} {K : Kn} (hd : decode M.2.1 pc = .ok (.dup, 1)) (hk : Snd M d b Q (pc + 1) K) : Snd M d b Q pc (o_dup K) := by
  intro ls st w h
  unfold o_dup at h
  split at h
  next x r =>
    intro G p l e R s m args below meth c QQ mcF msF X H locs cells slots lsr hP hS hc hs hL; obtain ⟨hx, hb, hml, hown, hts, hR, hU, ⟨htr, hpg, hthr⟩, hend⟩ := id X
    exact lv_dup hx hb hd rfl (hk _ _ _ h G p l e R s m args below meth c QQ mcF msF X H locs cells slots lsr hP hS hc hs hL)
  next x r =>
    intro G p l e R s m args below meth c QQ mcF msF X H locs cells slots lsr hP hS hc hs hL; obtain ⟨hx, hb, hml, hown, hts, hR, hU, ⟨htr, hpg, hthr⟩, hend⟩ := id X
    exact lv_dup hx hb hd (cz_cat hU _) (hk _ _ _ h G p l e R s m args below meth c QQ mcF msF X H locs cells slots lsr hP hS hc hs hL)
  next => exact h.elim
def o_dup2 (K : Kn) : Kn := fun ls st w => match st with
  | .int x :: .ref y :: r => K ls (.int x :: .ref y :: .int x :: .ref y :: r) w
  | _ => False
theorem ok_dup2 {M : MD} {d b : Nat} {Q : Option Value → Mem → Prop} {pc : Nat} {K : Kn} (hd : decode M.2.1 pc = .ok (.dup2, 1)) (hk : Snd M d b Q (pc + 1) K) : Snd M d b Q pc (o_dup2 K) := by
  intro ls st w h
  unfold o_dup2 at h
  split at h
  next x y r =>
    intro G p l e R s m args below meth c QQ mcF msF X H locs cells slots lsr hP hS hc hs hL; obtain ⟨hx, hb, hml, hown, hts, hR, hU, ⟨htr, hpg, hthr⟩, hend⟩ := id X
    exact lv_dup2_11 hx hb hd rfl (cz_cat hU _) (hk _ _ _ h G p l e R s m args below meth c QQ mcF msF X H locs cells slots lsr hP hS hc hs hL)
  next => exact h.elim
def o_pop (K : Kn) : Kn := fun ls st w => match st with
  | .int _ :: r => K ls r w
  | .ref _ :: r => K ls r w
  | _ => False
theorem ok_pop {M : MD} {d b : Nat} {Q : Option Value → Mem → Prop} {pc : Nat} {K : Kn} (hd : decode M.2.1 pc = .ok (.pop, 1)) (hk : Snd M d b Q (pc + 1) K) : Snd M d b Q pc (o_pop K) := by
  intro ls st w h
  unfold o_pop at h
  split at h
  next x r =>
    intro G p l e R s m args below meth c QQ mcF msF X H locs cells slots lsr hP hS hc hs hL; obtain ⟨hx, hb, hml, hown, hts, hR, hU, ⟨htr, hpg, hthr⟩, hend⟩ := id X
    exact lv_pop hx hb hd rfl (hk _ _ _ h G p l e R s m args below meth c QQ mcF msF X H locs cells slots lsr hP hS hc hs hL)
  next x r =>
    intro G p l e R s m args below meth c QQ mcF msF X H locs cells slots lsr hP hS hc hs hL; obtain ⟨hx, hb, hml, hown, hts, hR, hU, ⟨htr, hpg, hthr⟩, hend⟩ := id X
    exact lv_pop hx hb hd (cz_cat hU _) (hk _ _ _ h G p l e R s m args below meth c QQ mcF msF X H locs cells slots lsr hP hS hc hs hL)
  next => exact h.elim
def o_ifeq (K1 K2 : Kn) : Kn := fun ls st w => match st with
  | .int x :: r => if x = 0 then K1 ls r w else K2 ls r w
  | _ => False
theorem ok_ifeq {M : MD} {d b : Nat} {Q : Option Value → Mem → Prop} {pc : Nat} {K1 K2 : Kn} {off : Int} {tgt : Nat} (hd : decode M.2.1 pc = .ok (.ifCond .eq off, 3)) (ht : (pc : Int) + off = (tgt : Int)) (hk1 : Snd M d b Q tgt K1) (hk2 : Snd M d b Q (pc + 3) K2) : Snd M d b Q pc (o_ifeq K1 K2) := by
  intro ls st w h
  unfold o_ifeq at h
  split at h
  next x r =>
    intro G p l e R s m args below meth c QQ mcF msF X H locs cells slots lsr hP hS hc hs hL; obtain ⟨hx, hb, hml, hown, hts, hR, hU, ⟨htr, hpg, hthr⟩, hend⟩ := id X
    exact lv_if_eq hx hb hd ht (fun q => (hk1 _ _ _ (by rw [if_pos (q)] at h; exact h) G p l e R s m args below meth c QQ mcF msF X H locs cells slots lsr hP hS hc hs hL)) (fun q => (hk2 _ _ _ (by rw [if_neg (q)] at h; exact h) G p l e R s m args below meth c QQ mcF msF X H locs cells slots lsr hP hS hc hs hL))
  next => exact h.elim
def o_ifne (K1 K2 : Kn) : Kn := fun ls st w => match st with
  | .int x :: r => if x = 0 then K1 ls r w else K2 ls r w
  | _ => False
theorem ok_ifne {M : MD} {d b : Nat} {Q : Option Value → Mem → Prop} {pc : Nat} {K1 K2 : Kn} {off : Int} {tgt : Nat} (hd : decode M.2.1 pc = .ok (.ifCond .ne off, 3)) (ht : (pc : Int) + off = (tgt : Int)) (hk1 : Snd M d b Q tgt K2) (hk2 : Snd M d b Q (pc + 3) K1) : Snd M d b Q pc (o_ifne K1 K2) := by
  intro ls st w h
  unfold o_ifne at h
  split at h
  next x r =>
    intro G p l e R s m args below meth c QQ mcF msF X H locs cells slots lsr hP hS hc hs hL; obtain ⟨hx, hb, hml, hown, hts, hR, hU, ⟨htr, hpg, hthr⟩, hend⟩ := id X
    exact lv_if_ne hx hb hd ht (fun q => (hk1 _ _ _ (by rw [if_neg (q)] at h; exact h) G p l e R s m args below meth c QQ mcF msF X H locs cells slots lsr hP hS hc hs hL)) (fun q => (hk2 _ _ _ (by rw [if_pos (q)] at h; exact h) G p l e R s m args below meth c QQ mcF msF X H locs cells slots lsr hP hS hc hs hL))
  next => exact h.elim
def o_iflt (K1 K2 : Kn) : Kn := fun ls st w => match st with
  | .int x :: r => if x < 0 then K1 ls r w else K2 ls r w
  | _ => False
theorem ok_iflt {M : MD} {d b : Nat} {Q : Option Value → Mem → Prop} {pc : Nat} {K1 K2 : Kn} {off : Int} {tgt : Nat} (hd : decode M.2.1 pc = .ok (.ifCond .lt off, 3)) (ht : (pc : Int) + off = (tgt : Int)) (hk1 : Snd M d b Q tgt K1) (hk2 : Snd M d b Q (pc + 3) K2) : Snd M d b Q pc (o_iflt K1 K2) := by
  intro ls st w h
  unfold o_iflt at h
  split at h
  next x r =>
    intro G p l e R s m args below meth c QQ mcF msF X H locs cells slots lsr hP hS hc hs hL; obtain ⟨hx, hb, hml, hown, hts, hR, hU, ⟨htr, hpg, hthr⟩, hend⟩ := id X
    exact lv_if_lt hx hb hd ht (fun q => (hk1 _ _ _ (by rw [if_pos (q)] at h; exact h) G p l e R s m args below meth c QQ mcF msF X H locs cells slots lsr hP hS hc hs hL)) (fun q => (hk2 _ _ _ (by rw [if_neg (q)] at h; exact h) G p l e R s m args below meth c QQ mcF msF X H locs cells slots lsr hP hS hc hs hL))
  next => exact h.elim
def o_ifge (K1 K2 : Kn) : Kn := fun ls st w => match st with
  | .int x :: r => if x < 0 then K1 ls r w else K2 ls r w
  | _ => False
theorem ok_ifge {M : MD} {d b : Nat} {Q : Option Value → Mem → Prop} {pc : Nat} {K1 K2 : Kn} {off : Int} {tgt : Nat} (hd : decode M.2.1 pc = .ok (.ifCond .ge off, 3)) (ht : (pc : Int) + off = (tgt : Int)) (hk1 : Snd M d b Q tgt K2) (hk2 : Snd M d b Q (pc + 3) K1) : Snd M d b Q pc (o_ifge K1 K2) := by
  intro ls st w h
  unfold o_ifge at h
  split at h
  next x r =>
    intro G p l e R s m args below meth c QQ mcF msF X H locs cells slots lsr hP hS hc hs hL; obtain ⟨hx, hb, hml, hown, hts, hR, hU, ⟨htr, hpg, hthr⟩, hend⟩ := id X
    exact lv_if_ge hx hb hd ht (fun q => (hk1 _ _ _ (by rw [if_neg (Int32.not_lt.mpr q)] at h; exact h) G p l e R s m args below meth c QQ mcF msF X H locs cells slots lsr hP hS hc hs hL)) (fun q => (hk2 _ _ _ (by rw [if_pos (Int32.not_le.mp q)] at h; exact h) G p l e R s m args below meth c QQ mcF msF X H locs cells slots lsr hP hS hc hs hL))
  next => exact h.elim
def o_ifgt (K1 K2 : Kn) : Kn := fun ls st w => match st with
  | .int x :: r => if 0 < x then K1 ls r w else K2 ls r w
  | _ => False
theorem ok_ifgt {M : MD} {d b : Nat} {Q : Option Value → Mem → Prop} {pc : Nat} {K1 K2 : Kn} {off : Int} {tgt : Nat} (hd : decode M.2.1 pc = .ok (.ifCond .gt off, 3)) (ht : (pc : Int) + off = (tgt : Int)) (hk1 : Snd M d b Q tgt K1) (hk2 : Snd M d b Q (pc + 3) K2) : Snd M d b Q pc (o_ifgt K1 K2) := by
  intro ls st w h
  unfold o_ifgt at h
  split at h
  next x r =>
    intro G p l e R s m args below meth c QQ mcF msF X H locs cells slots lsr hP hS hc hs hL; obtain ⟨hx, hb, hml, hown, hts, hR, hU, ⟨htr, hpg, hthr⟩, hend⟩ := id X
    exact lv_if_gt hx hb hd ht (fun q => (hk1 _ _ _ (by rw [if_pos (q)] at h; exact h) G p l e R s m args below meth c QQ mcF msF X H locs cells slots lsr hP hS hc hs hL)) (fun q => (hk2 _ _ _ (by rw [if_neg (q)] at h; exact h) G p l e R s m args below meth c QQ mcF msF X H locs cells slots lsr hP hS hc hs hL))
  next => exact h.elim
def o_ifle (K1 K2 : Kn) : Kn := fun ls st w => match st with
  | .int x :: r => if 0 < x then K1 ls r w else K2 ls r w
  | _ => False
theorem ok_ifle {M : MD} {d b : Nat} {Q : Option Value → Mem → Prop} {pc : Nat} {K1 K2 : Kn} {off : Int} {tgt : Nat} (hd : decode M.2.1 pc = .ok (.ifCond .le off, 3)) (ht : (pc : Int) + off = (tgt : Int)) (hk1 : Snd M d b Q tgt K2) (hk2 : Snd M d b Q (pc + 3) K1) : Snd M d b Q pc (o_ifle K1 K2) := by
  intro ls st w h
  unfold o_ifle at h
  split at h
  next x r =>
    intro G p l e R s m args below meth c QQ mcF msF X H locs cells slots lsr hP hS hc hs hL; obtain ⟨hx, hb, hml, hown, hts, hR, hU, ⟨htr, hpg, hthr⟩, hend⟩ := id X
    exact lv_if_le hx hb hd ht (fun q => (hk1 _ _ _ (by rw [if_neg (Int32.not_lt.mpr q)] at h; exact h) G p l e R s m args below meth c QQ mcF msF X H locs cells slots lsr hP hS hc hs hL)) (fun q => (hk2 _ _ _ (by rw [if_pos (Int32.not_le.mp q)] at h; exact h) G p l e R s m args below meth c QQ mcF msF X H locs cells slots lsr hP hS hc hs hL))
  next => exact h.elim
def o_icmpeq (K1 K2 : Kn) : Kn := fun ls st w => match st with
  | .int y :: .int x :: r => if x = y then K1 ls r w else K2 ls r w
  | _ => False
theorem ok_icmpeq {M : MD} {d b : Nat} {Q : Option Value → Mem → Prop} {pc : Nat} {K1 K2 : Kn} {off : Int} {tgt : Nat} (hd : decode M.2.1 pc = .ok (.if_icmp .eq off, 3)) (ht : (pc : Int) + off = (tgt : Int)) (hk1 : Snd M d b Q tgt K1) (hk2 : Snd M d b Q (pc + 3) K2) : Snd M d b Q pc (o_icmpeq K1 K2) := by
  intro ls st w h
  unfold o_icmpeq at h
  split at h
  next y x r =>
    intro G p l e R s m args below meth c QQ mcF msF X H locs cells slots lsr hP hS hc hs hL; obtain ⟨hx, hb, hml, hown, hts, hR, hU, ⟨htr, hpg, hthr⟩, hend⟩ := id X
    exact lv_icmp_eq hx hb hd ht (fun q => (hk1 _ _ _ (by rw [if_pos (q)] at h; exact h) G p l e R s m args below meth c QQ mcF msF X H locs cells slots lsr hP hS hc hs hL)) (fun q => (hk2 _ _ _ (by rw [if_neg (q)] at h; exact h) G p l e R s m args below meth c QQ mcF msF X H locs cells slots lsr hP hS hc hs hL))
  next => exact h.elim
def o_icmpne (K1 K2 : Kn) : Kn := fun ls st w => match st with
  | .int y :: .int x :: r => if x = y then K1 ls r w else K2 ls r w
  | _ => False
theorem ok_icmpne {M : MD} {d b : Nat} {Q : Option Value → Mem → Prop} {pc : Nat} {K1 K2 : Kn} {off : Int} {tgt : Nat} (hd : decode M.2.1 pc = .ok (.if_icmp .ne off, 3)) (ht : (pc : Int) + off = (tgt : Int)) (hk1 : Snd M d b Q tgt K2) (hk2 : Snd M d b Q (pc + 3) K1) : Snd M d b Q pc (o_icmpne K1 K2) := by
  intro ls st w h
  unfold o_icmpne at h
  split at h
  next y x r =>
    intro G p l e R s m args below meth c QQ mcF msF X H locs cells slots lsr hP hS hc hs hL; obtain ⟨hx, hb, hml, hown, hts, hR, hU, ⟨htr, hpg, hthr⟩, hend⟩ := id X
    exact lv_icmp_ne hx hb hd ht (fun q => (hk1 _ _ _ (by rw [if_neg (q)] at h; exact h) G p l e R s m args below meth c QQ mcF msF X H locs cells slots lsr hP hS hc hs hL)) (fun q => (hk2 _ _ _ (by rw [if_pos (q)] at h; exact h) G p l e R s m args below meth c QQ mcF msF X H locs cells slots lsr hP hS hc hs hL))
  next => exact h.elim
def o_icmplt (K1 K2 : Kn) : Kn := fun ls st w => match st with
  | .int y :: .int x :: r => if x < y then K1 ls r w else K2 ls r w
  | _ => False
theorem ok_icmplt {M : MD} {d b : Nat} {Q : Option Value → Mem → Prop} {pc : Nat} {K1 K2 : Kn} {off : Int} {tgt : Nat} (hd : decode M.2.1 pc = .ok (.if_icmp .lt off, 3)) (ht : (pc : Int) + off = (tgt : Int)) (hk1 : Snd M d b Q tgt K1) (hk2 : Snd M d b Q (pc + 3) K2) : Snd M d b Q pc (o_icmplt K1 K2) := by
  intro ls st w h
  unfold o_icmplt at h
  split at h
  next y x r =>
    intro G p l e R s m args below meth c QQ mcF msF X H locs cells slots lsr hP hS hc hs hL; obtain ⟨hx, hb, hml, hown, hts, hR, hU, ⟨htr, hpg, hthr⟩, hend⟩ := id X
    exact lv_icmp_lt hx hb hd ht (fun q => (hk1 _ _ _ (by rw [if_pos (q)] at h; exact h) G p l e R s m args below meth c QQ mcF msF X H locs cells slots lsr hP hS hc hs hL)) (fun q => (hk2 _ _ _ (by rw [if_neg (q)] at h; exact h) G p l e R s m args below meth c QQ mcF msF X H locs cells slots lsr hP hS hc hs hL))
  next => exact h.elim
def o_icmpge (K1 K2 : Kn) : Kn := fun ls st w => match st with
  | .int y :: .int x :: r => if x < y then K1 ls r w else K2 ls r w
  | _ => False
theorem ok_icmpge {M : MD} {d b : Nat} {Q : Option Value → Mem → Prop} {pc : Nat} {K1 K2 : Kn} {off : Int} {tgt : Nat} (hd : decode M.2.1 pc = .ok (.if_icmp .ge off, 3)) (ht : (pc : Int) + off = (tgt : Int)) (hk1 : Snd M d b Q tgt K2) (hk2 : Snd M d b Q (pc + 3) K1) : Snd M d b Q pc (o_icmpge K1 K2) := by
  intro ls st w h
  unfold o_icmpge at h
  split at h
  next y x r =>
    intro G p l e R s m args below meth c QQ mcF msF X H locs cells slots lsr hP hS hc hs hL; obtain ⟨hx, hb, hml, hown, hts, hR, hU, ⟨htr, hpg, hthr⟩, hend⟩ := id X
    exact lv_icmp_ge hx hb hd ht (fun q => (hk1 _ _ _ (by rw [if_neg (Int32.not_lt.mpr q)] at h; exact h) G p l e R s m args below meth c QQ mcF msF X H locs cells slots lsr hP hS hc hs hL)) (fun q => (hk2 _ _ _ (by rw [if_pos (Int32.not_le.mp q)] at h; exact h) G p l e R s m args below meth c QQ mcF msF X H locs cells slots lsr hP hS hc hs hL))
  next => exact h.elim
def o_icmpgt (K1 K2 : Kn) : Kn := fun ls st w => match st with
  | .int y :: .int x :: r => if y < x then K1 ls r w else K2 ls r w
  | _ => False
theorem ok_icmpgt {M : MD} {d b : Nat} {Q : Option Value → Mem → Prop} {pc : Nat} {K1 K2 : Kn} {off : Int} {tgt : Nat} (hd : decode M.2.1 pc = .ok (.if_icmp .gt off, 3)) (ht : (pc : Int) + off = (tgt : Int)) (hk1 : Snd M d b Q tgt K1) (hk2 : Snd M d b Q (pc + 3) K2) : Snd M d b Q pc (o_icmpgt K1 K2) := by
  intro ls st w h
  unfold o_icmpgt at h
  split at h
  next y x r =>
    intro G p l e R s m args below meth c QQ mcF msF X H locs cells slots lsr hP hS hc hs hL; obtain ⟨hx, hb, hml, hown, hts, hR, hU, ⟨htr, hpg, hthr⟩, hend⟩ := id X
    exact lv_icmp_gt hx hb hd ht (fun q => (hk1 _ _ _ (by rw [if_pos (q)] at h; exact h) G p l e R s m args below meth c QQ mcF msF X H locs cells slots lsr hP hS hc hs hL)) (fun q => (hk2 _ _ _ (by rw [if_neg (q)] at h; exact h) G p l e R s m args below meth c QQ mcF msF X H locs cells slots lsr hP hS hc hs hL))
  next => exact h.elim
def o_icmple (K1 K2 : Kn) : Kn := fun ls st w => match st with
  | .int y :: .int x :: r => if y < x then K1 ls r w else K2 ls r w
  | _ => False
theorem ok_icmple {M : MD} {d b : Nat} {Q : Option Value → Mem → Prop} {pc : Nat} {K1 K2 : Kn} {off : Int} {tgt : Nat} (hd : decode M.2.1 pc = .ok (.if_icmp .le off, 3)) (ht : (pc : Int) + off = (tgt : Int)) (hk1 : Snd M d b Q tgt K2) (hk2 : Snd M d b Q (pc + 3) K1) : Snd M d b Q pc (o_icmple K1 K2) := by
  intro ls st w h
  unfold o_icmple at h
  split at h
  next y x r =>
    intro G p l e R s m args below meth c QQ mcF msF X H locs cells slots lsr hP hS hc hs hL; obtain ⟨hx, hb, hml, hown, hts, hR, hU, ⟨htr, hpg, hthr⟩, hend⟩ := id X
    exact lv_icmp_le hx hb hd ht (fun q => (hk1 _ _ _ (by rw [if_neg (Int32.not_lt.mpr q)] at h; exact h) G p l e R s m args below meth c QQ mcF msF X H locs cells slots lsr hP hS hc hs hL)) (fun q => (hk2 _ _ _ (by rw [if_pos (Int32.not_le.mp q)] at h; exact h) G p l e R s m args below meth c QQ mcF msF X H locs cells slots lsr hP hS hc hs hL))
  next => exact h.elim
theorem ok_goto {M : MD} {d b : Nat} {Q : Option Value → Mem → Prop} {pc : Nat} {K : Kn} {off : Int} {tgt : Nat} (hd : decode M.2.1 pc = .ok (.goto off, 3)) (ht : (pc : Int) + off = (tgt : Int)) (hk : Snd M d b Q tgt K) : Snd M d b Q pc K := by
  intro ls st w h
  · intro G p l e R s m args below meth c QQ mcF msF X H locs cells slots lsr hP hS hc hs hL; obtain ⟨hx, hb, hml, hown, hts, hR, hU, ⟨htr, hpg, hthr⟩, hend⟩ := id X
    exact lv_goto hx hb hd ht (hk _ _ _ h G p l e R s m args below meth c QQ mcF msF X H locs cells slots lsr hP hS hc hs hL)
/-- the cell k is an object of the class ci -/
def isO (ci k : Nat) : Prop := ∃ fks, shp k = some (.inr (ci, fks))
/-- the cell that the field f of the cell k names -/
def fr (k f : Nat) : Nat := match shp k with
  | some (.inr (_, fks)) => (match fks[f]? with
    | some (j + 2) => j
    | _ => 0)
  | _ => 0
/-- the length of the cell k as an array of the sort t -/
def aln (t k : Nat) : Nat := match shp k with
  | some (.inl (t', n)) => if t' = t then n else 0
  | _ => 0
/-- of the class ci the field f is of the kind q (0 int, 1 long, 2 a cell) -/
def kdP (fks : List Nat) (f : Nat) : Nat → Bool
  | 0 => decide (fks[f]? = some 0)
  | 1 => decide (fks[f]? = some 1)
  | _ => (match fks[f]? with
    | some (j + 2) => decide (j < NC)
    | _ => false)
def kdO (ci f q : Nat) : Prop := ∀ k, k < NC → (match shp k with
  | some (.inr (cj, fks)) => decide (cj = ci → kdP fks f q = true)
  | _ => true) = true
theorem kdO.use {ci f q k : Nat} {fks : List Nat} (h : kdO ci f q) (hk : shp k = some (.inr (ci, fks))) : kdP fks f q = true := by
  have := h k (shp_lt hk)
  rw [hk] at this
  exact (of_decide_eq_true this) rfl
/-- a class of the world: its fields' words, types and names -/
def CLok (ci : Nat) : Prop := ∃ (C : String) (T : u_T) (N : Nat) (ty : Nat → FieldType), vwCl[ci]? = some (C, T, N) ∧ (∀ w ∈ u_ws C T N, w ∈ tb) ∧ (∀ k, k < N → parseFieldDescriptor (T k).2.2.1 = some (ty k)) ∧ (∀ a, a < N → ∀ b, b < N → a ≠ b → (T a).2.1 ≠ (T b).2.1)
def o_getI (ci f : Nat) (K : Kn) : Kn := fun ls st w => match st with
  | .ref k :: r => isO ci k ∧ K ls (.int (w.1 k f) :: r) w
  | _ => False
theorem ok_getI {M : MD} {d b : Nat} {Q : Option Value → Mem → Prop} {pc : Nat} {ci f index : Nat} {K : Kn} {C : String} {T : u_T} {N : Nat} (hd : decode M.2.1 pc = .ok (.getfield index, 3)) (hcl : vwCl[ci]? = some (C, T, N)) (hC : CLok ci) (hf : f < N) (hkd : kdO ci f 0) (hl : Cond.fieldLink M.1.cls index (T f).1 (T f).2.1 (T f).2.2.1 ∈ tb) (hk : Snd M d b Q (pc + 3) K) : Snd M d b Q pc (o_getI ci f K) := by
  intro ls st w h
  unfold o_getI at h
  split at h
  next k r =>
    obtain ⟨⟨fks, hsh⟩, h⟩ := h
    intro G p l e R s m args below meth c QQ mcF msF X H locs cells slots lsr hP hS hc hs hL; obtain ⟨hx, hb, hml, hown, hts, hR, hU, ⟨htr, hpg, hthr⟩, hend⟩ := id X
    have hck : cz G (.ref k) = .ref (gad G k) := cz_ref (by have := shp_lt hsh; intro q; subst q; exact absurd this (by decide))
    obtain ⟨C', T', N', ty, g1, g2, g3, g4⟩ := hC
    cases hcl.symm.trans g1
    have hat : (world G w)[k]? = some (gad G k, .inr (ci, fks.mapIdx fun i fk => fval G w k i fk)) := by rw [world_at G w (shp_lt hsh), wcell_o hsh]
    rw [List.map_cons, hck]
    have h9 := of_decide_eq_true (hkd.use hsh)
    exact va_get hx hb hts g2 hown hU.1 hP k hat hcl f hf (hts _ hl) (fun _ q => q) (v := .int (w.1 k f)) (by rw [List.getElem?_mapIdx, h9]; rfl) hd (hk _ _ _ h G p l e R s m args below meth c QQ mcF msF X H locs cells slots lsr hP hS hc hs hL)
  next => exact h.elim
def o_getL (ci f : Nat) (K : Kn) : Kn := fun ls st w => match st with
  | .ref k :: r => isO ci k ∧ K ls (.long (w.2 k f) :: r) w
  | _ => False
theorem ok_getL {M : MD} {d b : Nat} {Q : Option Value → Mem → Prop} {pc : Nat} {ci f index : Nat} {K : Kn} {C : String} {T : u_T} {N : Nat} (hd : decode M.2.1 pc = .ok (.getfield index, 3)) (hcl : vwCl[ci]? = some (C, T, N)) (hC : CLok ci) (hf : f < N) (hkd : kdO ci f 1) (hl : Cond.fieldLink M.1.cls index (T f).1 (T f).2.1 (T f).2.2.1 ∈ tb) (hk : Snd M d b Q (pc + 3) K) : Snd M d b Q pc (o_getL ci f K) := by
  intro ls st w h
  unfold o_getL at h
  split at h
  next k r =>
    obtain ⟨⟨fks, hsh⟩, h⟩ := h
    intro G p l e R s m args below meth c QQ mcF msF X H locs cells slots lsr hP hS hc hs hL; obtain ⟨hx, hb, hml, hown, hts, hR, hU, ⟨htr, hpg, hthr⟩, hend⟩ := id X
    have hck : cz G (.ref k) = .ref (gad G k) := cz_ref (by have := shp_lt hsh; intro q; subst q; exact absurd this (by decide))
    obtain ⟨C', T', N', ty, g1, g2, g3, g4⟩ := hC
    cases hcl.symm.trans g1
    have hat : (world G w)[k]? = some (gad G k, .inr (ci, fks.mapIdx fun i fk => fval G w k i fk)) := by rw [world_at G w (shp_lt hsh), wcell_o hsh]
    rw [List.map_cons, hck]
    have h9 := of_decide_eq_true (hkd.use hsh)
    exact va_get hx hb hts g2 hown hU.1 hP k hat hcl f hf (hts _ hl) (fun _ q => q) (v := .long (w.2 k f)) (by rw [List.getElem?_mapIdx, h9]; rfl) hd (hk _ _ _ h G p l e R s m args below meth c QQ mcF msF X H locs cells slots lsr hP hS hc hs hL)
  next => exact h.elim
def o_getR (ci f : Nat) (K : Kn) : Kn := fun ls st w => match st with
  | .ref k :: r => isO ci k ∧ K ls (.ref (fr k f) :: r) w
  | _ => False
theorem ok_getR {M : MD} {d b : Nat} {Q : Option Value → Mem → Prop} {pc : Nat} {ci f index : Nat} {K : Kn} {C : String} {T : u_T} {N : Nat} (hd : decode M.2.1 pc = .ok (.getfield index, 3)) (hcl : vwCl[ci]? = some (C, T, N)) (hC : CLok ci) (hf : f < N) (hkd : kdO ci f 2) (hl : Cond.fieldLink M.1.cls index (T f).1 (T f).2.1 (T f).2.2.1 ∈ tb) (hk : Snd M d b Q (pc + 3) K) : Snd M d b Q pc (o_getR ci f K) := by
  intro ls st w h
  unfold o_getR at h
  split at h
  next k r =>
    obtain ⟨⟨fks, hsh⟩, h⟩ := h
    intro G p l e R s m args below meth c QQ mcF msF X H locs cells slots lsr hP hS hc hs hL; obtain ⟨hx, hb, hml, hown, hts, hR, hU, ⟨htr, hpg, hthr⟩, hend⟩ := id X
    have hck : cz G (.ref k) = .ref (gad G k) := cz_ref (by have := shp_lt hsh; intro q; subst q; exact absurd this (by decide))
    obtain ⟨C', T', N', ty, g1, g2, g3, g4⟩ := hC
    cases hcl.symm.trans g1
    have hat : (world G w)[k]? = some (gad G k, .inr (ci, fks.mapIdx fun i fk => fval G w k i fk)) := by rw [world_at G w (shp_lt hsh), wcell_o hsh]
    rw [List.map_cons, hck]
    have h9 := hkd.use hsh
    simp only [kdP] at h9
    split at h9
    next j hj =>
      have hfr : fr k f = j := by simp [fr, hsh, hj]
      have h9 := of_decide_eq_true h9
      have hfr2 : fr k f ≠ 3000 := by
        rw [hfr]
        exact Nat.ne_of_lt (Nat.lt_of_lt_of_le h9 (by decide))
      have h2 := (hk _ _ _ h G p l e R s m args below meth c QQ mcF msF X H locs cells slots lsr hP hS hc hs hL)
      rw [List.map_cons, cz_ref hfr2] at h2
      refine va_get hx hb hts g2 hown hU.1 hP k hat hcl f hf (hts _ hl) (fun _ q => q) (v := .ref (gad G (fr k f))) ?_ hd h2
      rw [List.getElem?_mapIdx, hj, hfr]
      rfl
    next => cases h9
  next => exact h.elim
def o_putI (ci f : Nat) (K : Kn) : Kn := fun ls st w => match st with
  | .int x :: .ref k :: r => isO ci k ∧ K ls r (wI w k f x)
  | _ => False
theorem ok_putI {M : MD} {d b : Nat} {Q : Option Value → Mem → Prop} {pc : Nat} {ci f index : Nat} {K : Kn} {C : String} {T : u_T} {N : Nat} (hd : decode M.2.1 pc = .ok (.putfield index, 3)) (hcl : vwCl[ci]? = some (C, T, N)) (hC : CLok ci) (hf : f < N) (hkd : kdO ci f 0) (hl : Cond.fieldLink M.1.cls index (T f).1 (T f).2.1 (T f).2.2.1 ∈ tb) (hfin : (T f).2.2.2 = false) (hty : parseFieldDescriptor (T f).2.2.1 = some .int) (hk : Snd M d b Q (pc + 3) K) : Snd M d b Q pc (o_putI ci f K) := by
  intro ls st w h
  unfold o_putI at h
  split at h
  next x k r =>
    obtain ⟨⟨fks, hsh⟩, h⟩ := h
    have hfk := of_decide_eq_true (hkd.use hsh)
    intro G p l e R s m args below meth c QQ mcF msF X H locs cells slots lsr hP hS hc hs hL; obtain ⟨hx, hb, hml, hown, hts, hR, hU, ⟨htr, hpg, hthr⟩, hend⟩ := id X
    have hck : cz G (.ref k) = .ref (gad G k) := cz_ref (by have := shp_lt hsh; intro q; subst q; exact absurd this (by decide))
    obtain ⟨C', T', N', ty, g1, g2, g3, g4⟩ := hC
    cases hcl.symm.trans g1
    have hat : (world G w)[k]? = some (gad G k, .inr (ci, fks.mapIdx fun i fk => fval G w k i fk)) := by rw [world_at G w (shp_lt hsh), wcell_o hsh]
    rw [List.map_cons, List.map_cons, hck]
    refine va_put (v := .int x) hx hb hts g2 ty g3 g4 hown hU.1 hP (hU.wd w) hS k hat hcl f hf (hts _ hl) (fun _ q => q) hfin hty rfl rfl (by rw [List.length_mapIdx]; exact (List.getElem?_eq_some_iff.mp hfk).1) hd (fun H1 locs1 hP1 hD1 hS1 => ?_)
    rw [putI_fs hfk] at hP1
    have e9 : (gad G k, Sum.inr (ci, fks.mapIdx fun i fk => fval G (wI w k f x) k i fk)) = wcell G (wI w k f x) k := (wcell_o hsh).symm
    rw [e9, wI_world] at hP1
    exact (hk _ _ _ h G p l e R s m args below meth c QQ mcF msF X H1 locs1 cells slots lsr hP1 hS1 hc hs hL)
  next => exact h.elim
def o_putZ (ci f : Nat) (K : Kn) : Kn := fun ls st w => match st with
  | .int x :: .ref k :: r => isO ci k ∧ (x = 0 ∨ x = 1) ∧ K ls r (wI w k f x)
  | _ => False
theorem ok_putZ {M : MD} {d b : Nat} {Q : Option Value → Mem → Prop} {pc : Nat} {ci f index : Nat} {K : Kn} {C : String} {T : u_T} {N : Nat} (hd : decode M.2.1 pc = .ok (.putfield index, 3)) (hcl : vwCl[ci]? = some (C, T, N)) (hC : CLok ci) (hf : f < N) (hkd : kdO ci f 0) (hl : Cond.fieldLink M.1.cls index (T f).1 (T f).2.1 (T f).2.2.1 ∈ tb) (hfin : (T f).2.2.2 = false) (hty : parseFieldDescriptor (T f).2.2.1 = some .boolean) (hk : Snd M d b Q (pc + 3) K) : Snd M d b Q pc (o_putZ ci f K) := by
  intro ls st w h
  unfold o_putZ at h
  split at h
  next x k r =>
    obtain ⟨⟨fks, hsh⟩, h⟩ := h
    have hfk := of_decide_eq_true (hkd.use hsh)
    obtain ⟨hz, h⟩ := h
    intro G p l e R s m args below meth c QQ mcF msF X H locs cells slots lsr hP hS hc hs hL; obtain ⟨hx, hb, hml, hown, hts, hR, hU, ⟨htr, hpg, hthr⟩, hend⟩ := id X
    have hck : cz G (.ref k) = .ref (gad G k) := cz_ref (by have := shp_lt hsh; intro q; subst q; exact absurd this (by decide))
    obtain ⟨C', T', N', ty, g1, g2, g3, g4⟩ := hC
    cases hcl.symm.trans g1
    have hat : (world G w)[k]? = some (gad G k, .inr (ci, fks.mapIdx fun i fk => fval G w k i fk)) := by rw [world_at G w (shp_lt hsh), wcell_o hsh]
    rw [List.map_cons, List.map_cons, hck]
    refine va_put (v := .int x) hx hb hts g2 ty g3 g4 hown hU.1 hP (hU.wd w) hS k hat hcl f hf (hts _ hl) (fun _ q => q) hfin hty (by rcases hz with e | e <;> subst e <;> rfl) (by rcases hz with e | e <;> subst e <;> rfl) (by rw [List.length_mapIdx]; exact (List.getElem?_eq_some_iff.mp hfk).1) hd (fun H1 locs1 hP1 hD1 hS1 => ?_)
    rw [putI_fs hfk] at hP1
    have e9 : (gad G k, Sum.inr (ci, fks.mapIdx fun i fk => fval G (wI w k f x) k i fk)) = wcell G (wI w k f x) k := (wcell_o hsh).symm
    rw [e9, wI_world] at hP1
    exact (hk _ _ _ h G p l e R s m args below meth c QQ mcF msF X H1 locs1 cells slots lsr hP1 hS1 hc hs hL)
  next => exact h.elim
def o_putL (ci f : Nat) (K : Kn) : Kn := fun ls st w => match st with
  | .long x :: .ref k :: r => isO ci k ∧ K ls r (wL w k f x)
  | _ => False
theorem ok_putL {M : MD} {d b : Nat} {Q : Option Value → Mem → Prop} {pc : Nat} {ci f index : Nat} {K : Kn} {C : String} {T : u_T} {N : Nat} (hd : decode M.2.1 pc = .ok (.putfield index, 3)) (hcl : vwCl[ci]? = some (C, T, N)) (hC : CLok ci) (hf : f < N) (hkd : kdO ci f 1) (hl : Cond.fieldLink M.1.cls index (T f).1 (T f).2.1 (T f).2.2.1 ∈ tb) (hfin : (T f).2.2.2 = false) (hty : parseFieldDescriptor (T f).2.2.1 = some .long) (hk : Snd M d b Q (pc + 3) K) : Snd M d b Q pc (o_putL ci f K) := by
  intro ls st w h
  unfold o_putL at h
  split at h
  next x k r =>
    obtain ⟨⟨fks, hsh⟩, h⟩ := h
    have hfk := of_decide_eq_true (hkd.use hsh)
    intro G p l e R s m args below meth c QQ mcF msF X H locs cells slots lsr hP hS hc hs hL; obtain ⟨hx, hb, hml, hown, hts, hR, hU, ⟨htr, hpg, hthr⟩, hend⟩ := id X
    have hck : cz G (.ref k) = .ref (gad G k) := cz_ref (by have := shp_lt hsh; intro q; subst q; exact absurd this (by decide))
    obtain ⟨C', T', N', ty, g1, g2, g3, g4⟩ := hC
    cases hcl.symm.trans g1
    have hat : (world G w)[k]? = some (gad G k, .inr (ci, fks.mapIdx fun i fk => fval G w k i fk)) := by rw [world_at G w (shp_lt hsh), wcell_o hsh]
    rw [List.map_cons, List.map_cons, hck]
    refine va_put (v := .long x) hx hb hts g2 ty g3 g4 hown hU.1 hP (hU.wd w) hS k hat hcl f hf (hts _ hl) (fun _ q => q) hfin hty rfl rfl (by rw [List.length_mapIdx]; exact (List.getElem?_eq_some_iff.mp hfk).1) hd (fun H1 locs1 hP1 hD1 hS1 => ?_)
    rw [putL_fs hfk] at hP1
    have e9 : (gad G k, Sum.inr (ci, fks.mapIdx fun i fk => fval G (wL w k f x) k i fk)) = wcell G (wL w k f x) k := (wcell_o hsh).symm
    rw [e9, wL_world] at hP1
    exact (hk _ _ _ h G p l e R s m args below meth c QQ mcF msF X H1 locs1 cells slots lsr hP1 hS1 hc hs hL)
  next => exact h.elim
theorem aln_sh {t k : Nat} {i : Int32} (h : vp_in i (aln t k)) : ∃ n, shp k = some (.inl (t, n)) ∧ aln t k = n := by
  unfold aln at h ⊢
  split at h
  next t' n hs =>
    split at h
    next e => subst e; exact ⟨n, hs, by simp [hs]⟩
    next => exact absurd (Or.inr (Nat.zero_le _)) h
  next => exact absurd (Or.inr (Nat.zero_le _)) h
def o_iald (K : Kn) : Kn := fun ls st w => match st with
  | .int i :: .ref k :: r => vp_in i (aln 0 k) ∧ K ls (.int (w.1 k i.toNatClampNeg) :: r) w
  | _ => False
theorem ok_iald {M : MD} {d b : Nat} {Q : Option Value → Mem → Prop} {pc : Nat} {K : Kn} (hd : decode M.2.1 pc = .ok (.iaload, 1)) (hk : Snd M d b Q (pc + 1) K) : Snd M d b Q pc (o_iald K) := by
  intro ls st w h
  unfold o_iald at h
  split at h
  next i k r =>
    obtain ⟨hin, h⟩ := h
    obtain ⟨n, hsh, hn9⟩ := aln_sh hin
    · rw [hn9] at hin
      intro G p l e R s m args below meth c QQ mcF msF X H locs cells slots lsr hP hS hc hs hL; obtain ⟨hx, hb, hml, hown, hts, hR, hU, ⟨htr, hpg, hthr⟩, hend⟩ := id X
      have hck : cz G (.ref k) = .ref (gad G k) := cz_ref (by have := shp_lt hsh; intro q; subst q; exact absurd this (by decide))
      have hat := world_at G w (shp_lt hsh)
      rw [wcell_0 hsh] at hat
      rw [List.map_cons, List.map_cons, hck]
      exact va_iald hx hb (hU.2.1 k _ n hsh) hP k 0 hat rfl hin hd (hk _ _ _ h G p l e R s m args below meth c QQ mcF msF X H locs cells slots lsr hP hS hc hs hL)
  next => exact h.elim
def o_bald (K : Kn) : Kn := fun ls st w => match st with
  | .int i :: .ref k :: r => vp_in i (aln 1 k) ∧ K ls (.int (w.1 k i.toNatClampNeg) :: r) w
  | _ => False
theorem ok_bald {M : MD} {d b : Nat} {Q : Option Value → Mem → Prop} {pc : Nat} {K : Kn} (hd : decode M.2.1 pc = .ok (.baload, 1)) (hk : Snd M d b Q (pc + 1) K) : Snd M d b Q pc (o_bald K) := by
  intro ls st w h
  unfold o_bald at h
  split at h
  next i k r =>
    obtain ⟨hin, h⟩ := h
    obtain ⟨n, hsh, hn9⟩ := aln_sh hin
    · rw [hn9] at hin
      intro G p l e R s m args below meth c QQ mcF msF X H locs cells slots lsr hP hS hc hs hL; obtain ⟨hx, hb, hml, hown, hts, hR, hU, ⟨htr, hpg, hthr⟩, hend⟩ := id X
      have hck : cz G (.ref k) = .ref (gad G k) := cz_ref (by have := shp_lt hsh; intro q; subst q; exact absurd this (by decide))
      have hat := world_at G w (shp_lt hsh)
      rw [wcell_1 hsh] at hat
      rw [List.map_cons, List.map_cons, hck]
      exact va_bald hx hb (hU.2.1 k _ n hsh) hP k 0 hat rfl hin hd (hk _ _ _ h G p l e R s m args below meth c QQ mcF msF X H locs cells slots lsr hP hS hc hs hL)
  next => exact h.elim
def o_lald (K : Kn) : Kn := fun ls st w => match st with
  | .int i :: .ref k :: r => vp_in i (aln 2 k) ∧ K ls (.long (w.2 k i.toNatClampNeg) :: r) w
  | _ => False
theorem ok_lald {M : MD} {d b : Nat} {Q : Option Value → Mem → Prop} {pc : Nat} {K : Kn} (hd : decode M.2.1 pc = .ok (.laload, 1)) (hk : Snd M d b Q (pc + 1) K) : Snd M d b Q pc (o_lald K) := by
  intro ls st w h
  unfold o_lald at h
  split at h
  next i k r =>
    obtain ⟨hin, h⟩ := h
    obtain ⟨n, hsh, hn9⟩ := aln_sh hin
    · rw [hn9] at hin
      intro G p l e R s m args below meth c QQ mcF msF X H locs cells slots lsr hP hS hc hs hL; obtain ⟨hx, hb, hml, hown, hts, hR, hU, ⟨htr, hpg, hthr⟩, hend⟩ := id X
      have hck : cz G (.ref k) = .ref (gad G k) := cz_ref (by have := shp_lt hsh; intro q; subst q; exact absurd this (by decide))
      have hat := world_at G w (shp_lt hsh)
      rw [wcell_2 hsh] at hat
      rw [List.map_cons, List.map_cons, hck]
      exact va_lald hx hb (hU.2.1 k _ n hsh) hP k 0 hat rfl hin hd (hk _ _ _ h G p l e R s m args below meth c QQ mcF msF X H locs cells slots lsr hP hS hc hs hL)
  next => exact h.elim
def o_iast (K : Kn) : Kn := fun ls st w => match st with
  | .int x :: .int i :: .ref k :: r => vp_in i (aln 0 k) ∧ K ls r (wI w k i.toNatClampNeg (x))
  | _ => False
theorem ok_iast {M : MD} {d b : Nat} {Q : Option Value → Mem → Prop} {pc : Nat} {K : Kn} (hd : decode M.2.1 pc = .ok (.iastore, 1)) (hk : Snd M d b Q (pc + 1) K) : Snd M d b Q pc (o_iast K) := by
  intro ls st w h
  unfold o_iast at h
  split at h
  next x i k r =>
    obtain ⟨hin, h⟩ := h
    obtain ⟨n, hsh, hn9⟩ := aln_sh hin
    · rw [hn9] at hin
      intro G p l e R s m args below meth c QQ mcF msF X H locs cells slots lsr hP hS hc hs hL; obtain ⟨hx, hb, hml, hown, hts, hR, hU, ⟨htr, hpg, hthr⟩, hend⟩ := id X
      have hck : cz G (.ref k) = .ref (gad G k) := cz_ref (by have := shp_lt hsh; intro q; subst q; exact absurd this (by decide))
      have hat := world_at G w (shp_lt hsh)
      rw [wcell_0 hsh] at hat
      rw [List.map_cons, List.map_cons, List.map_cons, hck]
      refine va_iast hx hb (hU.2.1 k _ n hsh) hP (hU.wd w) hS k 0 hat rfl hin hd (fun H1 locs1 hP1 hD1 hS1 => ?_)
      have e9 := wcell_0 (G := G) (w := wI w k i.toNatClampNeg (x)) hsh
      rw [wI_at] at e9
      rw [← e9, wI_world] at hP1
      exact (hk _ _ _ h G p l e R s m args below meth c QQ mcF msF X H1 locs1 cells slots lsr hP1 hS1 hc hs hL)
  next => exact h.elim
def o_bast (K : Kn) : Kn := fun ls st w => match st with
  | .int x :: .int i :: .ref k :: r => vp_in i (aln 1 k) ∧ K ls r (wI w k i.toNatClampNeg (vp_nar .byte x))
  | _ => False
theorem ok_bast {M : MD} {d b : Nat} {Q : Option Value → Mem → Prop} {pc : Nat} {K : Kn} (hd : decode M.2.1 pc = .ok (.bastore, 1)) (hk : Snd M d b Q (pc + 1) K) : Snd M d b Q pc (o_bast K) := by
  intro ls st w h
  unfold o_bast at h
  split at h
  next x i k r =>
    obtain ⟨hin, h⟩ := h
    obtain ⟨n, hsh, hn9⟩ := aln_sh hin
    · rw [hn9] at hin
      intro G p l e R s m args below meth c QQ mcF msF X H locs cells slots lsr hP hS hc hs hL; obtain ⟨hx, hb, hml, hown, hts, hR, hU, ⟨htr, hpg, hthr⟩, hend⟩ := id X
      have hck : cz G (.ref k) = .ref (gad G k) := cz_ref (by have := shp_lt hsh; intro q; subst q; exact absurd this (by decide))
      have hat := world_at G w (shp_lt hsh)
      rw [wcell_1 hsh] at hat
      rw [List.map_cons, List.map_cons, List.map_cons, hck]
      refine va_bast hx hb (hU.2.1 k _ n hsh) hP (hU.wd w) hS k 0 hat rfl hin hd (fun H1 locs1 hP1 hD1 hS1 => ?_)
      have e9 := wcell_1 (G := G) (w := wI w k i.toNatClampNeg (vp_nar .byte x)) hsh
      rw [wI_at] at e9
      rw [← e9, wI_world] at hP1
      exact (hk _ _ _ h G p l e R s m args below meth c QQ mcF msF X H1 locs1 cells slots lsr hP1 hS1 hc hs hL)
  next => exact h.elim
def o_last (K : Kn) : Kn := fun ls st w => match st with
  | .long x :: .int i :: .ref k :: r => vp_in i (aln 2 k) ∧ K ls r (wL w k i.toNatClampNeg (x))
  | _ => False
theorem ok_last {M : MD} {d b : Nat} {Q : Option Value → Mem → Prop} {pc : Nat} {K : Kn} (hd : decode M.2.1 pc = .ok (.lastore, 1)) (hk : Snd M d b Q (pc + 1) K) : Snd M d b Q pc (o_last K) := by
  intro ls st w h
  unfold o_last at h
  split at h
  next x i k r =>
    obtain ⟨hin, h⟩ := h
    obtain ⟨n, hsh, hn9⟩ := aln_sh hin
    · rw [hn9] at hin
      intro G p l e R s m args below meth c QQ mcF msF X H locs cells slots lsr hP hS hc hs hL; obtain ⟨hx, hb, hml, hown, hts, hR, hU, ⟨htr, hpg, hthr⟩, hend⟩ := id X
      have hck : cz G (.ref k) = .ref (gad G k) := cz_ref (by have := shp_lt hsh; intro q; subst q; exact absurd this (by decide))
      have hat := world_at G w (shp_lt hsh)
      rw [wcell_2 hsh] at hat
      rw [List.map_cons, List.map_cons, List.map_cons, hck]
      refine va_last hx hb (hU.2.1 k _ n hsh) hP (hU.wd w) hS k 0 hat rfl hin hd (fun H1 locs1 hP1 hD1 hS1 => ?_)
      have e9 := wcell_2 (G := G) (w := wL w k i.toNatClampNeg (x)) hsh
      rw [wL_at] at e9
      rw [← e9, wL_world] at hP1
      exact (hk _ _ _ h G p l e R s m args below meth c QQ mcF msF X H1 locs1 cells slots lsr hP1 hS1 hc hs hL)
  next => exact h.elim
def o_aald (K : Kn) : Kn := fun ls st w => match st with
  | .int i :: .ref k :: r => vp_in i (aln 3 k) ∧ k + 1 + aln 3 k ≤ NC ∧ K ls (.ref (k + 1 + i.toNatClampNeg) :: r) w
  | _ => False
theorem ok_aald {M : MD} {d b : Nat} {Q : Option Value → Mem → Prop} {pc : Nat} {K : Kn} (hd : decode M.2.1 pc = .ok (.aaload, 1)) (hk : Snd M d b Q (pc + 1) K) : Snd M d b Q pc (o_aald K) := by
  intro ls st w h
  unfold o_aald at h
  split at h
  next i k r =>
    obtain ⟨hin, hnc, h⟩ := h
    obtain ⟨n, hsh, hn9⟩ := aln_sh hin
    · rw [hn9] at hin hnc
      intro G p l e R s m args below meth c QQ mcF msF X H locs cells slots lsr hP hS hc hs hL; obtain ⟨hx, hb, hml, hown, hts, hR, hU, ⟨htr, hpg, hthr⟩, hend⟩ := id X
      have hck : cz G (.ref k) = .ref (gad G k) := cz_ref (by have := shp_lt hsh; intro q; subst q; exact absurd this (by decide))
      have hat := world_at G w (shp_lt hsh)
      rw [wcell_3 hsh] at hat
      have hlt : i.toNatClampNeg < n := Nat.not_le.mp fun q => hin (Or.inr q)
      have h3 : k + 1 + i.toNatClampNeg ≠ 3000 := Nat.ne_of_lt (Nat.lt_of_lt_of_le (Nat.add_lt_add_left hlt _) (Nat.le_trans hnc (by decide)))
      have h2 := (hk _ _ _ h G p l e R s m args below meth c QQ mcF msF X H locs cells slots lsr hP hS hc hs hL)
      rw [List.map_cons, cz_ref h3] at h2
      rw [List.map_cons, List.map_cons, hck]
      exact W.aald (v := .ref (gad G (k + 1 + i.toNatClampNeg))) hx hb (hP k _ hat) (((hU.2.1 k _ n hsh).2 0 _ rfl).1 n (fun j => va_rf (if j < n then some (gad G (k + 1 + j)) else none))) rfl (fun q => by cases q) (by show ¬ (i < 0 ∨ (arrV _ _ _).slots.size ≤ _); rw [arrV_size]; exact hin) (by show (arrV _ _ _).slots[_]? = _; rw [arrV_read _ _ hlt]; simp [hlt, va_rf]) rfl rfl hd h2
  next => exact h.elim
/-- the cell k is an array; its length -/
def isA (k : Nat) : Prop := ∃ t n, shp k = some (.inl (t, n))
def lnA (k : Nat) : Nat := match shp k with
  | some (.inl (_, n)) => n
  | _ => 0
def o_alen (K : Kn) : Kn := fun ls st w => match st with
  | .ref k :: r => isA k ∧ K ls (.int (nI (lnA k)) :: r) w
  | _ => False
theorem ok_alen {M : MD} {d b : Nat} {Q : Option Value → Mem → Prop} {pc : Nat} {K : Kn} (hd : decode M.2.1 pc = .ok (.arraylength, 1)) (hk : Snd M d b Q (pc + 1) K) : Snd M d b Q pc (o_alen K) := by
  intro ls st w h
  unfold o_alen at h
  split at h
  next k r =>
    obtain ⟨⟨t, n, hsh⟩, h⟩ := h
    have hln : lnA k = n := by simp [lnA, hsh]
    rw [hln] at h
    · intro G p l e R s m args below meth c QQ mcF msF X H locs cells slots lsr hP hS hc hs hL; obtain ⟨hx, hb, hml, hown, hts, hR, hU, ⟨htr, hpg, hthr⟩, hend⟩ := id X
      have hck : cz G (.ref k) = .ref (gad G k) := cz_ref (by have := shp_lt hsh; intro q; subst q; exact absurd this (by decide))
      have hat := world_at G w (shp_lt hsh)
      have hK := hU.2.1 k t n hsh
      have hx2 : ∃ z, wcell G w k = (gad G k, .inl (gtC G k, n, z)) := by
        match t, hsh with
        | 0, hsh => exact ⟨_, wcell_0 hsh⟩
        | 1, hsh => exact ⟨_, wcell_1 hsh⟩
        | 2, hsh => exact ⟨_, wcell_2 hsh⟩
        | t + 3, hsh => exact ⟨_, by simp [wcell, hsh]; rfl⟩
      obtain ⟨z, hz⟩ := hx2
      rw [hz] at hat
      rw [List.map_cons, hck]
      exact va_alen hx hb hK hP k 0 hat rfl (v := Int32.ofNat n) rfl hd (hk _ _ _ h G p l e R s m args below meth c QQ mcF msF X H locs cells slots lsr hP hS hc hs hL)
  next => exact h.elim
def o_xald (L : Nat) (xs : Nat → Int32) (K : Kn) : Kn := fun ls st w => match st with
  | .int i :: .ref 999 :: r => vp_in i L ∧ K ls (.int (xs i.toNatClampNeg) :: r) w
  | _ => False
def o_xlen (L : Nat) (K : Kn) : Kn := fun ls st w => match st with
  | .ref 999 :: r => K ls (.int (Int32.ofNat L) :: r) w
  | _ => False
theorem ok_xald {M : MD} {d b : Nat} {Q : Option Value → Mem → Prop} {pc : Nat} {L : Nat} {xs : Nat → Int32} {K : Kn} (hd : decode M.2.1 pc = .ok (.iaload, 1)) (hM : ∀ G, M.2.2.2.2.2.1 G → gL G = L ∧ gxs G = xs) (hk : Snd M d b Q (pc + 1) K) : Snd M d b Q pc (o_xald L xs K) := by
  intro ls st w h
  unfold o_xald at h
  split at h
  next i r =>
    obtain ⟨hin, h⟩ := h
    intro G p l e R s m args below meth c QQ mcF msF X H locs cells slots lsr hP hS hc hs hL; obtain ⟨hx, hb, hml, hown, hts, hR, hU, ⟨htr, hpg, hthr⟩, hend⟩ := id X
    obtain ⟨rfl, rfl⟩ := hM G hpg
    rw [List.map_cons, List.map_cons, cz_ref (show 999 ≠ 3000 by decide)]
    obtain ⟨g1, g2, g3⟩ := hU.2.2.2.2.2.2.1
    exact va_sld hx hb g1 g2 g3 hS hin hd (hk _ _ _ h G p l e R s m args below meth c QQ mcF msF X H locs cells slots lsr hP hS hc hs hL)
  next => exact h.elim
theorem ok_xlen {M : MD} {d b : Nat} {Q : Option Value → Mem → Prop} {pc : Nat} {L : Nat} {xs : Nat → Int32} {K : Kn} (hd : decode M.2.1 pc = .ok (.arraylength, 1)) (hM : ∀ G, M.2.2.2.2.2.1 G → gL G = L ∧ gxs G = xs) (hk : Snd M d b Q (pc + 1) K) : Snd M d b Q pc (o_xlen L K) := by
  intro ls st w h
  unfold o_xlen at h
  split at h
  next r =>
    intro G p l e R s m args below meth c QQ mcF msF X H locs cells slots lsr hP hS hc hs hL; obtain ⟨hx, hb, hml, hown, hts, hR, hU, ⟨htr, hpg, hthr⟩, hend⟩ := id X
    obtain ⟨rfl, rfl⟩ := hM G hpg
    rw [List.map_cons, cz_ref (show 999 ≠ 3000 by decide)]
    obtain ⟨g1, g2, g3⟩ := hU.2.2.2.2.2.2.1
    exact va_slen hx hb g1 g2 g3 hS hd (hk _ _ _ h G p l e R s m args below meth c QQ mcF msF X H locs cells slots lsr hP hS hc hs hL)
  next => exact h.elim
/-- a copy of n places from the cell k to the cell k' stays within both -/
def cpOk (t k k' : Nat) (sp dp n : Int32) : Prop := ∃ n0 n1, shp k = some (.inl (t, n0)) ∧ shp k' = some (.inl (t, n1)) ∧ ¬ sp < 0 ∧ ¬ dp < 0 ∧ ¬ n < 0 ∧ sp.toNatClampNeg + n.toNatClampNeg ≤ n0 ∧ dp.toNatClampNeg + n.toNatClampNeg ≤ n1
def o_copyI (K : Kn) : Kn := fun ls st w => match st with
  | .int n :: .int dp :: .ref k' :: .int sp :: .ref k :: r => catS r ≤ 8 ∧ cpOk 0 k k' sp dp n ∧ K ls r (cpI w k sp.toNatClampNeg k' dp.toNatClampNeg n.toNatClampNeg)
  | _ => False
theorem ok_copyI {M : MD} {d b : Nat} {Q : Option Value → Mem → Prop} {pc : Nat} {K : Kn} {index : Nat} (hd : decode M.2.1 pc = .ok (.invokestatic index, 3)) (hl : Cond.methodLink M.1.cls index arraycopyName ∈ tb) (hl2 : Cond.native arraycopyName ∈ tb) (hl3 : Cond.static arraycopyName ∈ tb) (hl4 : Cond.initialized "java/lang/System" ∈ tb) (hk : Snd M d b Q (pc + 3) K) : Snd M d b Q pc (o_copyI K) := by
  intro ls st w h
  unfold o_copyI at h
  split at h
  next n dp k' sp k r =>
    obtain ⟨hcat, ⟨n0, n1, hsh, hsh', h1, h2, h3, h4, h5⟩, h⟩ := h
    · intro G p l e R s m args below meth c QQ mcF msF X H locs cells slots lsr hP hS hc hs hL; obtain ⟨hx, hb, hml, hown, hts, hR, hU, ⟨htr, hpg, hthr⟩, hend⟩ := id X
      have hck : cz G (.ref k) = .ref (gad G k) := cz_ref (by have := shp_lt hsh; intro q; subst q; exact absurd this (by decide))
      have hck' : cz G (.ref k') = .ref (gad G k') := cz_ref (by have := shp_lt hsh'; intro q; subst q; exact absurd this (by decide))
      have hat := world_at G w (shp_lt hsh)
      rw [wcell_0 hsh] at hat
      have hat' := world_at G w (shp_lt hsh')
      rw [wcell_0 hsh'] at hat'
      have hKK : va_K (gD G) vwCl [(gtC G k, .int), (gtC G k', .int)] s := (hU.2.1 k _ n0 hsh).app (hU.2.1 k' _ n1 hsh')
      simp only [List.map_cons, hck, hck']
      refine va_copyi hx hb (hml.trans hL.1.symm) hown (hts _ hl) (hts _ hl2) (hts _ hl3) (hts _ hl4) hKK hP (hU.wd w) hS k k' 0 1 hat hat' rfl rfl rfl h1 h2 h3 h4 h5 (fun _ _ => rfl) (by have := hR.1; omega) (by rw [catS_cz hU]; show catS r + (7 + 11) ≤ _; have := hR.2.1; omega) hd (fun H1 locs1 hP1 hD1 hS1 => ?_)
      have e9 := wcell_0 (G := G) (w := cpI w k sp.toNatClampNeg k' dp.toNatClampNeg n.toNatClampNeg) hsh'
      have e2 : (cpI w k sp.toNatClampNeg k' dp.toNatClampNeg n.toNatClampNeg).1 k' = va_cpy (w.1 k) (w.1 k') sp.toNatClampNeg dp.toNatClampNeg n.toNatClampNeg := by
        funext j
        simp [cpI, va_cpy]
      rw [e2] at e9
      rw [← e9, cpI_world] at hP1
      exact (hk _ _ _ h G p l e R s m args below meth c QQ mcF msF X H1 locs1 cells slots lsr hP1 hS1 hc hs hL)
  next => exact h.elim
def o_copyL (K : Kn) : Kn := fun ls st w => match st with
  | .int n :: .int dp :: .ref k' :: .int sp :: .ref k :: r => catS r ≤ 8 ∧ cpOk 2 k k' sp dp n ∧ K ls r (cpL w k sp.toNatClampNeg k' dp.toNatClampNeg n.toNatClampNeg)
  | _ => False
theorem ok_copyL {M : MD} {d b : Nat} {Q : Option Value → Mem → Prop} {pc : Nat} {K : Kn} {index : Nat} (hd : decode M.2.1 pc = .ok (.invokestatic index, 3)) (hl : Cond.methodLink M.1.cls index arraycopyName ∈ tb) (hl2 : Cond.native arraycopyName ∈ tb) (hl3 : Cond.static arraycopyName ∈ tb) (hl4 : Cond.initialized "java/lang/System" ∈ tb) (hk : Snd M d b Q (pc + 3) K) : Snd M d b Q pc (o_copyL K) := by
  intro ls st w h
  unfold o_copyL at h
  split at h
  next n dp k' sp k r =>
    obtain ⟨hcat, ⟨n0, n1, hsh, hsh', h1, h2, h3, h4, h5⟩, h⟩ := h
    · intro G p l e R s m args below meth c QQ mcF msF X H locs cells slots lsr hP hS hc hs hL; obtain ⟨hx, hb, hml, hown, hts, hR, hU, ⟨htr, hpg, hthr⟩, hend⟩ := id X
      have hck : cz G (.ref k) = .ref (gad G k) := cz_ref (by have := shp_lt hsh; intro q; subst q; exact absurd this (by decide))
      have hck' : cz G (.ref k') = .ref (gad G k') := cz_ref (by have := shp_lt hsh'; intro q; subst q; exact absurd this (by decide))
      have hat := world_at G w (shp_lt hsh)
      rw [wcell_2 hsh] at hat
      have hat' := world_at G w (shp_lt hsh')
      rw [wcell_2 hsh'] at hat'
      have hKK : va_K (gD G) vwCl [(gtC G k, .long), (gtC G k', .long)] s := (hU.2.1 k _ n0 hsh).app (hU.2.1 k' _ n1 hsh')
      simp only [List.map_cons, hck, hck']
      refine va_copyl hx hb (hml.trans hL.1.symm) hown (hts _ hl) (hts _ hl2) (hts _ hl3) (hts _ hl4) hKK hP (hU.wd w) hS k k' 0 1 hat hat' rfl rfl rfl h1 h2 h3 h4 h5 (fun _ _ => rfl) (by have := hR.1; omega) (by rw [catS_cz hU]; show catS r + (7 + 11) ≤ _; have := hR.2.1; omega) hd (fun H1 locs1 hP1 hD1 hS1 => ?_)
      have e9 := wcell_2 (G := G) (w := cpL w k sp.toNatClampNeg k' dp.toNatClampNeg n.toNatClampNeg) hsh'
      have e2 : (cpL w k sp.toNatClampNeg k' dp.toNatClampNeg n.toNatClampNeg).2 k' = va_cpy (w.2 k) (w.2 k') sp.toNatClampNeg dp.toNatClampNeg n.toNatClampNeg := by
        funext j
        simp [cpL, va_cpy]
      rw [e2] at e9
      rw [← e9, cpL_world] at hP1
      exact (hk _ _ _ h G p l e R s m args below meth c QQ mcF msF X H1 locs1 cells slots lsr hP1 hS1 hc hs hL)
  next => exact h.elim
def o_max (K : Kn) : Kn := fun ls st w => match st with
  | .int y :: .int x :: r => catS r ≤ 8 ∧ K ls (.int (if x < y then y else x) :: r) w
  | _ => False
theorem ok_max {M : MD} {d b : Nat} {Q : Option Value → Mem → Prop} {pc : Nat} {K : Kn} {index : Nat} (hd : decode M.2.1 pc = .ok (.invokestatic index, 3)) (hl : Cond.methodLink M.1.cls index Lib.Math.max.name ∈ tb) (hl2 : Cond.static Lib.Math.max.name ∈ tb) (hl3 : Cond.initialized "java/lang/Math" ∈ tb) (hl4 : Cond.code Lib.Math.max.name Lib.Math.max.code 2 (some .int) ∈ tb) (hk : Snd M d b Q (pc + 3) K) : Snd M d b Q pc (o_max K) := by
  intro ls st w h
  unfold o_max at h
  split at h
  next y x r =>
    obtain ⟨hcat, h⟩ := h
    intro G p l e R s m args below meth c QQ mcF msF X H locs cells slots lsr hP hS hc hs hL; obtain ⟨hx, hb, hml, hown, hts, hR, hU, ⟨htr, hpg, hthr⟩, hend⟩ := id X
    exact va_mmax hx hb (hml.trans hL.1.symm) hown (hts _ hl) (hts _ hl2) (hts _ hl3) (hts _ hl4) (by have := hR.1; omega) (by rw [catS_cz hU]; have := hR.2.1; omega) (by have := hR.2.2.1; omega) (by have := hR.2.2.2; omega) hd (hk _ _ _ h G p l e R s m args below meth c QQ mcF msF X H locs cells slots lsr hP hS hc hs hL)
  next => exact h.elim
def o_min (K : Kn) : Kn := fun ls st w => match st with
  | .int y :: .int x :: r => catS r ≤ 8 ∧ K ls (.int (if y < x then y else x) :: r) w
  | _ => False
theorem ok_min {M : MD} {d b : Nat} {Q : Option Value → Mem → Prop} {pc : Nat} {K : Kn} {index : Nat} (hd : decode M.2.1 pc = .ok (.invokestatic index, 3)) (hl : Cond.methodLink M.1.cls index Lib.Math.min.name ∈ tb) (hl2 : Cond.static Lib.Math.min.name ∈ tb) (hl3 : Cond.initialized "java/lang/Math" ∈ tb) (hl4 : Cond.code Lib.Math.min.name Lib.Math.min.code 2 (some .int) ∈ tb) (hk : Snd M d b Q (pc + 3) K) : Snd M d b Q pc (o_min K) := by
  intro ls st w h
  unfold o_min at h
  split at h
  next y x r =>
    obtain ⟨hcat, h⟩ := h
    intro G p l e R s m args below meth c QQ mcF msF X H locs cells slots lsr hP hS hc hs hL; obtain ⟨hx, hb, hml, hown, hts, hR, hU, ⟨htr, hpg, hthr⟩, hend⟩ := id X
    exact va_mmin hx hb (hml.trans hL.1.symm) hown (hts _ hl) (hts _ hl2) (hts _ hl3) (hts _ hl4) (by have := hR.1; omega) (by rw [catS_cz hU]; have := hR.2.1; omega) (by have := hR.2.2.1; omega) (by have := hR.2.2.2; omega) hd (hk _ _ _ h G p l e R s m args below meth c QQ mcF msF X H locs cells slots lsr hP hS hc hs hL)
  next => exact h.elim
theorem Cl.post {d : Nat} {M : MD} {as : List Value} {w : Mem} {Q Q' : Option Value → Mem → Prop} (h : Cl d M as w Q) (hq : ∀ v w', Q v w' → Q' v w') : Cl d M as w Q' := by
  intro G l rm a1 a2 a3 a4 a5 p e ha hc hk s m args below hf happ hP hK
  obtain ⟨t, o, h1, h2, h3, ⟨⟨⟨r, w', e1, e2, e3⟩, e4⟩, h5⟩⟩ := h G l rm a1 a2 a3 a4 a5 p e ha hc hk s m args below hf happ hP hK
  exact ⟨t, o, h1, h2, h3, ⟨⟨⟨r, w', e1, hq r w' e2, e3⟩, e4⟩, h5⟩⟩
/-- the text constants -/
def isT (k : Nat) : Prop := ∃ i : Nat, i < NS ∧ k = 1000 + i
theorem isT2 {k i : Nat} (h : k - 1000 = 1000 + i) : k = 2000 + i := by omega
def o_callV0 (ci : Nat) (C : MD) (d : Nat) (K : Kn) : Kn := fun ls st w => match st with
  | .ref k :: r => isO ci k ∧ catS r ≤ 8 ∧ Cl d C [.ref k] w (fun v w' => K ls (v.toList ++ r) w')
  | _ => False
theorem ok_callV0 {M : MD} {d b : Nat} {Q : Option Value → Mem → Prop} {pc : Nat} {K : Kn} {C : MD} {index N ci : Nat} {T : u_T} (hd : decode M.2.1 pc = .ok (.invokevirtual index, 3)) (hl : Cond.methodLink M.1.cls index C.1 ∈ tb) (hC : MOkV C 0) (hci : C.2.2.2.2.1 = ci) (hcl : vwCl[C.2.2.2.2.1]? = some (C.1.cls, T, N)) (hk : Snd M d b Q (pc + 3) K) : Snd M d b Q pc (o_callV0 ci C d K) := by
  intro ls st w h
  unfold o_callV0 at h
  split at h
  next  k r =>
    obtain ⟨⟨fks, hsh⟩, h1, h2⟩ := h
    exact wp_callV (as := []) (rest := r) hd hl hC rfl h1 (by rw [hci]; exact hsh) hcl (Cl.post h2 fun v w' => hk _ _ _)
  next => exact h.elim
def o_callT0 (C : MD) (d : Nat) (K : Kn) : Kn := fun ls st w => match st with
  | .ref k :: r => isT k ∧ catS r ≤ 8 ∧ Cl d C [.ref k] w (fun v w' => K ls (v.toList ++ r) w')
  | _ => False
theorem ok_callT0 {M : MD} {d b : Nat} {Q : Option Value → Mem → Prop} {pc : Nat} {K : Kn} {C : MD} {index : Nat} (hd : decode M.2.1 pc = .ok (.invokevirtual index, 3)) (hl : Cond.methodLink M.1.cls index C.1 ∈ tb) (hC : MOkV C 0) (hcl : C.1.cls = "java/lang/String") (hk : Snd M d b Q (pc + 3) K) : Snd M d b Q pc (o_callT0 C d K) := by
  intro ls st w h
  unfold o_callT0 at h
  split at h
  next  k r =>
    obtain ⟨⟨i, hi, rfl⟩, h1, h2⟩ := h
    exact wp_callT (as := []) (rest := r) hd hl hC rfl h1 hi hcl (Cl.post h2 fun v w' => hk _ _ _)
  next => exact h.elim
def o_callS1 (C : MD) (d : Nat) (K : Kn) : Kn := fun ls st w => match st with
  | a1 :: r => catS r ≤ 8 ∧ Cl d C [a1] w (fun v w' => K ls (v.toList ++ r) w')
  | _ => False
theorem ok_callS1 {M : MD} {d b : Nat} {Q : Option Value → Mem → Prop} {pc : Nat} {K : Kn} {C : MD} {index : Nat} (hd : decode M.2.1 pc = .ok (.invokestatic index, 3)) (hl : Cond.methodLink M.1.cls index C.1 ∈ tb) (hC : MOkS C 1) (hk : Snd M d b Q (pc + 3) K) : Snd M d b Q pc (o_callS1 C d K) := by
  intro ls st w h
  unfold o_callS1 at h
  split at h
  next a1 r =>
    exact wp_callS (as := [a1]) (rest := r) hd hl hC rfl h.1 (Cl.post h.2 fun v w' => hk _ _ _)
  next => exact h.elim
def o_callV1 (ci : Nat) (C : MD) (d : Nat) (K : Kn) : Kn := fun ls st w => match st with
  | a1 :: .ref k :: r => isO ci k ∧ catS r ≤ 8 ∧ Cl d C [.ref k, a1] w (fun v w' => K ls (v.toList ++ r) w')
  | _ => False
theorem ok_callV1 {M : MD} {d b : Nat} {Q : Option Value → Mem → Prop} {pc : Nat} {K : Kn} {C : MD} {index N ci : Nat} {T : u_T} (hd : decode M.2.1 pc = .ok (.invokevirtual index, 3)) (hl : Cond.methodLink M.1.cls index C.1 ∈ tb) (hC : MOkV C 1) (hci : C.2.2.2.2.1 = ci) (hcl : vwCl[C.2.2.2.2.1]? = some (C.1.cls, T, N)) (hk : Snd M d b Q (pc + 3) K) : Snd M d b Q pc (o_callV1 ci C d K) := by
  intro ls st w h
  unfold o_callV1 at h
  split at h
  next a1 k r =>
    obtain ⟨⟨fks, hsh⟩, h1, h2⟩ := h
    exact wp_callV (as := [a1]) (rest := r) hd hl hC rfl h1 (by rw [hci]; exact hsh) hcl (Cl.post h2 fun v w' => hk _ _ _)
  next => exact h.elim
def o_callT1 (C : MD) (d : Nat) (K : Kn) : Kn := fun ls st w => match st with
  | a1 :: .ref k :: r => isT k ∧ catS r ≤ 8 ∧ Cl d C [.ref k, a1] w (fun v w' => K ls (v.toList ++ r) w')
  | _ => False
theorem ok_callT1 {M : MD} {d b : Nat} {Q : Option Value → Mem → Prop} {pc : Nat} {K : Kn} {C : MD} {index : Nat} (hd : decode M.2.1 pc = .ok (.invokevirtual index, 3)) (hl : Cond.methodLink M.1.cls index C.1 ∈ tb) (hC : MOkV C 1) (hcl : C.1.cls = "java/lang/String") (hk : Snd M d b Q (pc + 3) K) : Snd M d b Q pc (o_callT1 C d K) := by
  intro ls st w h
  unfold o_callT1 at h
  split at h
  next a1 k r =>
    obtain ⟨⟨i, hi, rfl⟩, h1, h2⟩ := h
    exact wp_callT (as := [a1]) (rest := r) hd hl hC rfl h1 hi hcl (Cl.post h2 fun v w' => hk _ _ _)
  next => exact h.elim
def o_callS2 (C : MD) (d : Nat) (K : Kn) : Kn := fun ls st w => match st with
  | a2 :: a1 :: r => catS r ≤ 8 ∧ Cl d C [a1, a2] w (fun v w' => K ls (v.toList ++ r) w')
  | _ => False
theorem ok_callS2 {M : MD} {d b : Nat} {Q : Option Value → Mem → Prop} {pc : Nat} {K : Kn} {C : MD} {index : Nat} (hd : decode M.2.1 pc = .ok (.invokestatic index, 3)) (hl : Cond.methodLink M.1.cls index C.1 ∈ tb) (hC : MOkS C 2) (hk : Snd M d b Q (pc + 3) K) : Snd M d b Q pc (o_callS2 C d K) := by
  intro ls st w h
  unfold o_callS2 at h
  split at h
  next a2 a1 r =>
    exact wp_callS (as := [a1, a2]) (rest := r) hd hl hC rfl h.1 (Cl.post h.2 fun v w' => hk _ _ _)
  next => exact h.elim
def o_callV2 (ci : Nat) (C : MD) (d : Nat) (K : Kn) : Kn := fun ls st w => match st with
  | a2 :: a1 :: .ref k :: r => isO ci k ∧ catS r ≤ 8 ∧ Cl d C [.ref k, a1, a2] w (fun v w' => K ls (v.toList ++ r) w')
  | _ => False
theorem ok_callV2 {M : MD} {d b : Nat} {Q : Option Value → Mem → Prop} {pc : Nat} {K : Kn} {C : MD} {index N ci : Nat} {T : u_T} (hd : decode M.2.1 pc = .ok (.invokevirtual index, 3)) (hl : Cond.methodLink M.1.cls index C.1 ∈ tb) (hC : MOkV C 2) (hci : C.2.2.2.2.1 = ci) (hcl : vwCl[C.2.2.2.2.1]? = some (C.1.cls, T, N)) (hk : Snd M d b Q (pc + 3) K) : Snd M d b Q pc (o_callV2 ci C d K) := by
  intro ls st w h
  unfold o_callV2 at h
  split at h
  next a2 a1 k r =>
    obtain ⟨⟨fks, hsh⟩, h1, h2⟩ := h
    exact wp_callV (as := [a1, a2]) (rest := r) hd hl hC rfl h1 (by rw [hci]; exact hsh) hcl (Cl.post h2 fun v w' => hk _ _ _)
  next => exact h.elim
def o_callS3 (C : MD) (d : Nat) (K : Kn) : Kn := fun ls st w => match st with
  | a3 :: a2 :: a1 :: r => catS r ≤ 8 ∧ Cl d C [a1, a2, a3] w (fun v w' => K ls (v.toList ++ r) w')
  | _ => False
theorem ok_callS3 {M : MD} {d b : Nat} {Q : Option Value → Mem → Prop} {pc : Nat} {K : Kn} {C : MD} {index : Nat} (hd : decode M.2.1 pc = .ok (.invokestatic index, 3)) (hl : Cond.methodLink M.1.cls index C.1 ∈ tb) (hC : MOkS C 3) (hk : Snd M d b Q (pc + 3) K) : Snd M d b Q pc (o_callS3 C d K) := by
  intro ls st w h
  unfold o_callS3 at h
  split at h
  next a3 a2 a1 r =>
    exact wp_callS (as := [a1, a2, a3]) (rest := r) hd hl hC rfl h.1 (Cl.post h.2 fun v w' => hk _ _ _)
  next => exact h.elim
def o_callV3 (ci : Nat) (C : MD) (d : Nat) (K : Kn) : Kn := fun ls st w => match st with
  | a3 :: a2 :: a1 :: .ref k :: r => isO ci k ∧ catS r ≤ 8 ∧ Cl d C [.ref k, a1, a2, a3] w (fun v w' => K ls (v.toList ++ r) w')
  | _ => False
theorem ok_callV3 {M : MD} {d b : Nat} {Q : Option Value → Mem → Prop} {pc : Nat} {K : Kn} {C : MD} {index N ci : Nat} {T : u_T} (hd : decode M.2.1 pc = .ok (.invokevirtual index, 3)) (hl : Cond.methodLink M.1.cls index C.1 ∈ tb) (hC : MOkV C 3) (hci : C.2.2.2.2.1 = ci) (hcl : vwCl[C.2.2.2.2.1]? = some (C.1.cls, T, N)) (hk : Snd M d b Q (pc + 3) K) : Snd M d b Q pc (o_callV3 ci C d K) := by
  intro ls st w h
  unfold o_callV3 at h
  split at h
  next a3 a2 a1 k r =>
    obtain ⟨⟨fks, hsh⟩, h1, h2⟩ := h
    exact wp_callV (as := [a1, a2, a3]) (rest := r) hd hl hC rfl h1 (by rw [hci]; exact hsh) hcl (Cl.post h2 fun v w' => hk _ _ _)
  next => exact h.elim
def o_callS4 (C : MD) (d : Nat) (K : Kn) : Kn := fun ls st w => match st with
  | a4 :: a3 :: a2 :: a1 :: r => catS r ≤ 8 ∧ Cl d C [a1, a2, a3, a4] w (fun v w' => K ls (v.toList ++ r) w')
  | _ => False
theorem ok_callS4 {M : MD} {d b : Nat} {Q : Option Value → Mem → Prop} {pc : Nat} {K : Kn} {C : MD} {index : Nat} (hd : decode M.2.1 pc = .ok (.invokestatic index, 3)) (hl : Cond.methodLink M.1.cls index C.1 ∈ tb) (hC : MOkS C 4) (hk : Snd M d b Q (pc + 3) K) : Snd M d b Q pc (o_callS4 C d K) := by
  intro ls st w h
  unfold o_callS4 at h
  split at h
  next a4 a3 a2 a1 r =>
    exact wp_callS (as := [a1, a2, a3, a4]) (rest := r) hd hl hC rfl h.1 (Cl.post h.2 fun v w' => hk _ _ _)
  next => exact h.elim
def o_callV4 (ci : Nat) (C : MD) (d : Nat) (K : Kn) : Kn := fun ls st w => match st with
  | a4 :: a3 :: a2 :: a1 :: .ref k :: r => isO ci k ∧ catS r ≤ 8 ∧ Cl d C [.ref k, a1, a2, a3, a4] w (fun v w' => K ls (v.toList ++ r) w')
  | _ => False
theorem ok_callV4 {M : MD} {d b : Nat} {Q : Option Value → Mem → Prop} {pc : Nat} {K : Kn} {C : MD} {index N ci : Nat} {T : u_T} (hd : decode M.2.1 pc = .ok (.invokevirtual index, 3)) (hl : Cond.methodLink M.1.cls index C.1 ∈ tb) (hC : MOkV C 4) (hci : C.2.2.2.2.1 = ci) (hcl : vwCl[C.2.2.2.2.1]? = some (C.1.cls, T, N)) (hk : Snd M d b Q (pc + 3) K) : Snd M d b Q pc (o_callV4 ci C d K) := by
  intro ls st w h
  unfold o_callV4 at h
  split at h
  next a4 a3 a2 a1 k r =>
    obtain ⟨⟨fks, hsh⟩, h1, h2⟩ := h
    exact wp_callV (as := [a1, a2, a3, a4]) (rest := r) hd hl hC rfl h1 (by rw [hci]; exact hsh) hcl (Cl.post h2 fun v w' => hk _ _ _)
  next => exact h.elim
def o_callS5 (C : MD) (d : Nat) (K : Kn) : Kn := fun ls st w => match st with
  | a5 :: a4 :: a3 :: a2 :: a1 :: r => catS r ≤ 8 ∧ Cl d C [a1, a2, a3, a4, a5] w (fun v w' => K ls (v.toList ++ r) w')
  | _ => False
theorem ok_callS5 {M : MD} {d b : Nat} {Q : Option Value → Mem → Prop} {pc : Nat} {K : Kn} {C : MD} {index : Nat} (hd : decode M.2.1 pc = .ok (.invokestatic index, 3)) (hl : Cond.methodLink M.1.cls index C.1 ∈ tb) (hC : MOkS C 5) (hk : Snd M d b Q (pc + 3) K) : Snd M d b Q pc (o_callS5 C d K) := by
  intro ls st w h
  unfold o_callS5 at h
  split at h
  next a5 a4 a3 a2 a1 r =>
    exact wp_callS (as := [a1, a2, a3, a4, a5]) (rest := r) hd hl hC rfl h.1 (Cl.post h.2 fun v w' => hk _ _ _)
  next => exact h.elim
def o_callV5 (ci : Nat) (C : MD) (d : Nat) (K : Kn) : Kn := fun ls st w => match st with
  | a5 :: a4 :: a3 :: a2 :: a1 :: .ref k :: r => isO ci k ∧ catS r ≤ 8 ∧ Cl d C [.ref k, a1, a2, a3, a4, a5] w (fun v w' => K ls (v.toList ++ r) w')
  | _ => False
theorem ok_callV5 {M : MD} {d b : Nat} {Q : Option Value → Mem → Prop} {pc : Nat} {K : Kn} {C : MD} {index N ci : Nat} {T : u_T} (hd : decode M.2.1 pc = .ok (.invokevirtual index, 3)) (hl : Cond.methodLink M.1.cls index C.1 ∈ tb) (hC : MOkV C 5) (hci : C.2.2.2.2.1 = ci) (hcl : vwCl[C.2.2.2.2.1]? = some (C.1.cls, T, N)) (hk : Snd M d b Q (pc + 3) K) : Snd M d b Q pc (o_callV5 ci C d K) := by
  intro ls st w h
  unfold o_callV5 at h
  split at h
  next a5 a4 a3 a2 a1 k r =>
    obtain ⟨⟨fks, hsh⟩, h1, h2⟩ := h
    exact wp_callV (as := [a1, a2, a3, a4, a5]) (rest := r) hd hl hC rfl h1 (by rw [hci]; exact hsh) hcl (Cl.post h2 fun v w' => hk _ _ _)
  next => exact h.elim
def o_iret (Q : Option Value → Mem → Prop) : Kn := fun _ st w => match st with
  | [.int x] => Q (some (.int x)) w
  | _ => False
theorem ok_iret {M : MD} {d b : Nat} {Q : Option Value → Mem → Prop} {pc : Nat} (hd : decode M.2.1 pc = .ok (.ireturn, 1)) (hr : M.2.2.2.1 = some .int) : Snd M d b Q pc (o_iret Q) := by
  intro ls st w h
  unfold o_iret at h
  split at h
  next x =>
    intro G p l e R s m args below meth c QQ mcF msF X H locs cells slots lsr hP hS hc hs hL; obtain ⟨hx, hb, hml, hown, hts, hR, hU, ⟨htr, hpg, hthr⟩, hend⟩ := id X
    refine W.widen (k := mcF) (n := msF) (by omega) (by omega) ?_
    exact hend (some (.int x)) w pc lsr H locs h ⟨hd, .int, hr, rfl⟩ hP hS
  next => exact h.elim
def o_zret (ty : FieldType) (Q : Option Value → Mem → Prop) : Kn := fun _ st w => match st with
  | [.int x] => narrow ty (.int x) = .int x ∧ Q (some (.int x)) w
  | _ => False
theorem ok_zret {M : MD} {d b : Nat} {Q : Option Value → Mem → Prop} {pc : Nat} {ty : FieldType} (hd : decode M.2.1 pc = .ok (.ireturn, 1)) (hr : M.2.2.2.1 = some ty) : Snd M d b Q pc (o_zret ty Q) := by
  intro ls st w h
  unfold o_zret at h
  split at h
  next x =>
    intro G p l e R s m args below meth c QQ mcF msF X H locs cells slots lsr hP hS hc hs hL; obtain ⟨hx, hb, hml, hown, hts, hR, hU, ⟨htr, hpg, hthr⟩, hend⟩ := id X
    refine W.widen (k := mcF) (n := msF) (by omega) (by omega) ?_
    exact hend (some (.int x)) w pc lsr H locs h.2 ⟨hd, ty, hr, h.1⟩ hP hS
  next => exact h.elim
def o_lret (Q : Option Value → Mem → Prop) : Kn := fun _ st w => match st with
  | [.long x] => Q (some (.long x)) w
  | _ => False
theorem ok_lret {M : MD} {d b : Nat} {Q : Option Value → Mem → Prop} {pc : Nat} (hd : decode M.2.1 pc = .ok (.lreturn, 1)) (hr : M.2.2.2.1 = some .long) : Snd M d b Q pc (o_lret Q) := by
  intro ls st w h
  unfold o_lret at h
  split at h
  next x =>
    intro G p l e R s m args below meth c QQ mcF msF X H locs cells slots lsr hP hS hc hs hL; obtain ⟨hx, hb, hml, hown, hts, hR, hU, ⟨htr, hpg, hthr⟩, hend⟩ := id X
    refine W.widen (k := mcF) (n := msF) (by omega) (by omega) ?_
    exact hend (some (.long x)) w pc lsr H locs h ⟨hd, hr⟩ hP hS
  next => exact h.elim
def o_vret (Q : Option Value → Mem → Prop) : Kn := fun _ st w => match st with
  | [] => Q none w
  | _ => False
theorem ok_vret {M : MD} {d b : Nat} {Q : Option Value → Mem → Prop} {pc : Nat} (hd : decode M.2.1 pc = .ok (.return_, 1)) (hr : M.2.2.2.1 = none) : Snd M d b Q pc (o_vret Q) := by
  intro ls st w h
  unfold o_vret at h
  split at h
  next =>
    intro G p l e R s m args below meth c QQ mcF msF X H locs cells slots lsr hP hS hc hs hL; obtain ⟨hx, hb, hml, hown, hts, hR, hU, ⟨htr, hpg, hthr⟩, hend⟩ := id X
    refine W.widen (k := mcF) (n := msF) (by omega) (by omega) ?_
    exact hend none w pc lsr H locs h ⟨hd, hr⟩ hP hS
  next => exact h.elim
def o_thr (X : Mem → Prop) : Kn := fun _ st w => match st with
  | [] => X w
  | _ => False
theorem ok_thr {M : MD} {d b : Nat} {Q : Option Value → Mem → Prop} {pc : Nat} {X : Mem → Prop} (hX : M.2.2.2.2.2.2 = some (pc, X)) (hb1 : 1 ≤ b) : Snd M d b Q pc (o_thr X) := by
  intro ls st w h
  unfold o_thr at h
  split at h
  next =>
    intro G p l e R s m args below meth c QQ mcF msF X H locs cells slots lsr hP hS hc hs hL; obtain ⟨hx, hb, hml, hown, hts, hR, hU, ⟨htr, hpg, hthr⟩, hend⟩ := id X
    rw [hX] at hthr
    exact hthr w lsr H locs cells slots h hL.1 hP hS (by omega) (by omega)
  next => exact h.elim
def tsw (x : Int32) : Int32 → List Kn → Kn → Kn
  | _, [], Kd => Kd
  | lo, K :: Ks, Kd => fun ls st w => if x = lo then K ls st w else tsw x (lo + 1) Ks Kd ls st w
def o_tsw (lo : Int32) (Ks : List Kn) (Kd : Kn) : Kn := fun ls st w => match st with
  | .int x :: r => tsw x lo Ks Kd ls r w
  | _ => False
theorem tsw_in {x : Int32} {ls st : List Value} {w : Mem} {Kd : Kn} : ∀ (Ks : List Kn) (lo : Int32), lo.toInt + Ks.length < 2 ^ 31 → tsw x lo Ks Kd ls st w → (∃ (i : Nat) (K : Kn), Ks[i]? = some K ∧ x.toInt = lo.toInt + i ∧ K ls st w) ∨ ((x.toInt < lo.toInt ∨ lo.toInt + Ks.length ≤ x.toInt) ∧ Kd ls st w)
  | [], lo, _, h => Or.inr ⟨by simp; omega, h⟩
  | K :: Ks, lo, hb, h => by
    have hlo := lo.le_toInt
    have e1 : (lo + 1).toInt = lo.toInt + 1 := by
      rw [Int32.toInt_add]
      simp only [List.length_cons] at hb
      have : (1 : Int32).toInt = 1 := rfl
      rw [this]
      exact Int.bmod_eq_of_le (by omega) (by omega)
    simp only [tsw] at h
    split at h
    · next e => exact Or.inl ⟨0, K, rfl, by rw [e]; simp, h⟩
    · next e =>
      have hne : x.toInt ≠ lo.toInt := fun q => e (Int32.toInt_inj.mp q)
      rcases tsw_in Ks (lo + 1) (by rw [e1]; simp only [List.length_cons] at hb; omega) h with ⟨i, K', h1, h2, h3⟩ | ⟨h1, h2⟩
      · exact Or.inl ⟨i + 1, K', by simpa using h1, by rw [h2, e1]; push_cast; omega, h3⟩
      · refine Or.inr ⟨?_, h2⟩
        rw [e1] at h1
        simp only [List.length_cons]
        omega
theorem ok_tsw {M : MD} {d b : Nat} {Q : Option Value → Mem → Prop} {pc : Nat} {lo : Int32} {Ks : List Kn} {Kd : Kn} {dflt l9 h9 : Int} {offs : Array Int} {len dt : Nat} {ts : List Nat} (hd : decode M.2.1 pc = .ok (.tableswitch dflt l9 h9 offs, len)) (hl : lo.toInt = l9) (hn : h9 = l9 + ts.length - 1) (hb9 : l9 + ts.length < 2 ^ 31) (hdt : (pc : Int) + dflt = (dt : Int)) (ho : offs.toList.map (fun o => (pc : Int) + o) = ts.map (fun t => ((t : Nat) : Int)))
    (hks : ∀ (i : Nat) (K : Kn) (t : Nat), Ks[i]? = some K → ts[i]? = some t → Snd M d b Q t K) (hkd : Snd M d b Q dt Kd) (hlen : Ks.length = ts.length) : Snd M d b Q pc (o_tsw lo Ks Kd) := by
  intro ls st w h
  unfold o_tsw at h
  split at h
  next x r =>
    rcases tsw_in Ks lo (by rw [hl, hlen]; exact hb9) h with ⟨i, K, h1, h2, h3⟩ | ⟨h1, h2⟩
    · intro G p l e R s m args below meth c QQ mcF msF X H locs cells slots lsr hP hS hc hs hL; obtain ⟨hx, hb, hml, hown, hts, hR, hU, ⟨htr, hpg, hthr⟩, hend⟩ := id X
      have hi : i < Ks.length := (List.getElem?_eq_some_iff.mp h1).1
      have hti : ts[i]? = some ts[i] := List.getElem?_eq_getElem (by omega)
      have hoi : (offs.toList.map (fun o => (pc : Int) + o))[i]? = some ((ts[i] : Nat) : Int) := by rw [ho, List.getElem?_map, hti]; rfl
      rw [List.getElem?_map] at hoi
      cases hof : offs.toList[i]? with
      | none => rw [hof] at hoi; cases hoi
      | some o =>
        rw [hof] at hoi
        have e3 : (pc : Int) + o = ((ts[i] : Nat) : Int) := Option.some.inj hoi
        refine lv_tableIn hx hb hd (by rw [h2, hl]; omega) (by rw [h2, hl, hn, ← hlen]; omega) (off := o) ?_ e3 (hks i K _ h1 hti _ _ _ h3 G p l e R s m args below meth c QQ mcF msF X H locs cells slots lsr hP hS hc hs hL)
        rw [h2, hl, show (l9 + (i : Int) - l9).toNat = i by omega, ← Array.getElem?_toList]
        exact hof
    · intro G p l e R s m args below meth c QQ mcF msF X H locs cells slots lsr hP hS hc hs hL; obtain ⟨hx, hb, hml, hown, hts, hR, hU, ⟨htr, hpg, hthr⟩, hend⟩ := id X
      exact lv_tableOut hx hb hd (by rw [hl, hlen] at h1; rw [hn]; omega) hdt (hkd _ _ _ h2 G p l e R s m args below meth c QQ mcF msF X H locs cells slots lsr hP hS hc hs hL)
  next => exact h.elim
def lsw (x : Int32) : List (Int32 × Kn) → Kn → Kn
  | [], Kd => Kd
  | q :: qs, Kd => fun ls st w => if x = q.1 then q.2 ls st w else lsw x qs Kd ls st w
def o_lsw (qs : List (Int32 × Kn)) (Kd : Kn) : Kn := fun ls st w => match st with
  | .int x :: r => lsw x qs Kd ls r w
  | _ => False
theorem lsw_in {M : MD} {d b : Nat} {Q : Option Value → Mem → Prop} {pc dt : Nat} {dflt : Int} {x : Int32} {ls st : List Value} {w : Mem} {Kd : Kn} (hkd : Snd M d b Q dt Kd) (hdt : (pc : Int) + dflt = (dt : Int)) : ∀ (qs : List (Int32 × Kn)) (ps : List (Int × Int)) (ts : List Nat), ps.map (fun z => z.1) = qs.map (fun z => z.1.toInt) → ps.map (fun z => (pc : Int) + z.2) = ts.map (fun t => ((t : Nat) : Int)) → (∀ (i : Nat) (q : Int32 × Kn) (t : Nat), qs[i]? = some q → ts[i]? = some t → Snd M d b Q t q.2) → lsw x qs Kd ls st w →
    ∃ (off : Int) (tgt : Nat), Op.lookupswitch.offset ps dflt x.toInt = off ∧ (pc : Int) + off = (tgt : Int) ∧ Wp M d b Q tgt ls st w
  | [], ps, ts, h1, h2, _, h => by
    have : ps = [] := by simpa using h1
    subst this
    exact ⟨dflt, dt, rfl, hdt, hkd _ _ _ h⟩
  | q :: qs, [], ts, h1, _, _, _ => by simp at h1
  | q :: qs, z :: ps, [], _, h2, _, _ => by simp at h2
  | q :: qs, (a, o) :: ps, t :: ts, h1, h2, h3, h => by
    simp only [List.map_cons, List.cons.injEq] at h1 h2
    simp only [lsw] at h
    rw [Op.lookupswitch.offset_cons]
    split at h
    · next e => exact ⟨o, t, by rw [if_pos (by rw [e]; exact h1.1)], h2.1, h3 0 q t rfl rfl _ _ _ h⟩
    · next e =>
      obtain ⟨off, tgt, g1, g2, g3⟩ := lsw_in hkd hdt qs ps ts h1.2 h2.2 (fun i q t a b => h3 (i + 1) q t (by simpa using a) (by simpa using b)) h
      exact ⟨off, tgt, by rw [if_neg (fun z => e (Int32.toInt_inj.mp (by rw [← h1.1]; exact z.symm)))]; exact g1, g2, g3⟩
theorem ok_lsw {M : MD} {d b : Nat} {Q : Option Value → Mem → Prop} {pc : Nat} {qs : List (Int32 × Kn)} {Kd : Kn} {dflt : Int} {ps : Array (Int × Int)} {len dt : Nat} {ts : List Nat} (hd : decode M.2.1 pc = .ok (.lookupswitch dflt ps, len)) (hp : (ps.toList.zip (ps.toList.drop 1)).all (fun (a, next) => a.1 < next.1) = true) (hdt : (pc : Int) + dflt = (dt : Int)) {ks : List Int32} (h1 : ps.toList.map (fun z => z.1) = ks.map (fun z => z.toInt)) (h2 : ps.toList.map (fun z => (pc : Int) + z.2) = ts.map (fun t => ((t : Nat) : Int))) (h9 : qs.map (fun z => z.1) = ks)
    (hks : ∀ (i : Nat) (q : Int32 × Kn) (t : Nat), qs[i]? = some q → ts[i]? = some t → Snd M d b Q t q.2) (hkd : Snd M d b Q dt Kd) : Snd M d b Q pc (o_lsw qs Kd) := by
  intro ls st w h
  unfold o_lsw at h
  split at h
  next x r =>
    obtain ⟨off, tgt, g1, g2, g3⟩ := lsw_in hkd hdt qs ps.toList ts (by rw [h1, ← h9, List.map_map]; rfl) h2 hks h
    intro G p l e R s m args below meth c QQ mcF msF X H locs cells slots lsr hP hS hc hs hL; obtain ⟨hx, hb, hml, hown, hts, hR, hU, ⟨htr, hpg, hthr⟩, hend⟩ := id X
    exact lv_lookup hx hb hd hp g1 g2 (g3 G p l e R s m args below meth c QQ mcF msF X H locs cells slots lsr hP hS hc hs hL)
  next => exact h.elim
def o_sval (K : Kn) : Kn := fun ls st w => match st with
  | .ref k :: r => isT k ∧ K ls (.ref (1000 + k) :: r) w
  | _ => False
theorem ok_sval {M : MD} {d b : Nat} {Q : Option Value → Mem → Prop} {pc : Nat} {K : Kn} {index : Nat} (hd : decode M.2.1 pc = .ok (.getfield index, 3)) (hl : Cond.fieldLink M.1.cls index "java/lang/String" "value" "[B" ∈ tb) (hk : Snd M d b Q (pc + 3) K) : Snd M d b Q pc (o_sval K) := by
  intro ls st w h
  unfold o_sval at h
  split at h
  next k r =>
    obtain ⟨⟨i, hi, rfl⟩, h⟩ := h
    intro G p l e R s m args below meth c QQ mcF msF X H locs cells slots lsr hP hS hc hs hL; obtain ⟨hx, hb, hml, hown, hts, hR, hU, ⟨htr, hpg, hthr⟩, hend⟩ := id X
    have hN : NS ≤ 100 := by decide
    have h2 := (hk _ _ _ h G p l e R s m args below meth c QQ mcF msF X H locs cells slots lsr hP hS hc hs hL)
    rw [show 1000 + (1000 + i) = 2000 + i by omega, List.map_cons, cz_ref (show 2000 + i ≠ 3000 by omega)] at h2
    rw [List.map_cons, cz_ref (show 1000 + i ≠ 3000 by omega)]
    exact vk_getf hx hb (hU.2.2.1 i hi).2.2.1 hS hown (hts _ hl) (fun _ q => q) hd h2
  next => exact h.elim
def o_scod (K : Kn) : Kn := fun ls st w => match st with
  | .ref k :: r => isT k ∧ K ls (.int 0 :: r) w
  | _ => False
theorem ok_scod {M : MD} {d b : Nat} {Q : Option Value → Mem → Prop} {pc : Nat} {K : Kn} {index : Nat} (hd : decode M.2.1 pc = .ok (.getfield index, 3)) (hl : Cond.fieldLink M.1.cls index "java/lang/String" "code\x72" "B" ∈ tb) (hk : Snd M d b Q (pc + 3) K) : Snd M d b Q pc (o_scod K) := by
  intro ls st w h
  unfold o_scod at h
  split at h
  next k r =>
    obtain ⟨⟨i, hi, rfl⟩, h⟩ := h
    intro G p l e R s m args below meth c QQ mcF msF X H locs cells slots lsr hP hS hc hs hL; obtain ⟨hx, hb, hml, hown, hts, hR, hU, ⟨htr, hpg, hthr⟩, hend⟩ := id X
    have hN : NS ≤ 100 := by decide
    rw [List.map_cons, cz_ref (show 1000 + i ≠ 3000 by omega)]
    exact vk_getf hx hb (hU.2.2.1 i hi).2.1 hS hown (hts _ hl) (fun _ q => q) hd (hk _ _ _ h G p l e R s m args below meth c QQ mcF msF X H locs cells slots lsr hP hS hc hs hL)
  next => exact h.elim
def o_slen (K : Kn) : Kn := fun ls st w => match st with
  | .ref k :: r => isT (k - 1000) ∧ K ls (.int (Int32.ofNat (sbyt (k - 2000)).length) :: r) w
  | _ => False
theorem ok_slen {M : MD} {d b : Nat} {Q : Option Value → Mem → Prop} {pc : Nat} {K : Kn} (hd : decode M.2.1 pc = .ok (.arraylength, 1)) (hk : Snd M d b Q (pc + 1) K) : Snd M d b Q pc (o_slen K) := by
  intro ls st w h
  unfold o_slen at h
  split at h
  next k r =>
    obtain ⟨⟨i, hi, hk0⟩, h⟩ := h
    have hk1 : k = 2000 + i := isT2 hk0
    subst hk1
    rw [show 2000 + i - 2000 = i from Nat.add_sub_cancel_left _ _] at h
    intro G p l e R s m args below meth c QQ mcF msF X H locs cells slots lsr hP hS hc hs hL; obtain ⟨hx, hb, hml, hown, hts, hR, hU, ⟨htr, hpg, hthr⟩, hend⟩ := id X
    have hN : NS ≤ 100 := by decide
    rw [List.map_cons, cz_ref (show 2000 + i ≠ 3000 by omega)]
    exact va_tlen hx hb (hU.2.2.1 i hi).2.2.2 hS rfl hd (hk _ _ _ h G p l e R s m args below meth c QQ mcF msF X H locs cells slots lsr hP hS hc hs hL)
  next => exact h.elim
def o_sbal (K : Kn) : Kn := fun ls st w => match st with
  | .int j :: .ref k :: r => isT (k - 1000) ∧ vp_in j (sbyt (k - 2000)).length ∧ K ls (.int ((sbyt (k - 2000)).getD j.toNatClampNeg 0) :: r) w
  | _ => False
theorem ok_sbal {M : MD} {d b : Nat} {Q : Option Value → Mem → Prop} {pc : Nat} {K : Kn} (hd : decode M.2.1 pc = .ok (.baload, 1)) (hk : Snd M d b Q (pc + 1) K) : Snd M d b Q pc (o_sbal K) := by
  intro ls st w h
  unfold o_sbal at h
  split at h
  next j k r =>
    obtain ⟨⟨i, hi, hk0⟩, hin, h⟩ := h
    have hk1 : k = 2000 + i := isT2 hk0
    subst hk1
    rw [show 2000 + i - 2000 = i from Nat.add_sub_cancel_left _ _] at h hin
    intro G p l e R s m args below meth c QQ mcF msF X H locs cells slots lsr hP hS hc hs hL; obtain ⟨hx, hb, hml, hown, hts, hR, hU, ⟨htr, hpg, hthr⟩, hend⟩ := id X
    have hN : NS ≤ 100 := by decide
    rw [List.map_cons, List.map_cons, cz_ref (show 2000 + i ≠ 3000 by omega)]
    exact va_tb hx hb (hU.2.2.1 i hi).2.2.2 hS hin rfl hd (hk _ _ _ h G p l e R s m args below meth c QQ mcF msF X H locs cells slots lsr hP hS hc hs hL)
  next => exact h.elim
def o_gsC (K : Kn) : Kn := fun ls st w => K ls (.int 1 :: st) w
theorem ok_gsC {M : MD} {d b : Nat} {Q : Option Value → Mem → Prop} {pc : Nat} {K : Kn} {index : Nat} (hd : decode M.2.1 pc = .ok (.getstatic index, 3)) (hl : Cond.fieldLink M.1.cls index "java/lang/String" "COMPACT_STRINGS" "Z" ∈ tb) (hk : Snd M d b Q (pc + 3) K) : Snd M d b Q pc (o_gsC K) := by
  intro ls st w h
  · intro G p l e R s m args below meth c QQ mcF msF X H locs cells slots lsr hP hS hc hs hL; obtain ⟨hx, hb, hml, hown, hts, hR, hU, ⟨htr, hpg, hthr⟩, hend⟩ := id X
    exact va_gets hx hb hU.2.2.2.2.1 hS hown (hts _ hl) (fun _ q => q) hd (hk _ _ _ h G p l e R s m args below meth c QQ mcF msF X H locs cells slots lsr hP hS hc hs hL)
def o_gsF (K : Kn) : Kn := fun ls st w => K ls (.ref 3000 :: st) w
theorem ok_gsF {M : MD} {d b : Nat} {Q : Option Value → Mem → Prop} {pc : Nat} {K : Kn} {index : Nat} (hd : decode M.2.1 pc = .ok (.getstatic index, 3)) (hl : Cond.fieldLink M.1.cls index "jdk/internal/util/Preconditions" fmtN "Ljava/util/function/BiFunction;" ∈ tb) (hk : Snd M d b Q (pc + 3) K) : Snd M d b Q pc (o_gsF K) := by
  intro ls st w h
  · intro G p l e R s m args below meth c QQ mcF msF X H locs cells slots lsr hP hS hc hs hL; obtain ⟨hx, hb, hml, hown, hts, hR, hU, ⟨htr, hpg, hthr⟩, hend⟩ := id X
    exact va_gets hx hb hU.2.2.2.2.2.1 hS hown (hts _ hl) (fun _ q => q) hd (hk _ _ _ h G p l e R s m args below meth c QQ mcF msF X H locs cells slots lsr hP hS hc hs hL)
