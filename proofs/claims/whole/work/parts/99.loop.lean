/-! ===== the law's loop ===== -/
section LawLoop
variable {L : Nat} {xs : Nat → Int32} {d : Nat} {Q : Option Value → Mem → Prop}
theorem tsw_all {x : Int32} {ls st : List Value} {w : Mem} {Kd : Kn} (hd : Kd ls st w) : ∀ (Ks : List Kn) (lo : Int32), (∀ K ∈ Ks, K ls st w) → tsw x lo Ks Kd ls st w
  | [], _, _ => hd
  | K :: Ks, lo, h => by
    simp only [tsw]
    split
    · exact h K List.mem_cons_self
    · exact tsw_all hd Ks (lo + 1) fun K' h' => h K' (List.mem_cons_of_mem _ h')
set_option maxRecDepth 100000 in
set_option maxHeartbeats 4000000 in
theorem law_go (hL : L ≤ 3072) (hQ : ∀ w, Q (some (.int 1)) w) {k b : Nat} {w : Mem} {v5 v6 : Value} (h2 : k ≤ L) (hb : 1 ≤ b) (hI : INV w) (hn : k + 6 ≤ L → ∀ (b' : Nat) (w2 : Mem) (u5 u6 : Value), b - 1 ≤ b' → INV w2 → Wp (m_L_law L xs) (d + 20) b' Q 23 [.ref 999, .ref 0, .ref 59, .ref 73, .int (nI (k + 6)), u5, u6] [] w2) : Wp (m_L_law L xs) (d + 20) b Q 23 [.ref 999, .ref 0, .ref 59, .ref 73, .int (nI k), v5, v6] [] w := by
  refine S_L_law_L1 hb _ _ _ ?_
  have e1 : (nI L - 6).toInt = (L : Int) - 6 := pk_sub_toInt (a := L) (b := 6) (by omega) (by omega)
  have e2 : (nI k).toInt = k := nI_toInt (by omega)
  have hq : Int32.ofNat L - 6 < nI k ↔ ¬ k + 6 ≤ L := by
    show nI L - 6 < nI k ↔ _
    rw [Int32.lt_iff_toInt_lt, e1, e2]
    omega
  change (if Int32.ofNat L - 6 < nI k then (narrow .boolean (.int 1) = .int 1 ∧ Q (some (.int 1)) w) else (vp_in (nI k) L ∧ tsw (xs (nI k).toNatClampNeg &&& 63) 0 _ _ [.ref 999, .ref 0, .ref 59, .ref 73, .int (nI k), v5, v6] [] w))
  by_cases hk : k + 6 ≤ L
  · rw [if_neg fun z => hq.mp z hk]
    have hn1 : ∀ w2, INV w2 → Wp (m_L_law L xs) (d + 20) b Q 23 [.ref 999, .ref 0, .ref 59, .ref 73, .int (nI (k + 6)), v5, v6] [] w2 := fun w2 hI2 => hn hk b w2 v5 v6 (Nat.sub_le _ _) hI2
    have hn2 : ∀ (w2 : Mem) (u5 u6 : Int32), INV w2 → Wp (m_L_law L xs) (d + 20) (b - 1) Q 23 [.ref 999, .ref 0, .ref 59, .ref 73, .int (nI (k + 6)), .int u5, .int u6] [] w2 := fun w2 u5 u6 hI2 => hn hk (b - 1) w2 (.int u5) (.int u6) (Nat.le_refl _) hI2
    refine ⟨vp_in_nI (show k < L by omega) (by omega), tsw_all ?_ _ _ ?_⟩
    · have e6 : nI k + 6 = nI (k + 6) := nI_add k 6
      simp +decide (disch := omega) only [↓EQA, CEA, LIA, NIA, Nat.lt_irrefl, Option.toList_some, Option.toList_none, List.cons_append, List.nil_append, true_and, and_true, Nat.reduceAdd, Nat.reduceLeDiff, not_true_eq_false, not_false_eq_true, if_true, if_false, ite_true, ite_false, Int32.reduceLT, ite_not, eq_self, or_true, true_or, ite_self, reduceIte, B_L_law_J75, e6]
      exact hn1 w hI
    · exact List.forall_mem_cons.mpr ⟨c_feed hI hk hL hn1, List.forall_mem_cons.mpr ⟨c_regatta hI hk hL hn1, List.forall_mem_cons.mpr ⟨c_fault hI hk hL hn1, List.forall_mem_cons.mpr ⟨c_where hI hk hL hn1, List.forall_mem_cons.mpr ⟨c_house hI hk hL hn1, List.forall_mem_cons.mpr ⟨c_lodger hI hk hL hn1, List.forall_mem_cons.mpr ⟨c_bend hI hk hL hn1, List.forall_mem_cons.mpr ⟨c_time hI hk hL hn1, List.forall_mem_cons.mpr ⟨c_soFar hI hk hL hn1, List.forall_mem_cons.mpr ⟨c_total hI hk hL hn1, List.forall_mem_cons.mpr ⟨c_loses hI hk hL hn1, List.forall_mem_cons.mpr ⟨c_rank hI hk hL hn1, List.forall_mem_cons.mpr ⟨c_ranked hI hk hL hn1, List.forall_mem_cons.mpr ⟨c_out hI hk hL hn1, List.forall_mem_cons.mpr ⟨c_prize hI hk hL hn1, List.forall_mem_cons.mpr ⟨c_ahead hI hk hL hn1, List.forall_mem_cons.mpr ⟨c_leader hI hk hL hn1, List.forall_mem_cons.mpr ⟨c_full hI hk hL hn1, List.forall_mem_cons.mpr ⟨c_passes hI hk hL hn1, List.forall_mem_cons.mpr ⟨c_fastest hI hk hL hn1, List.forall_mem_cons.mpr ⟨c_storey hI hk hL hn1, List.forall_mem_cons.mpr ⟨c_together hI hk hL hn1, List.forall_mem_cons.mpr ⟨c_bestRank hI hk hL hn1, List.forall_mem_cons.mpr ⟨c_loadOf hI hk hL hn1, List.forall_mem_cons.mpr ⟨c_loadMoves hI hk hL hn1, List.forall_mem_cons.mpr ⟨c_leastTotal hI hk hL hn1, List.forall_mem_cons.mpr ⟨c_friendly hI hk hL hn1, List.forall_mem_cons.mpr ⟨c_friendlyOf hI hk hL hn1, List.forall_mem_cons.mpr ⟨c_leastFor hI hk hL hn1, List.forall_mem_cons.mpr ⟨c_toMove hI hk hL hn1, List.forall_mem_cons.mpr ⟨c_waterFor hI hk hL hn1, List.forall_mem_cons.mpr ⟨c_bestSwap hI hk hL hn1, List.forall_mem_cons.mpr ⟨c_bestLane hI hk hL hn1, List.forall_mem_cons.mpr ⟨c_fires hI hk hL hn1, List.forall_mem_cons.mpr ⟨c_fireAt hI hk hL hn1, List.forall_mem_cons.mpr ⟨c_could hI hk hL hn1, List.forall_mem_cons.mpr ⟨c_surely hI hk hL hn1, List.forall_mem_cons.mpr ⟨c_ask hI hk hL hn1, List.forall_mem_cons.mpr ⟨c_askLeaves hI hk hL hn1, List.forall_mem_cons.mpr ⟨c_judge hI hk hL hn1, List.forall_mem_cons.mpr ⟨c_odds hI hk hL hn1, List.forall_mem_cons.mpr ⟨c_mean hI hk hL hn1, List.forall_mem_cons.mpr ⟨c_hopes hI hk hL hn1, List.forall_mem_cons.mpr ⟨c_wins hI hk hL hn1, List.forall_mem_cons.mpr ⟨c_record hI hk hL hn1, List.forall_mem_cons.mpr ⟨c_weir hI hk hL hn1, List.forall_mem_cons.mpr ⟨c_rests hI hk hL hn1, List.forall_mem_cons.mpr ⟨c_rest hI hk hL hn1, List.forall_mem_cons.mpr ⟨c_board hI hk hL hn1, List.forall_mem_cons.mpr ⟨c_ashore hI hk hL hn1, List.forall_mem_cons.mpr ⟨c_light hI hk hL hn1, List.forall_mem_cons.mpr ⟨c_cross hI hk hL hn1, List.forall_mem_cons.mpr ⟨c_raise hI hk hL hn1, List.forall_mem_cons.mpr ⟨c_undo hI hk hL hn1, List.forall_mem_cons.mpr ⟨c_image hI hk hL hn1, List.forall_mem_cons.mpr ⟨c_back hI hk hL hn1, List.forall_mem_cons.mpr ⟨c_led hb hI hk hL hn2, List.forall_mem_cons.mpr ⟨c_size hI hk hL hn1, List.forall_mem_cons.mpr ⟨c_trouble hI hk hL hn1, (fun _ h => absurd h List.not_mem_nil)⟩⟩⟩⟩⟩⟩⟩⟩⟩⟩⟩⟩⟩⟩⟩⟩⟩⟩⟩⟩⟩⟩⟩⟩⟩⟩⟩⟩⟩⟩⟩⟩⟩⟩⟩⟩⟩⟩⟩⟩⟩⟩⟩⟩⟩⟩⟩⟩⟩⟩⟩⟩⟩⟩⟩⟩⟩⟩⟩
  · rw [if_pos (hq.mpr hk)]
    exact ⟨rfl, hQ w⟩
theorem law_loop (hL : L ≤ 3072) (hQ : ∀ w, Q (some (.int 1)) w) : ∀ (n k b : Nat) (w : Mem) (v5 v6 : Value), L ≤ k + 6 * n → k ≤ L → n + 1 ≤ b → INV w → Wp (m_L_law L xs) (d + 20) b Q 23 [.ref 999, .ref 0, .ref 59, .ref 73, .int (nI k), v5, v6] [] w
  | 0, k, b, w, v5, v6, h1, h2, h3, hI => law_go hL hQ h2 (by omega) hI fun hk => absurd hk (by omega)
  | n + 1, k, b, w, v5, v6, h1, h2, h3, hI => law_go hL hQ h2 (by omega) hI fun hk b' w2 u5 u6 hb hI2 => law_loop hL hQ n (k + 6) b' w2 u5 u6 (by omega) hk (by omega) hI2
theorem law_20 (hL : L ≤ 3072) (hQ : ∀ w, Q (some (.int 1)) w) {w : Mem} (hI : INV w) : Wp (m_L_law L xs) (d + 20) 513 Q 20 [.ref 999, .ref 0, .ref 59, .ref 73, .null, .null, .null] [] w := by
  refine S_L_law_0 _ _ _ ?_
  simp +decide (disch := omega) only [↓EQA, CEA, LIA, NIA, Nat.lt_irrefl, Option.toList_some, Option.toList_none, List.cons_append, List.nil_append, true_and, and_true, Nat.reduceAdd, Nat.reduceLeDiff, not_true_eq_false, not_false_eq_true, if_true, if_false, ite_true, ite_false, Int32.reduceLT, ite_not, eq_self, or_true, true_or, ite_self, reduceIte, B_L_law_0]
  exact law_loop hL hQ 512 0 513 w .null .null (by omega) (Nat.zero_le _) (Nat.le_refl _) hI
end LawLoop
