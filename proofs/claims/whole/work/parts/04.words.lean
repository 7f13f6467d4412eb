theorem tb_t1 {w : Cond} (i : Nat) (h : tables_1_1[i]? = some w) (hg : goodWord w = true) : w ∈ tb := by
  have hm := List.mem_of_getElem? h
  have h1 : w ∈ tables_1 := List.mem_append_left _ hm
  exact List.mem_filter.mpr ⟨List.mem_append_right _ h1, hg⟩
theorem tb_t2 {w : Cond} (i : Nat) (h : tables_1_2[i]? = some w) (hg : goodWord w = true) : w ∈ tb := by
  have hm := List.mem_of_getElem? h
  have h1 : w ∈ tables_1 := List.mem_append_right _ (List.mem_append_left _ hm)
  exact List.mem_filter.mpr ⟨List.mem_append_right _ h1, hg⟩
theorem tb_t3 {w : Cond} (i : Nat) (h : tables_1_3[i]? = some w) (hg : goodWord w = true) : w ∈ tb := by
  have hm := List.mem_of_getElem? h
  have h1 : w ∈ tables_1 := List.mem_append_right _ (List.mem_append_right _ (List.mem_append_left _ hm))
  exact List.mem_filter.mpr ⟨List.mem_append_right _ h1, hg⟩
theorem tb_t4 {w : Cond} (i : Nat) (h : tables_1_4[i]? = some w) (hg : goodWord w = true) : w ∈ tb := by
  have hm := List.mem_of_getElem? h
  have h1 : w ∈ tables_1 := List.mem_append_right _ (List.mem_append_right _ (List.mem_append_right _ (List.mem_append_left _ hm)))
  exact List.mem_filter.mpr ⟨List.mem_append_right _ h1, hg⟩
theorem tb_t5 {w : Cond} (i : Nat) (h : tables_1_5[i]? = some w) (hg : goodWord w = true) : w ∈ tb := by
  have hm := List.mem_of_getElem? h
  have h1 : w ∈ tables_1 := List.mem_append_right _ (List.mem_append_right _ (List.mem_append_right _ (List.mem_append_right _ (List.mem_append_left _ hm))))
  exact List.mem_filter.mpr ⟨List.mem_append_right _ h1, hg⟩
theorem tb_t6 {w : Cond} (i : Nat) (h : tables_1_6[i]? = some w) (hg : goodWord w = true) : w ∈ tb := by
  have hm := List.mem_of_getElem? h
  have h1 : w ∈ tables_1 := List.mem_append_right _ (List.mem_append_right _ (List.mem_append_right _ (List.mem_append_right _ (List.mem_append_right _ (List.mem_append_left _ hm)))))
  exact List.mem_filter.mpr ⟨List.mem_append_right _ h1, hg⟩
theorem tb_t7 {w : Cond} (i : Nat) (h : tables_1_7[i]? = some w) (hg : goodWord w = true) : w ∈ tb := by
  have hm := List.mem_of_getElem? h
  have h1 : w ∈ tables_1 := List.mem_append_right _ (List.mem_append_right _ (List.mem_append_right _ (List.mem_append_right _ (List.mem_append_right _ (List.mem_append_right _ (List.mem_append_left _ hm))))))
  exact List.mem_filter.mpr ⟨List.mem_append_right _ h1, hg⟩
theorem tb_t8 {w : Cond} (i : Nat) (h : tables_1_8[i]? = some w) (hg : goodWord w = true) : w ∈ tb := by
  have hm := List.mem_of_getElem? h
  have h1 : w ∈ tables_1 := List.mem_append_right _ (List.mem_append_right _ (List.mem_append_right _ (List.mem_append_right _ (List.mem_append_right _ (List.mem_append_right _ (List.mem_append_right _ (List.mem_append_left _ hm)))))))
  exact List.mem_filter.mpr ⟨List.mem_append_right _ h1, hg⟩
theorem tb_t9 {w : Cond} (i : Nat) (h : tables_1_9[i]? = some w) (hg : goodWord w = true) : w ∈ tb := by
  have hm := List.mem_of_getElem? h
  have h1 : w ∈ tables_1 := List.mem_append_right _ (List.mem_append_right _ (List.mem_append_right _ (List.mem_append_right _ (List.mem_append_right _ (List.mem_append_right _ (List.mem_append_right _ (List.mem_append_right _ (hm))))))))
  exact List.mem_filter.mpr ⟨List.mem_append_right _ h1, hg⟩
def o_stop : Kn := fun _ _ _ => False
theorem ok_stop {M : MD} {d b : Nat} {Q : Option Value → Mem → Prop} {pc : Nat} : Snd M d b Q pc o_stop := fun _ _ _ h => h.elim
theorem tw_0 : Cond.selects "RoofRegatta" (⟨"RoofRegatta", "tapeNumbe\x72", "(I)V"⟩ : MethodName) (⟨"RoofRegatta", "tapeNumbe\x72", "(I)V"⟩ : MethodName) ∈ tb := tb_in 0 (by decide +kernel) (by decide +kernel)
theorem tw_1 : Cond.selects "RoofRegatta" (⟨"RoofRegatta", "refused", "(I)I"⟩ : MethodName) (⟨"RoofRegatta", "refused", "(I)I"⟩ : MethodName) ∈ tb := tb_in 1 (by decide +kernel) (by decide +kernel)
theorem tw_2 : Cond.selects "RoofRegatta$Reade\x72" (⟨"RoofRegatta$Reade\x72", "readLine", "()V"⟩ : MethodName) (⟨"RoofRegatta$Reade\x72", "readLine", "()V"⟩ : MethodName) ∈ tb := tb_in 2 (by decide +kernel) (by decide +kernel)
theorem tw_3 : Cond.selects "RoofRegatta$Reade\x72" (⟨"RoofRegatta$Reade\x72", "sortOfLine", "()I"⟩ : MethodName) (⟨"RoofRegatta$Reade\x72", "sortOfLine", "()I"⟩ : MethodName) ∈ tb := tb_in 3 (by decide +kernel) (by decide +kernel)
theorem tw_4 : Cond.selects "RoofRegatta$Reade\x72" (⟨"RoofRegatta$Reade\x72", "faultOfLine", "(I)I"⟩ : MethodName) (⟨"RoofRegatta$Reade\x72", "faultOfLine", "(I)I"⟩ : MethodName) ∈ tb := tb_in 4 (by decide +kernel) (by decide +kernel)
theorem tw_5 : Cond.selects "RoofRegatta$Reade\x72" (⟨"RoofRegatta$Reade\x72", "readRegatta", "()V"⟩ : MethodName) (⟨"RoofRegatta$Reade\x72", "readRegatta", "()V"⟩ : MethodName) ∈ tb := tb_in 5 (by decide +kernel) (by decide +kernel)
theorem tw_6 : Cond.selects "RoofRegatta$Reade\x72" (⟨"RoofRegatta$Reade\x72", "readWord", "(Ljava/lang/String;)V"⟩ : MethodName) (⟨"RoofRegatta$Reade\x72", "readWord", "(Ljava/lang/String;)V"⟩ : MethodName) ∈ tb := tb_in 6 (by decide +kernel) (by decide +kernel)
theorem tw_7 : Cond.selects "RoofRegatta$Reade\x72" (⟨"RoofRegatta$Reade\x72", "readWhole", "(II)I"⟩ : MethodName) (⟨"RoofRegatta$Reade\x72", "readWhole", "(II)I"⟩ : MethodName) ∈ tb := tb_in 7 (by decide +kernel) (by decide +kernel)
theorem tw_8 : Cond.selects "RoofRegatta$Reade\x72" (⟨"RoofRegatta$Reade\x72", "readBend", "()V"⟩ : MethodName) (⟨"RoofRegatta$Reade\x72", "readBend", "()V"⟩ : MethodName) ∈ tb := tb_in 8 (by decide +kernel) (by decide +kernel)
theorem tw_9 : Cond.selects "RoofRegatta$Reade\x72" (⟨"RoofRegatta$Reade\x72", "tellName", "(I)V"⟩ : MethodName) (⟨"RoofRegatta$Reade\x72", "tellName", "(I)V"⟩ : MethodName) ∈ tb := tb_in 9 (by decide +kernel) (by decide +kernel)
theorem tw_10 : Cond.selects "RoofRegatta$Reade\x72" (⟨"RoofRegatta$Reade\x72", "readSide", "()I"⟩ : MethodName) (⟨"RoofRegatta$Reade\x72", "readSide", "()I"⟩ : MethodName) ∈ tb := tb_in 10 (by decide +kernel) (by decide +kernel)
theorem tw_11 : Cond.selects "RoofRegatta$Reade\x72" (⟨"RoofRegatta$Reade\x72", "readHouse", "()V"⟩ : MethodName) (⟨"RoofRegatta$Reade\x72", "readHouse", "()V"⟩ : MethodName) ∈ tb := tb_in 11 (by decide +kernel) (by decide +kernel)
theorem tw_12 : Cond.selects "RoofRegatta$Reade\x72" (⟨"RoofRegatta$Reade\x72", "readKind", "()I"⟩ : MethodName) (⟨"RoofRegatta$Reade\x72", "readKind", "()I"⟩ : MethodName) ∈ tb := tb_in 12 (by decide +kernel) (by decide +kernel)
theorem tw_13 : Cond.selects "RoofRegatta$Reade\x72" (⟨"RoofRegatta$Reade\x72", "readLodge\x72", "()V"⟩ : MethodName) (⟨"RoofRegatta$Reade\x72", "readLodge\x72", "()V"⟩ : MethodName) ∈ tb := tb_in 13 (by decide +kernel) (by decide +kernel)
theorem tw_14 : Cond.selects "RoofRegatta$Reade\x72" (⟨"RoofRegatta$Reade\x72", "readAboard", "()V"⟩ : MethodName) (⟨"RoofRegatta$Reade\x72", "readAboard", "()V"⟩ : MethodName) ∈ tb := tb_in 14 (by decide +kernel) (by decide +kernel)
theorem tw_15 : Cond.selects "RoofRegatta$Reade\x72" (⟨"RoofRegatta$Reade\x72", "numberOfName", "(I)I"⟩ : MethodName) (⟨"RoofRegatta$Reade\x72", "numberOfName", "(I)I"⟩ : MethodName) ∈ tb := tb_in 15 (by decide +kernel) (by decide +kernel)
theorem tw_16 : Cond.selects "RoofRegatta$Reade\x72" (⟨"RoofRegatta$Reade\x72", "readFriend", "()V"⟩ : MethodName) (⟨"RoofRegatta$Reade\x72", "readFriend", "()V"⟩ : MethodName) ∈ tb := tb_in 16 (by decide +kernel) (by decide +kernel)
theorem tw_17 : Cond.selects "RoofRegatta$Reade\x72" (⟨"RoofRegatta$Reade\x72", "readPrize", "()V"⟩ : MethodName) (⟨"RoofRegatta$Reade\x72", "readPrize", "()V"⟩ : MethodName) ∈ tb := tb_in 17 (by decide +kernel) (by decide +kernel)
theorem tw_18 : Cond.selects "RoofRegatta$Reade\x72" (⟨"RoofRegatta$Reade\x72", "readSaw", "()V"⟩ : MethodName) (⟨"RoofRegatta$Reade\x72", "readSaw", "()V"⟩ : MethodName) ∈ tb := tb_in 18 (by decide +kernel) (by decide +kernel)
theorem tw_19 : Cond.selects "RoofRegatta" (⟨"RoofRegatta", "granted", "(I)I"⟩ : MethodName) (⟨"RoofRegatta", "granted", "(I)I"⟩ : MethodName) ∈ tb := tb_in 19 (by decide +kernel) (by decide +kernel)
theorem tw_20 : Cond.selects "RoofRegatta" (⟨"RoofRegatta", "isHouse", "(I)Z"⟩ : MethodName) (⟨"RoofRegatta", "isHouse", "(I)Z"⟩ : MethodName) ∈ tb := tb_in 20 (by decide +kernel) (by decide +kernel)
theorem tw_21 : Cond.selects "RoofRegatta" (⟨"RoofRegatta", "isLodge\x72", "(I)Z"⟩ : MethodName) (⟨"RoofRegatta", "isLodge\x72", "(I)Z"⟩ : MethodName) ∈ tb := tb_in 21 (by decide +kernel) (by decide +kernel)
theorem tw_22 : Cond.selects "RoofRegatta" (⟨"RoofRegatta", "isBend", "(I)Z"⟩ : MethodName) (⟨"RoofRegatta", "isBend", "(I)Z"⟩ : MethodName) ∈ tb := tb_in 22 (by decide +kernel) (by decide +kernel)
theorem tw_23 : Cond.selects "RoofRegatta$Race" (⟨"RoofRegatta$Race", "timeBy", "(IIII)I"⟩ : MethodName) (⟨"RoofRegatta$Race", "timeBy", "(IIII)I"⟩ : MethodName) ∈ tb := tb_in 23 (by decide +kernel) (by decide +kernel)
theorem tw_24 : Cond.selects "RoofRegatta$Standing" (⟨"RoofRegatta$Standing", "isBefore", "(II)Z"⟩ : MethodName) (⟨"RoofRegatta$Standing", "isBefore", "(II)Z"⟩ : MethodName) ∈ tb := tb_in 24 (by decide +kernel) (by decide +kernel)
theorem tw_25 : Cond.selects "RoofRegatta" (⟨"RoofRegatta", "isTold", "()Z"⟩ : MethodName) (⟨"RoofRegatta", "isTold", "()Z"⟩ : MethodName) ∈ tb := tb_in 25 (by decide +kernel) (by decide +kernel)
theorem tw_26 : Cond.selects "RoofRegatta$Loads" (⟨"RoofRegatta$Loads", "measure", "(I)V"⟩ : MethodName) (⟨"RoofRegatta$Loads", "measure", "(I)V"⟩ : MethodName) ∈ tb := tb_in 26 (by decide +kernel) (by decide +kernel)
theorem tw_27 : Cond.selects "RoofRegatta$Loads" (⟨"RoofRegatta$Loads", "search", "(I)V"⟩ : MethodName) (⟨"RoofRegatta$Loads", "search", "(I)V"⟩ : MethodName) ∈ tb := tb_in 27 (by decide +kernel) (by decide +kernel)
theorem tw_28 : Cond.selects "RoofRegatta$Loads" (⟨"RoofRegatta$Loads", "allAshore", "()V"⟩ : MethodName) (⟨"RoofRegatta$Loads", "allAshore", "()V"⟩ : MethodName) ∈ tb := tb_in 28 (by decide +kernel) (by decide +kernel)
theorem tw_29 : Cond.selects "RoofRegatta$Loads" (⟨"RoofRegatta$Loads", "rankByLoad", "(I)I"⟩ : MethodName) (⟨"RoofRegatta$Loads", "rankByLoad", "(I)I"⟩ : MethodName) ∈ tb := tb_in 29 (by decide +kernel) (by decide +kernel)
theorem tw_30 : Cond.selects "RoofRegatta$Loads" (⟨"RoofRegatta$Loads", "compare", "(I)V"⟩ : MethodName) (⟨"RoofRegatta$Loads", "compare", "(I)V"⟩ : MethodName) ∈ tb := tb_in 30 (by decide +kernel) (by decide +kernel)
theorem tw_31 : Cond.selects "RoofRegatta$Loads" (⟨"RoofRegatta$Loads", "nextLoad", "()V"⟩ : MethodName) (⟨"RoofRegatta$Loads", "nextLoad", "()V"⟩ : MethodName) ∈ tb := tb_in 31 (by decide +kernel) (by decide +kernel)
theorem tw_32 : Cond.selects "RoofRegatta$Rain" (⟨"RoofRegatta$Rain", "begin", "()V"⟩ : MethodName) (⟨"RoofRegatta$Rain", "begin", "()V"⟩ : MethodName) ∈ tb := tb_in 32 (by decide +kernel) (by decide +kernel)
theorem tw_33 : Cond.selects "RoofRegatta$Rain" (⟨"RoofRegatta$Rain", "weightOfRain", "(I)J"⟩ : MethodName) (⟨"RoofRegatta$Rain", "weightOfRain", "(I)J"⟩ : MethodName) ∈ tb := tb_in 33 (by decide +kernel) (by decide +kernel)
theorem tw_34 : Cond.selects "RoofRegatta$Rain" (⟨"RoofRegatta$Rain", "reduce", "()V"⟩ : MethodName) (⟨"RoofRegatta$Rain", "reduce", "()V"⟩ : MethodName) ∈ tb := tb_in 34 (by decide +kernel) (by decide +kernel)
theorem tw_35 : Cond.selects "RoofRegatta$Rain" (⟨"RoofRegatta$Rain", "beginRaces", "(I)V"⟩ : MethodName) (⟨"RoofRegatta$Rain", "beginRaces", "(I)V"⟩ : MethodName) ∈ tb := tb_in 35 (by decide +kernel) (by decide +kernel)
theorem tw_36 : Cond.selects "RoofRegatta$Rain" (⟨"RoofRegatta$Rain", "drawRain", "()V"⟩ : MethodName) (⟨"RoofRegatta$Rain", "drawRain", "()V"⟩ : MethodName) ∈ tb := tb_in 36 (by decide +kernel) (by decide +kernel)
theorem tw_37 : Cond.selects "RoofRegatta" (⟨"RoofRegatta", "whyNoWei\x72", "(I)I"⟩ : MethodName) (⟨"RoofRegatta", "whyNoWei\x72", "(I)I"⟩ : MethodName) ∈ tb := tb_in 37 (by decide +kernel) (by decide +kernel)
theorem tw_38 : Cond.selects "RoofRegatta" (⟨"RoofRegatta", "done", "(I)Z"⟩ : MethodName) (⟨"RoofRegatta", "done", "(I)Z"⟩ : MethodName) ∈ tb := tb_in 38 (by decide +kernel) (by decide +kernel)
theorem tw_40 : Cond.selects "RoofRegattaModel" (⟨"RoofRegattaModel", "good", "()V"⟩ : MethodName) (⟨"RoofRegattaModel", "good", "()V"⟩ : MethodName) ∈ tb := tb_in 40 (by decide +kernel) (by decide +kernel)
theorem tw_41 : Cond.selects "RoofRegattaModel" (⟨"RoofRegattaModel", "no", "(I)I"⟩ : MethodName) (⟨"RoofRegattaModel", "no", "(I)I"⟩ : MethodName) ∈ tb := tb_in 41 (by decide +kernel) (by decide +kernel)
theorem tw_42 : Cond.selects "RoofRegattaModel" (⟨"RoofRegattaModel", "next", "()V"⟩ : MethodName) (⟨"RoofRegattaModel", "next", "()V"⟩ : MethodName) ∈ tb := tb_in 42 (by decide +kernel) (by decide +kernel)
theorem tw_43 : Cond.selects "RoofRegattaModel" (⟨"RoofRegattaModel", "see", "(I)I"⟩ : MethodName) (⟨"RoofRegattaModel", "see", "(I)I"⟩ : MethodName) ∈ tb := tb_in 43 (by decide +kernel) (by decide +kernel)
theorem tw_44 : Cond.selects "RoofRegattaModel" (⟨"RoofRegattaModel", "readLine", "()V"⟩ : MethodName) (⟨"RoofRegattaModel", "readLine", "()V"⟩ : MethodName) ∈ tb := tb_in 44 (by decide +kernel) (by decide +kernel)
theorem tw_45 : Cond.selects "RoofRegattaModel" (⟨"RoofRegattaModel", "isWord", "(Ljava/lang/String;)Z"⟩ : MethodName) (⟨"RoofRegattaModel", "isWord", "(Ljava/lang/String;)Z"⟩ : MethodName) ∈ tb := tb_in 45 (by decide +kernel) (by decide +kernel)
theorem tw_46 : Cond.selects "RoofRegattaModel" (⟨"RoofRegattaModel", "regattaLine", "()V"⟩ : MethodName) (⟨"RoofRegattaModel", "regattaLine", "()V"⟩ : MethodName) ∈ tb := tb_in 46 (by decide +kernel) (by decide +kernel)
theorem tw_47 : Cond.selects "RoofRegattaModel" (⟨"RoofRegattaModel", "wrong", "(II)V"⟩ : MethodName) (⟨"RoofRegattaModel", "wrong", "(II)V"⟩ : MethodName) ∈ tb := tb_in 47 (by decide +kernel) (by decide +kernel)
theorem tw_48 : Cond.selects "RoofRegattaModel" (⟨"RoofRegattaModel", "afte\x72", "(Ljava/lang/String;II)I"⟩ : MethodName) (⟨"RoofRegattaModel", "afte\x72", "(Ljava/lang/String;II)I"⟩ : MethodName) ∈ tb := tb_in 48 (by decide +kernel) (by decide +kernel)
theorem tw_49 : Cond.selects "RoofRegattaModel" (⟨"RoofRegattaModel", "must", "(Ljava/lang/String;)V"⟩ : MethodName) (⟨"RoofRegattaModel", "must", "(Ljava/lang/String;)V"⟩ : MethodName) ∈ tb := tb_in 49 (by decide +kernel) (by decide +kernel)
theorem tw_50 : Cond.selects "RoofRegattaModel" (⟨"RoofRegattaModel", "takesWord", "(Ljava/lang/String;)Z"⟩ : MethodName) (⟨"RoofRegattaModel", "takesWord", "(Ljava/lang/String;)Z"⟩ : MethodName) ∈ tb := tb_in 50 (by decide +kernel) (by decide +kernel)
theorem tw_51 : Cond.selects "RoofRegattaModel" (⟨"RoofRegattaModel", "numbe\x72", "(II)I"⟩ : MethodName) (⟨"RoofRegattaModel", "numbe\x72", "(II)I"⟩ : MethodName) ∈ tb := tb_in 51 (by decide +kernel) (by decide +kernel)
theorem tw_52 : Cond.selects "RoofRegattaModel" (⟨"RoofRegattaModel", "begins", "(Ljava/lang/String;Z)Z"⟩ : MethodName) (⟨"RoofRegattaModel", "begins", "(Ljava/lang/String;Z)Z"⟩ : MethodName) ∈ tb := tb_in 52 (by decide +kernel) (by decide +kernel)
theorem tw_53 : Cond.selects "RoofRegattaModel" (⟨"RoofRegattaModel", "bendLine", "()V"⟩ : MethodName) (⟨"RoofRegattaModel", "bendLine", "()V"⟩ : MethodName) ∈ tb := tb_in 53 (by decide +kernel) (by decide +kernel)
theorem tw_54 : Cond.selects "RoofRegattaModel" (⟨"RoofRegattaModel", "newName", "(I)V"⟩ : MethodName) (⟨"RoofRegattaModel", "newName", "(I)V"⟩ : MethodName) ∈ tb := tb_in 54 (by decide +kernel) (by decide +kernel)
theorem tw_55 : Cond.selects "RoofRegattaModel" (⟨"RoofRegattaModel", "mustName", "()V"⟩ : MethodName) (⟨"RoofRegattaModel", "mustName", "()V"⟩ : MethodName) ∈ tb := tb_in 55 (by decide +kernel) (by decide +kernel)
theorem tw_56 : Cond.selects "RoofRegattaModel" (⟨"RoofRegattaModel", "find", "()I"⟩ : MethodName) (⟨"RoofRegattaModel", "find", "()I"⟩ : MethodName) ∈ tb := tb_in 56 (by decide +kernel) (by decide +kernel)
theorem tw_57 : Cond.selects "RoofRegattaModel" (⟨"RoofRegattaModel", "side", "()I"⟩ : MethodName) (⟨"RoofRegattaModel", "side", "()I"⟩ : MethodName) ∈ tb := tb_in 57 (by decide +kernel) (by decide +kernel)
theorem tw_58 : Cond.selects "RoofRegattaModel" (⟨"RoofRegattaModel", "houseLine", "()V"⟩ : MethodName) (⟨"RoofRegattaModel", "houseLine", "()V"⟩ : MethodName) ∈ tb := tb_in 58 (by decide +kernel) (by decide +kernel)
theorem tw_59 : Cond.selects "RoofRegattaModel" (⟨"RoofRegattaModel", "lodgerLine", "()V"⟩ : MethodName) (⟨"RoofRegattaModel", "lodgerLine", "()V"⟩ : MethodName) ∈ tb := tb_in 59 (by decide +kernel) (by decide +kernel)
theorem tw_60 : Cond.selects "RoofRegattaModel" (⟨"RoofRegattaModel", "aboardLine", "()V"⟩ : MethodName) (⟨"RoofRegattaModel", "aboardLine", "()V"⟩ : MethodName) ∈ tb := tb_in 60 (by decide +kernel) (by decide +kernel)
theorem tw_61 : Cond.selects "RoofRegattaModel" (⟨"RoofRegattaModel", "lodgerHere", "()I"⟩ : MethodName) (⟨"RoofRegattaModel", "lodgerHere", "()I"⟩ : MethodName) ∈ tb := tb_in 61 (by decide +kernel) (by decide +kernel)
theorem tw_62 : Cond.selects "RoofRegattaModel" (⟨"RoofRegattaModel", "named", "(II)I"⟩ : MethodName) (⟨"RoofRegattaModel", "named", "(II)I"⟩ : MethodName) ∈ tb := tb_in 62 (by decide +kernel) (by decide +kernel)
theorem tw_63 : Cond.selects "RoofRegattaModel" (⟨"RoofRegattaModel", "pass", "()V"⟩ : MethodName) (⟨"RoofRegattaModel", "pass", "()V"⟩ : MethodName) ∈ tb := tb_in 63 (by decide +kernel) (by decide +kernel)
theorem tw_64 : Cond.selects "RoofRegattaModel" (⟨"RoofRegattaModel", "houseHere", "()I"⟩ : MethodName) (⟨"RoofRegattaModel", "houseHere", "()I"⟩ : MethodName) ∈ tb := tb_in 64 (by decide +kernel) (by decide +kernel)
theorem tw_65 : Cond.selects "RoofRegattaModel" (⟨"RoofRegattaModel", "friendLine", "()V"⟩ : MethodName) (⟨"RoofRegattaModel", "friendLine", "()V"⟩ : MethodName) ∈ tb := tb_in 65 (by decide +kernel) (by decide +kernel)
theorem tw_66 : Cond.selects "RoofRegattaModel" (⟨"RoofRegattaModel", "prizeLine", "()V"⟩ : MethodName) (⟨"RoofRegattaModel", "prizeLine", "()V"⟩ : MethodName) ∈ tb := tb_in 66 (by decide +kernel) (by decide +kernel)
theorem tw_67 : Cond.selects "RoofRegattaModel" (⟨"RoofRegattaModel", "sawLine", "()V"⟩ : MethodName) (⟨"RoofRegattaModel", "sawLine", "()V"⟩ : MethodName) ∈ tb := tb_in 67 (by decide +kernel) (by decide +kernel)
theorem tw_68 : Cond.selects "RoofRegattaModel" (⟨"RoofRegattaModel", "dry", "()V"⟩ : MethodName) (⟨"RoofRegattaModel", "dry", "()V"⟩ : MethodName) ∈ tb := tb_in 68 (by decide +kernel) (by decide +kernel)
theorem tw_69 : Cond.selects "RoofRegattaModel" (⟨"RoofRegattaModel", "isHouse", "(I)Z"⟩ : MethodName) (⟨"RoofRegattaModel", "isHouse", "(I)Z"⟩ : MethodName) ∈ tb := tb_in 69 (by decide +kernel) (by decide +kernel)
theorem tw_70 : Cond.selects "RoofRegattaModel" (⟨"RoofRegattaModel", "kindOf", "(I)I"⟩ : MethodName) (⟨"RoofRegattaModel", "kindOf", "(I)I"⟩ : MethodName) ∈ tb := tb_in 70 (by decide +kernel) (by decide +kernel)
theorem tw_71 : Cond.selects "RoofRegattaModel" (⟨"RoofRegattaModel", "storeysOf", "(I)I"⟩ : MethodName) (⟨"RoofRegattaModel", "storeysOf", "(I)I"⟩ : MethodName) ∈ tb := tb_in 71 (by decide +kernel) (by decide +kernel)
theorem tw_72 : Cond.selects "RoofRegattaModel" (⟨"RoofRegattaModel", "weightOf", "([II)I"⟩ : MethodName) (⟨"RoofRegattaModel", "weightOf", "([II)I"⟩ : MethodName) ∈ tb := tb_in 72 (by decide +kernel) (by decide +kernel)
theorem tw_73 : Cond.selects "RoofRegattaModel" (⟨"RoofRegattaModel", "powerOf", "([II)I"⟩ : MethodName) (⟨"RoofRegattaModel", "powerOf", "([II)I"⟩ : MethodName) ∈ tb := tb_in 73 (by decide +kernel) (by decide +kernel)
theorem tw_74 : Cond.selects "RoofRegattaModel" (⟨"RoofRegattaModel", "aboardOf", "([II)I"⟩ : MethodName) (⟨"RoofRegattaModel", "aboardOf", "([II)I"⟩ : MethodName) ∈ tb := tb_in 74 (by decide +kernel) (by decide +kernel)
theorem tw_75 : Cond.selects "RoofRegattaModel" (⟨"RoofRegattaModel", "isLodge\x72", "(I)Z"⟩ : MethodName) (⟨"RoofRegattaModel", "isLodge\x72", "(I)Z"⟩ : MethodName) ∈ tb := tb_in 75 (by decide +kernel) (by decide +kernel)
theorem tw_76 : Cond.selects "RoofRegattaModel" (⟨"RoofRegattaModel", "isBend", "(I)Z"⟩ : MethodName) (⟨"RoofRegattaModel", "isBend", "(I)Z"⟩ : MethodName) ∈ tb := tb_in 76 (by decide +kernel) (by decide +kernel)
theorem tw_77 : Cond.selects "RoofRegattaModel" (⟨"RoofRegattaModel", "timeOf", "([III)I"⟩ : MethodName) (⟨"RoofRegattaModel", "timeOf", "([III)I"⟩ : MethodName) ∈ tb := tb_in 77 (by decide +kernel) (by decide +kernel)
theorem tw_78 : Cond.selects "RoofRegattaModel" (⟨"RoofRegattaModel", "soFarOf", "([III)I"⟩ : MethodName) (⟨"RoofRegattaModel", "soFarOf", "([III)I"⟩ : MethodName) ∈ tb := tb_in 78 (by decide +kernel) (by decide +kernel)
theorem tw_79 : Cond.selects "RoofRegattaModel" (⟨"RoofRegattaModel", "bridgeOf", "(I)I"⟩ : MethodName) (⟨"RoofRegattaModel", "bridgeOf", "(I)I"⟩ : MethodName) ∈ tb := tb_in 79 (by decide +kernel) (by decide +kernel)
theorem tw_80 : Cond.selects "RoofRegattaModel" (⟨"RoofRegattaModel", "totalOf", "([II)I"⟩ : MethodName) (⟨"RoofRegattaModel", "totalOf", "([II)I"⟩ : MethodName) ∈ tb := tb_in 80 (by decide +kernel) (by decide +kernel)
theorem tw_81 : Cond.selects "RoofRegattaModel" (⟨"RoofRegattaModel", "layRanks", "([I)V"⟩ : MethodName) (⟨"RoofRegattaModel", "layRanks", "([I)V"⟩ : MethodName) ∈ tb := tb_in 81 (by decide +kernel) (by decide +kernel)
theorem tw_82 : Cond.selects "RoofRegattaModel" (⟨"RoofRegattaModel", "isBette\x72", "(II)Z"⟩ : MethodName) (⟨"RoofRegattaModel", "isBette\x72", "(II)Z"⟩ : MethodName) ∈ tb := tb_in 82 (by decide +kernel) (by decide +kernel)
theorem tw_83 : Cond.selects "RoofRegattaModel" (⟨"RoofRegattaModel", "prizeFo\x72", "(I)I"⟩ : MethodName) (⟨"RoofRegattaModel", "prizeFo\x72", "(I)I"⟩ : MethodName) ∈ tb := tb_in 83 (by decide +kernel) (by decide +kernel)
theorem tw_84 : Cond.selects "RoofRegattaModel" (⟨"RoofRegattaModel", "areTwo", "(II)Z"⟩ : MethodName) (⟨"RoofRegattaModel", "areTwo", "(II)Z"⟩ : MethodName) ∈ tb := tb_in 84 (by decide +kernel) (by decide +kernel)
theorem tw_85 : Cond.selects "RoofRegattaModel" (⟨"RoofRegattaModel", "isAhead", "([IIII)Z"⟩ : MethodName) (⟨"RoofRegattaModel", "isAhead", "([IIII)Z"⟩ : MethodName) ∈ tb := tb_in 85 (by decide +kernel) (by decide +kernel)
theorem tw_86 : Cond.selects "RoofRegattaModel" (⟨"RoofRegattaModel", "togetherOf", "([I)I"⟩ : MethodName) (⟨"RoofRegattaModel", "togetherOf", "([I)I"⟩ : MethodName) ∈ tb := tb_in 86 (by decide +kernel) (by decide +kernel)
theorem tw_87 : Cond.selects "RoofRegattaModel" (⟨"RoofRegattaModel", "seekLoads", "(I)V"⟩ : MethodName) (⟨"RoofRegattaModel", "seekLoads", "(I)V"⟩ : MethodName) ∈ tb := tb_in 87 (by decide +kernel) (by decide +kernel)
theorem tw_88 : Cond.selects "RoofRegattaModel" (⟨"RoofRegattaModel", "tryLoads", "(II)V"⟩ : MethodName) (⟨"RoofRegattaModel", "tryLoads", "(II)V"⟩ : MethodName) ∈ tb := tb_in 88 (by decide +kernel) (by decide +kernel)
theorem tw_89 : Cond.selects "RoofRegattaModel" (⟨"RoofRegattaModel", "keyOf", "()I"⟩ : MethodName) (⟨"RoofRegattaModel", "keyOf", "()I"⟩ : MethodName) ∈ tb := tb_in 89 (by decide +kernel) (by decide +kernel)
theorem tw_90 : Cond.selects "RoofRegattaModel" (⟨"RoofRegattaModel", "aboardAhead", "(II)I"⟩ : MethodName) (⟨"RoofRegattaModel", "aboardAhead", "(II)I"⟩ : MethodName) ∈ tb := tb_in 90 (by decide +kernel) (by decide +kernel)
theorem tw_91 : Cond.selects "RoofRegattaModel" (⟨"RoofRegattaModel", "bestAt", "(I)I"⟩ : MethodName) (⟨"RoofRegattaModel", "bestAt", "(I)I"⟩ : MethodName) ∈ tb := tb_in 91 (by decide +kernel) (by decide +kernel)
theorem tw_92 : Cond.selects "RoofRegattaModel" (⟨"RoofRegattaModel", "why", "(ZZ)I"⟩ : MethodName) (⟨"RoofRegattaModel", "why", "(ZZ)I"⟩ : MethodName) ∈ tb := tb_in 92 (by decide +kernel) (by decide +kernel)
theorem tw_93 : Cond.selects "RoofRegattaModel" (⟨"RoofRegattaModel", "seekFires", "(I)I"⟩ : MethodName) (⟨"RoofRegattaModel", "seekFires", "(I)I"⟩ : MethodName) ∈ tb := tb_in 93 (by decide +kernel) (by decide +kernel)
theorem tw_94 : Cond.selects "RoofRegattaModel" (⟨"RoofRegattaModel", "wrongSeen", "(I)I"⟩ : MethodName) (⟨"RoofRegattaModel", "wrongSeen", "(I)I"⟩ : MethodName) ∈ tb := tb_in 94 (by decide +kernel) (by decide +kernel)
theorem tw_95 : Cond.selects "RoofRegattaModel" (⟨"RoofRegattaModel", "askOf", "()I"⟩ : MethodName) (⟨"RoofRegattaModel", "askOf", "()I"⟩ : MethodName) ∈ tb := tb_in 95 (by decide +kernel) (by decide +kernel)
theorem tw_96 : Cond.selects "RoofRegattaModel" (⟨"RoofRegattaModel", "leavesOf", "(I)I"⟩ : MethodName) (⟨"RoofRegattaModel", "leavesOf", "(I)I"⟩ : MethodName) ∈ tb := tb_in 96 (by decide +kernel) (by decide +kernel)
theorem tw_97 : Cond.selects "RoofRegattaModel" (⟨"RoofRegattaModel", "tryRain", "(II)V"⟩ : MethodName) (⟨"RoofRegattaModel", "tryRain", "(II)V"⟩ : MethodName) ∈ tb := tb_in 97 (by decide +kernel) (by decide +kernel)
theorem tw_98 : Cond.selects "RoofRegattaModel" (⟨"RoofRegattaModel", "racesWhy", "(ZIII)I"⟩ : MethodName) (⟨"RoofRegattaModel", "racesWhy", "(ZIII)I"⟩ : MethodName) ∈ tb := tb_in 98 (by decide +kernel) (by decide +kernel)
theorem tw_99 : Cond.selects "RoofRegattaModel" (⟨"RoofRegattaModel", "seekRests", "(I)I"⟩ : MethodName) (⟨"RoofRegattaModel", "seekRests", "(I)I"⟩ : MethodName) ∈ tb := tb_in 99 (by decide +kernel) (by decide +kernel)
theorem tw_100 : Cond.selects "RoofRegattaModel" (⟨"RoofRegattaModel", "note", "()V"⟩ : MethodName) (⟨"RoofRegattaModel", "note", "()V"⟩ : MethodName) ∈ tb := tb_in 100 (by decide +kernel) (by decide +kernel)
theorem tw_101 : Cond.selects "RoofRegattaModel" (⟨"RoofRegattaModel", "isNot", "(I)Z"⟩ : MethodName) (⟨"RoofRegattaModel", "isNot", "(I)Z"⟩ : MethodName) ∈ tb := tb_in 101 (by decide +kernel) (by decide +kernel)
theorem tw_103 : Cond.initialized "RoofRegatta" ∈ tb := tb_t1 1 (by decide +kernel) (by decide +kernel)
theorem tw_104 : Cond.initialized "RoofRegatta$Told" ∈ tb := tb_t1 2 (by decide +kernel) (by decide +kernel)
theorem tw_105 : Cond.initialized "RoofRegatta$Race" ∈ tb := tb_t1 3 (by decide +kernel) (by decide +kernel)
theorem tw_106 : Cond.initialized "RoofRegatta$Standing" ∈ tb := tb_t1 4 (by decide +kernel) (by decide +kernel)
theorem tw_107 : Cond.initialized "RoofRegatta$Reade\x72" ∈ tb := tb_t1 5 (by decide +kernel) (by decide +kernel)
theorem tw_108 : Cond.initialized "RoofRegatta$Names" ∈ tb := tb_t1 6 (by decide +kernel) (by decide +kernel)
theorem tw_109 : Cond.initialized "RoofRegatta$Tokens" ∈ tb := tb_t1 7 (by decide +kernel) (by decide +kernel)
theorem tw_110 : Cond.initialized "RoofRegatta$Loads" ∈ tb := tb_t1 8 (by decide +kernel) (by decide +kernel)
theorem tw_111 : Cond.initialized "RoofRegatta$Fires" ∈ tb := tb_t1 9 (by decide +kernel) (by decide +kernel)
theorem tw_112 : Cond.initialized "RoofRegatta$Rain" ∈ tb := tb_t1 10 (by decide +kernel) (by decide +kernel)
theorem tw_113 : Cond.initialized "RoofRegatta$Kept" ∈ tb := tb_t1 11 (by decide +kernel) (by decide +kernel)
theorem tw_114 : Cond.initialized "RoofRegattaModel" ∈ tb := tb_t1 12 (by decide +kernel) (by decide +kernel)
theorem tw_115 : Cond.initialized "java/lang/Math" ∈ tb := tb_t1 13 (by decide +kernel) (by decide +kernel)
theorem tw_116 : Cond.initialized "java/lang/String" ∈ tb := tb_t1 14 (by decide +kernel) (by decide +kernel)
theorem tw_117 : Cond.initialized "java/lang/StringLatin1" ∈ tb := tb_t1 15 (by decide +kernel) (by decide +kernel)
theorem tw_118 : Cond.initialized "jdk/internal/util/Preconditions" ∈ tb := tb_t1 16 (by decide +kernel) (by decide +kernel)
theorem tw_120 : Cond.initialized "java/lang/Intege\x72" ∈ tb := tb_t1 18 (by decide +kernel) (by decide +kernel)
theorem tw_121 : Cond.initialized "java/lang/System" ∈ tb := tb_t1 19 (by decide +kernel) (by decide +kernel)
theorem tw_140 : Cond.fieldLink "RoofRegatta$Told" 9 "RoofRegatta$Told" "sizes" "[I" ∈ tb := tb_t1 38 (by decide +kernel) (by decide +kernel)
theorem tw_141 : Cond.fieldLink "RoofRegatta$Fires" 36 "RoofRegatta$Told" "sizes" "[I" ∈ tb := tb_t1 39 (by decide +kernel) (by decide +kernel)
theorem tw_142 : Cond.fieldLink "RoofRegatta$Reade\x72" 74 "RoofRegatta$Told" "sizes" "[I" ∈ tb := tb_t1 40 (by decide +kernel) (by decide +kernel)
theorem tw_143 : Cond.fieldLink "RoofRegatta$Standing" 36 "RoofRegatta$Told" "sizes" "[I" ∈ tb := tb_t1 41 (by decide +kernel) (by decide +kernel)
theorem tw_144 : Cond.fieldLink "RoofRegatta$Rain" 39 "RoofRegatta$Told" "sizes" "[I" ∈ tb := tb_t1 42 (by decide +kernel) (by decide +kernel)
theorem tw_145 : Cond.fieldLink "RoofRegatta$Loads" 57 "RoofRegatta$Told" "sizes" "[I" ∈ tb := tb_t1 43 (by decide +kernel) (by decide +kernel)
theorem tw_146 : Cond.fieldLink "RoofRegatta" 130 "RoofRegatta$Told" "sizes" "[I" ∈ tb := tb_t1 44 (by decide +kernel) (by decide +kernel)
theorem tw_147 : Cond.fieldLink "RoofRegatta$Race" 53 "RoofRegatta$Told" "sizes" "[I" ∈ tb := tb_t1 45 (by decide +kernel) (by decide +kernel)
theorem tw_148 : Cond.fieldLink "RoofRegatta$Told" 15 "RoofRegatta$Told" "lengths" "[I" ∈ tb := tb_t1 46 (by decide +kernel) (by decide +kernel)
theorem tw_149 : Cond.fieldLink "RoofRegatta$Reade\x72" 161 "RoofRegatta$Told" "lengths" "[I" ∈ tb := tb_t1 47 (by decide +kernel) (by decide +kernel)
theorem tw_150 : Cond.fieldLink "RoofRegatta" 186 "RoofRegatta$Told" "lengths" "[I" ∈ tb := tb_t1 48 (by decide +kernel) (by decide +kernel)
theorem tw_151 : Cond.fieldLink "RoofRegatta$Race" 84 "RoofRegatta$Told" "lengths" "[I" ∈ tb := tb_t1 49 (by decide +kernel) (by decide +kernel)
theorem tw_152 : Cond.fieldLink "RoofRegatta$Told" 18 "RoofRegatta$Told" "insides" "[I" ∈ tb := tb_t1 50 (by decide +kernel) (by decide +kernel)
theorem tw_153 : Cond.fieldLink "RoofRegatta$Reade\x72" 164 "RoofRegatta$Told" "insides" "[I" ∈ tb := tb_t1 51 (by decide +kernel) (by decide +kernel)
theorem tw_154 : Cond.fieldLink "RoofRegatta" 189 "RoofRegatta$Told" "insides" "[I" ∈ tb := tb_t1 52 (by decide +kernel) (by decide +kernel)
theorem tw_155 : Cond.fieldLink "RoofRegatta$Race" 81 "RoofRegatta$Told" "insides" "[I" ∈ tb := tb_t1 53 (by decide +kernel) (by decide +kernel)
theorem tw_156 : Cond.fieldLink "RoofRegatta$Told" 21 "RoofRegatta$Told" "kinds" "[I" ∈ tb := tb_t1 54 (by decide +kernel) (by decide +kernel)
theorem tw_157 : Cond.fieldLink "RoofRegatta" 144 "RoofRegatta$Told" "kinds" "[I" ∈ tb := tb_t1 55 (by decide +kernel) (by decide +kernel)
theorem tw_158 : Cond.fieldLink "RoofRegatta$Reade\x72" 174 "RoofRegatta$Told" "kinds" "[I" ∈ tb := tb_t1 56 (by decide +kernel) (by decide +kernel)
theorem tw_159 : Cond.fieldLink "RoofRegatta$Race" 56 "RoofRegatta$Told" "kinds" "[I" ∈ tb := tb_t1 57 (by decide +kernel) (by decide +kernel)
theorem tw_160 : Cond.fieldLink "RoofRegatta$Told" 24 "RoofRegatta$Told" "tiles" "[I" ∈ tb := tb_t1 58 (by decide +kernel) (by decide +kernel)
theorem tw_161 : Cond.fieldLink "RoofRegatta" 147 "RoofRegatta$Told" "tiles" "[I" ∈ tb := tb_t1 59 (by decide +kernel) (by decide +kernel)
theorem tw_162 : Cond.fieldLink "RoofRegatta$Reade\x72" 177 "RoofRegatta$Told" "tiles" "[I" ∈ tb := tb_t1 60 (by decide +kernel) (by decide +kernel)
theorem tw_163 : Cond.fieldLink "RoofRegatta$Race" 59 "RoofRegatta$Told" "tiles" "[I" ∈ tb := tb_t1 61 (by decide +kernel) (by decide +kernel)
theorem tw_164 : Cond.fieldLink "RoofRegatta$Told" 27 "RoofRegatta$Told" "storeys" "[I" ∈ tb := tb_t1 62 (by decide +kernel) (by decide +kernel)
theorem tw_165 : Cond.fieldLink "RoofRegatta" 150 "RoofRegatta$Told" "storeys" "[I" ∈ tb := tb_t1 63 (by decide +kernel) (by decide +kernel)
theorem tw_166 : Cond.fieldLink "RoofRegatta$Race" 48 "RoofRegatta$Told" "storeys" "[I" ∈ tb := tb_t1 64 (by decide +kernel) (by decide +kernel)
theorem tw_167 : Cond.fieldLink "RoofRegatta$Reade\x72" 179 "RoofRegatta$Told" "storeys" "[I" ∈ tb := tb_t1 65 (by decide +kernel) (by decide +kernel)
theorem tw_168 : Cond.fieldLink "RoofRegatta$Loads" 134 "RoofRegatta$Told" "storeys" "[I" ∈ tb := tb_t1 66 (by decide +kernel) (by decide +kernel)
theorem tw_169 : Cond.fieldLink "RoofRegatta$Told" 30 "RoofRegatta$Told" "weighs" "[I" ∈ tb := tb_t1 67 (by decide +kernel) (by decide +kernel)
theorem tw_170 : Cond.fieldLink "RoofRegatta" 171 "RoofRegatta$Told" "weighs" "[I" ∈ tb := tb_t1 68 (by decide +kernel) (by decide +kernel)
theorem tw_171 : Cond.fieldLink "RoofRegatta$Reade\x72" 189 "RoofRegatta$Told" "weighs" "[I" ∈ tb := tb_t1 69 (by decide +kernel) (by decide +kernel)
theorem tw_172 : Cond.fieldLink "RoofRegatta$Race" 62 "RoofRegatta$Told" "weighs" "[I" ∈ tb := tb_t1 70 (by decide +kernel) (by decide +kernel)
theorem tw_173 : Cond.fieldLink "RoofRegatta$Told" 33 "RoofRegatta$Told" "rows" "[I" ∈ tb := tb_t1 71 (by decide +kernel) (by decide +kernel)
theorem tw_174 : Cond.fieldLink "RoofRegatta" 174 "RoofRegatta$Told" "rows" "[I" ∈ tb := tb_t1 72 (by decide +kernel) (by decide +kernel)
theorem tw_175 : Cond.fieldLink "RoofRegatta$Reade\x72" 191 "RoofRegatta$Told" "rows" "[I" ∈ tb := tb_t1 73 (by decide +kernel) (by decide +kernel)
theorem tw_176 : Cond.fieldLink "RoofRegatta$Race" 65 "RoofRegatta$Told" "rows" "[I" ∈ tb := tb_t1 74 (by decide +kernel) (by decide +kernel)
theorem tw_177 : Cond.fieldLink "RoofRegatta$Told" 36 "RoofRegatta$Told" "pairs" "[I" ∈ tb := tb_t1 75 (by decide +kernel) (by decide +kernel)
theorem tw_178 : Cond.fieldLink "RoofRegatta$Reade\x72" 209 "RoofRegatta$Told" "pairs" "[I" ∈ tb := tb_t1 76 (by decide +kernel) (by decide +kernel)
theorem tw_179 : Cond.fieldLink "RoofRegatta$Race" 111 "RoofRegatta$Told" "pairs" "[I" ∈ tb := tb_t1 77 (by decide +kernel) (by decide +kernel)
theorem tw_180 : Cond.fieldLink "RoofRegatta$Told" 39 "RoofRegatta$Told" "prizes" "[I" ∈ tb := tb_t1 78 (by decide +kernel) (by decide +kernel)
theorem tw_181 : Cond.fieldLink "RoofRegatta$Reade\x72" 212 "RoofRegatta$Told" "prizes" "[I" ∈ tb := tb_t1 79 (by decide +kernel) (by decide +kernel)
theorem tw_182 : Cond.fieldLink "RoofRegatta$Told" 42 "RoofRegatta$Told" "sawFirst" "[I" ∈ tb := tb_t1 80 (by decide +kernel) (by decide +kernel)
theorem tw_183 : Cond.fieldLink "RoofRegatta$Reade\x72" 215 "RoofRegatta$Told" "sawFirst" "[I" ∈ tb := tb_t1 81 (by decide +kernel) (by decide +kernel)
theorem tw_184 : Cond.fieldLink "RoofRegatta$Race" 102 "RoofRegatta$Told" "sawFirst" "[I" ∈ tb := tb_t1 82 (by decide +kernel) (by decide +kernel)
theorem tw_185 : Cond.fieldLink "RoofRegatta$Told" 45 "RoofRegatta$Told" "sawSecond" "[I" ∈ tb := tb_t1 83 (by decide +kernel) (by decide +kernel)
theorem tw_186 : Cond.fieldLink "RoofRegatta$Reade\x72" 218 "RoofRegatta$Told" "sawSecond" "[I" ∈ tb := tb_t1 84 (by decide +kernel) (by decide +kernel)
theorem tw_187 : Cond.fieldLink "RoofRegatta$Race" 105 "RoofRegatta$Told" "sawSecond" "[I" ∈ tb := tb_t1 85 (by decide +kernel) (by decide +kernel)
theorem tw_188 : Cond.fieldLink "RoofRegatta$Told" 48 "RoofRegatta$Told" "sawBend" "[I" ∈ tb := tb_t1 86 (by decide +kernel) (by decide +kernel)
theorem tw_189 : Cond.fieldLink "RoofRegatta$Reade\x72" 221 "RoofRegatta$Told" "sawBend" "[I" ∈ tb := tb_t1 87 (by decide +kernel) (by decide +kernel)
theorem tw_190 : Cond.fieldLink "RoofRegatta$Race" 108 "RoofRegatta$Told" "sawBend" "[I" ∈ tb := tb_t1 88 (by decide +kernel) (by decide +kernel)
theorem tw_191 : Cond.laysFinal "RoofRegatta$Told" "RoofRegatta$Told" "sizes" "[I" ∈ tb := tb_t1 89 (by decide +kernel) (by decide +kernel)
theorem tw_193 : Cond.laysFinal "RoofRegatta$Told" "RoofRegatta$Told" "lengths" "[I" ∈ tb := tb_t1 91 (by decide +kernel) (by decide +kernel)
theorem tw_195 : Cond.laysFinal "RoofRegatta$Told" "RoofRegatta$Told" "insides" "[I" ∈ tb := tb_t1 93 (by decide +kernel) (by decide +kernel)
theorem tw_197 : Cond.laysFinal "RoofRegatta$Told" "RoofRegatta$Told" "kinds" "[I" ∈ tb := tb_t1 95 (by decide +kernel) (by decide +kernel)
theorem tw_199 : Cond.laysFinal "RoofRegatta$Told" "RoofRegatta$Told" "tiles" "[I" ∈ tb := tb_t1 97 (by decide +kernel) (by decide +kernel)
theorem tw_201 : Cond.laysFinal "RoofRegatta$Told" "RoofRegatta$Told" "storeys" "[I" ∈ tb := tb_t1 99 (by decide +kernel) (by decide +kernel)
theorem tw_203 : Cond.laysFinal "RoofRegatta$Told" "RoofRegatta$Told" "weighs" "[I" ∈ tb := tb_t1 101 (by decide +kernel) (by decide +kernel)
theorem tw_205 : Cond.laysFinal "RoofRegatta$Told" "RoofRegatta$Told" "rows" "[I" ∈ tb := tb_t1 103 (by decide +kernel) (by decide +kernel)
theorem tw_207 : Cond.laysFinal "RoofRegatta$Told" "RoofRegatta$Told" "pairs" "[I" ∈ tb := tb_t1 105 (by decide +kernel) (by decide +kernel)
theorem tw_209 : Cond.laysFinal "RoofRegatta$Told" "RoofRegatta$Told" "prizes" "[I" ∈ tb := tb_t1 107 (by decide +kernel) (by decide +kernel)
theorem tw_211 : Cond.laysFinal "RoofRegatta$Told" "RoofRegatta$Told" "sawFirst" "[I" ∈ tb := tb_t1 109 (by decide +kernel) (by decide +kernel)
theorem tw_213 : Cond.laysFinal "RoofRegatta$Told" "RoofRegatta$Told" "sawSecond" "[I" ∈ tb := tb_t1 111 (by decide +kernel) (by decide +kernel)
theorem tw_215 : Cond.laysFinal "RoofRegatta$Told" "RoofRegatta$Told" "sawBend" "[I" ∈ tb := tb_t1 113 (by decide +kernel) (by decide +kernel)
theorem tw_227 : Cond.fieldLink "RoofRegatta$Race" 15 "RoofRegatta$Race" "told" "LRoofRegatta$Told;" ∈ tb := tb_t1 125 (by decide +kernel) (by decide +kernel)
theorem tw_229 : Cond.fieldLink "RoofRegatta$Fires" 32 "RoofRegatta$Race" "told" "LRoofRegatta$Told;" ∈ tb := tb_t1 127 (by decide +kernel) (by decide +kernel)
theorem tw_230 : Cond.fieldLink "RoofRegatta$Standing" 32 "RoofRegatta$Race" "told" "LRoofRegatta$Told;" ∈ tb := tb_t1 128 (by decide +kernel) (by decide +kernel)
theorem tw_231 : Cond.fieldLink "RoofRegatta$Race" 9 "RoofRegatta$Race" "crews" "[I" ∈ tb := tb_t1 129 (by decide +kernel) (by decide +kernel)
theorem tw_232 : Cond.fieldLink "RoofRegatta$Loads" 74 "RoofRegatta$Race" "crews" "[I" ∈ tb := tb_t1 130 (by decide +kernel) (by decide +kernel)
theorem tw_233 : Cond.fieldLink "RoofRegatta" 162 "RoofRegatta$Race" "crews" "[I" ∈ tb := tb_t1 131 (by decide +kernel) (by decide +kernel)
theorem tw_234 : Cond.fieldLink "RoofRegatta$Race" 19 "RoofRegatta$Race" "wate\x72" "I" ∈ tb := tb_t1 132 (by decide +kernel) (by decide +kernel)
theorem tw_235 : Cond.fieldLink "RoofRegatta$Reade\x72" 151 "RoofRegatta$Race" "wate\x72" "I" ∈ tb := tb_t1 133 (by decide +kernel) (by decide +kernel)
theorem tw_236 : Cond.fieldLink "RoofRegatta" 265 "RoofRegatta$Race" "wate\x72" "I" ∈ tb := tb_t1 134 (by decide +kernel) (by decide +kernel)
theorem tw_237 : Cond.fieldLink "RoofRegatta$Race" 23 "RoofRegatta$Race" "rainy" "I" ∈ tb := tb_t1 135 (by decide +kernel) (by decide +kernel)
theorem tw_238 : Cond.fieldLink "RoofRegatta$Rain" 45 "RoofRegatta$Race" "rainy" "I" ∈ tb := tb_t1 136 (by decide +kernel) (by decide +kernel)
theorem tw_239 : Cond.fieldLink "RoofRegatta$Race" 26 "RoofRegatta$Race" "lit" "I" ∈ tb := tb_t1 137 (by decide +kernel) (by decide +kernel)
theorem tw_240 : Cond.fieldLink "RoofRegatta$Fires" 41 "RoofRegatta$Race" "lit" "I" ∈ tb := tb_t1 138 (by decide +kernel) (by decide +kernel)
theorem tw_241 : Cond.fieldLink "RoofRegatta$Standing" 41 "RoofRegatta$Race" "lit" "I" ∈ tb := tb_t1 139 (by decide +kernel) (by decide +kernel)
theorem tw_242 : Cond.fieldLink "RoofRegatta" 345 "RoofRegatta$Race" "lit" "I" ∈ tb := tb_t1 140 (by decide +kernel) (by decide +kernel)
theorem tw_243 : Cond.fieldLink "RoofRegatta$Race" 29 "RoofRegatta$Race" "lanes" "I" ∈ tb := tb_t1 141 (by decide +kernel) (by decide +kernel)
theorem tw_244 : Cond.fieldLink "RoofRegatta" 348 "RoofRegatta$Race" "lanes" "I" ∈ tb := tb_t1 142 (by decide +kernel) (by decide +kernel)
theorem tw_245 : Cond.laysFinal "RoofRegatta$Race" "RoofRegatta$Race" "told" "LRoofRegatta$Told;" ∈ tb := tb_t1 143 (by decide +kernel) (by decide +kernel)
theorem tw_247 : Cond.laysFinal "RoofRegatta$Race" "RoofRegatta$Race" "crews" "[I" ∈ tb := tb_t1 145 (by decide +kernel) (by decide +kernel)
theorem tw_249 : Cond.lays "RoofRegatta$Race" "RoofRegatta$Race" "wate\x72" "I" ∈ tb := tb_t1 147 (by decide +kernel) (by decide +kernel)
theorem tw_251 : Cond.lays "RoofRegatta$Race" "RoofRegatta$Race" "rainy" "I" ∈ tb := tb_t1 149 (by decide +kernel) (by decide +kernel)
theorem tw_253 : Cond.lays "RoofRegatta$Race" "RoofRegatta$Race" "lit" "I" ∈ tb := tb_t1 151 (by decide +kernel) (by decide +kernel)
theorem tw_255 : Cond.lays "RoofRegatta$Race" "RoofRegatta$Race" "lanes" "I" ∈ tb := tb_t1 153 (by decide +kernel) (by decide +kernel)
theorem tw_264 : Cond.fieldLink "RoofRegatta$Standing" 9 "RoofRegatta$Standing" "totals" "[I" ∈ tb := tb_t1 162 (by decide +kernel) (by decide +kernel)
theorem tw_265 : Cond.fieldLink "RoofRegatta$Rain" 66 "RoofRegatta$Standing" "totals" "[I" ∈ tb := tb_t1 163 (by decide +kernel) (by decide +kernel)
theorem tw_266 : Cond.fieldLink "RoofRegatta$Loads" 111 "RoofRegatta$Standing" "totals" "[I" ∈ tb := tb_t1 164 (by decide +kernel) (by decide +kernel)
theorem tw_267 : Cond.fieldLink "RoofRegatta$Standing" 19 "RoofRegatta$Standing" "houses" "I" ∈ tb := tb_t1 165 (by decide +kernel) (by decide +kernel)
theorem tw_268 : Cond.fieldLink "RoofRegatta$Standing" 44 "RoofRegatta$Standing" "lit" "I" ∈ tb := tb_t1 166 (by decide +kernel) (by decide +kernel)
theorem tw_269 : Cond.fieldLink "RoofRegatta$Standing" 45 "RoofRegatta$Standing" "first" "I" ∈ tb := tb_t1 167 (by decide +kernel) (by decide +kernel)
theorem tw_270 : Cond.fieldLink "RoofRegatta$Rain" 85 "RoofRegatta$Standing" "first" "I" ∈ tb := tb_t1 168 (by decide +kernel) (by decide +kernel)
theorem tw_271 : Cond.laysFinal "RoofRegatta$Standing" "RoofRegatta$Standing" "totals" "[I" ∈ tb := tb_t1 169 (by decide +kernel) (by decide +kernel)
theorem tw_273 : Cond.lays "RoofRegatta$Standing" "RoofRegatta$Standing" "houses" "I" ∈ tb := tb_t1 171 (by decide +kernel) (by decide +kernel)
theorem tw_275 : Cond.lays "RoofRegatta$Standing" "RoofRegatta$Standing" "lit" "I" ∈ tb := tb_t1 173 (by decide +kernel) (by decide +kernel)
theorem tw_277 : Cond.lays "RoofRegatta$Standing" "RoofRegatta$Standing" "first" "I" ∈ tb := tb_t1 175 (by decide +kernel) (by decide +kernel)
theorem tw_292 : Cond.fieldLink "RoofRegatta$Names" 9 "RoofRegatta$Names" "starts" "[I" ∈ tb := tb_t1 190 (by decide +kernel) (by decide +kernel)
theorem tw_293 : Cond.fieldLink "RoofRegatta$Names" 15 "RoofRegatta$Names" "ends" "[I" ∈ tb := tb_t1 191 (by decide +kernel) (by decide +kernel)
theorem tw_294 : Cond.fieldLink "RoofRegatta$Names" 18 "RoofRegatta$Names" "sorts" "[I" ∈ tb := tb_t1 192 (by decide +kernel) (by decide +kernel)
theorem tw_295 : Cond.fieldLink "RoofRegatta$Reade\x72" 247 "RoofRegatta$Names" "sorts" "[I" ∈ tb := tb_t1 193 (by decide +kernel) (by decide +kernel)
theorem tw_296 : Cond.fieldLink "RoofRegatta$Names" 21 "RoofRegatta$Names" "numbers" "[I" ∈ tb := tb_t1 194 (by decide +kernel) (by decide +kernel)
theorem tw_297 : Cond.fieldLink "RoofRegatta$Reade\x72" 250 "RoofRegatta$Names" "numbers" "[I" ∈ tb := tb_t1 195 (by decide +kernel) (by decide +kernel)
theorem tw_298 : Cond.fieldLink "RoofRegatta$Names" 24 "RoofRegatta$Names" "count" "I" ∈ tb := tb_t1 196 (by decide +kernel) (by decide +kernel)
theorem tw_299 : Cond.fieldLink "RoofRegatta$Reade\x72" 47 "RoofRegatta$Names" "count" "I" ∈ tb := tb_t1 197 (by decide +kernel) (by decide +kernel)
theorem tw_300 : Cond.laysFinal "RoofRegatta$Names" "RoofRegatta$Names" "starts" "[I" ∈ tb := tb_t1 198 (by decide +kernel) (by decide +kernel)
theorem tw_302 : Cond.laysFinal "RoofRegatta$Names" "RoofRegatta$Names" "ends" "[I" ∈ tb := tb_t1 200 (by decide +kernel) (by decide +kernel)
theorem tw_304 : Cond.laysFinal "RoofRegatta$Names" "RoofRegatta$Names" "sorts" "[I" ∈ tb := tb_t1 202 (by decide +kernel) (by decide +kernel)
theorem tw_306 : Cond.laysFinal "RoofRegatta$Names" "RoofRegatta$Names" "numbers" "[I" ∈ tb := tb_t1 204 (by decide +kernel) (by decide +kernel)
theorem tw_308 : Cond.lays "RoofRegatta$Names" "RoofRegatta$Names" "count" "I" ∈ tb := tb_t1 206 (by decide +kernel) (by decide +kernel)
theorem tw_321 : Cond.fieldLink "RoofRegatta$Tokens" 9 "RoofRegatta$Tokens" "text" "[B" ∈ tb := tb_t1 219 (by decide +kernel) (by decide +kernel)
theorem tw_322 : Cond.fieldLink "RoofRegatta$Tokens" 21 "RoofRegatta$Tokens" "end" "I" ∈ tb := tb_t1 220 (by decide +kernel) (by decide +kernel)
theorem tw_323 : Cond.fieldLink "RoofRegatta$Names" 28 "RoofRegatta$Tokens" "start" "I" ∈ tb := tb_t1 221 (by decide +kernel) (by decide +kernel)
theorem tw_324 : Cond.fieldLink "RoofRegatta$Tokens" 37 "RoofRegatta$Tokens" "start" "I" ∈ tb := tb_t1 222 (by decide +kernel) (by decide +kernel)
theorem tw_325 : Cond.fieldLink "RoofRegatta$Tokens" 25 "RoofRegatta$Tokens" "next" "I" ∈ tb := tb_t1 223 (by decide +kernel) (by decide +kernel)
theorem tw_326 : Cond.fieldLink "RoofRegatta$Names" 33 "RoofRegatta$Tokens" "next" "I" ∈ tb := tb_t1 224 (by decide +kernel) (by decide +kernel)
theorem tw_327 : Cond.fieldLink "RoofRegatta$Reade\x72" 65 "RoofRegatta$Tokens" "sort" "I" ∈ tb := tb_t1 225 (by decide +kernel) (by decide +kernel)
theorem tw_328 : Cond.fieldLink "RoofRegatta$Tokens" 44 "RoofRegatta$Tokens" "sort" "I" ∈ tb := tb_t1 226 (by decide +kernel) (by decide +kernel)
theorem tw_329 : Cond.fieldLink "RoofRegatta$Tokens" 28 "RoofRegatta$Tokens" "blamed" "I" ∈ tb := tb_t1 227 (by decide +kernel) (by decide +kernel)
theorem tw_330 : Cond.fieldLink "RoofRegatta$Reade\x72" 62 "RoofRegatta$Tokens" "blamed" "I" ∈ tb := tb_t1 228 (by decide +kernel) (by decide +kernel)
theorem tw_331 : Cond.fieldLink "RoofRegatta" 104 "RoofRegatta$Tokens" "blamed" "I" ∈ tb := tb_t1 229 (by decide +kernel) (by decide +kernel)
theorem tw_332 : Cond.fieldLink "RoofRegatta$Tokens" 31 "RoofRegatta$Tokens" "place" "I" ∈ tb := tb_t1 230 (by decide +kernel) (by decide +kernel)
theorem tw_333 : Cond.fieldLink "RoofRegatta" 112 "RoofRegatta$Tokens" "place" "I" ∈ tb := tb_t1 231 (by decide +kernel) (by decide +kernel)
theorem tw_334 : Cond.laysFinal "RoofRegatta$Tokens" "RoofRegatta$Tokens" "text" "[B" ∈ tb := tb_t1 232 (by decide +kernel) (by decide +kernel)
theorem tw_336 : Cond.lays "RoofRegatta$Tokens" "RoofRegatta$Tokens" "end" "I" ∈ tb := tb_t1 234 (by decide +kernel) (by decide +kernel)
theorem tw_338 : Cond.lays "RoofRegatta$Tokens" "RoofRegatta$Tokens" "start" "I" ∈ tb := tb_t1 236 (by decide +kernel) (by decide +kernel)
theorem tw_340 : Cond.lays "RoofRegatta$Tokens" "RoofRegatta$Tokens" "next" "I" ∈ tb := tb_t1 238 (by decide +kernel) (by decide +kernel)
theorem tw_342 : Cond.lays "RoofRegatta$Tokens" "RoofRegatta$Tokens" "sort" "I" ∈ tb := tb_t2 0 (by decide +kernel) (by decide +kernel)
theorem tw_344 : Cond.lays "RoofRegatta$Tokens" "RoofRegatta$Tokens" "blamed" "I" ∈ tb := tb_t2 2 (by decide +kernel) (by decide +kernel)
theorem tw_346 : Cond.lays "RoofRegatta$Tokens" "RoofRegatta$Tokens" "place" "I" ∈ tb := tb_t2 4 (by decide +kernel) (by decide +kernel)
theorem tw_349 : Cond.fieldLink "RoofRegatta$Reade\x72" 39 "RoofRegatta$Reade\x72" "token" "LRoofRegatta$Tokens;" ∈ tb := tb_t2 7 (by decide +kernel) (by decide +kernel)
theorem tw_350 : Cond.fieldLink "RoofRegatta" 100 "RoofRegatta$Reade\x72" "token" "LRoofRegatta$Tokens;" ∈ tb := tb_t2 8 (by decide +kernel) (by decide +kernel)
theorem tw_351 : Cond.fieldLink "RoofRegatta$Reade\x72" 12 "RoofRegatta$Reade\x72" "names" "LRoofRegatta$Names;" ∈ tb := tb_t2 9 (by decide +kernel) (by decide +kernel)
theorem tw_352 : Cond.fieldLink "RoofRegatta$Reade\x72" 21 "RoofRegatta$Reade\x72" "told" "LRoofRegatta$Told;" ∈ tb := tb_t2 10 (by decide +kernel) (by decide +kernel)
theorem tw_353 : Cond.fieldLink "RoofRegatta" 115 "RoofRegatta$Reade\x72" "told" "LRoofRegatta$Told;" ∈ tb := tb_t2 11 (by decide +kernel) (by decide +kernel)
theorem tw_354 : Cond.fieldLink "RoofRegatta$Reade\x72" 30 "RoofRegatta$Reade\x72" "start" "LRoofRegatta$Race;" ∈ tb := tb_t2 12 (by decide +kernel) (by decide +kernel)
theorem tw_355 : Cond.fieldLink "RoofRegatta" 119 "RoofRegatta$Reade\x72" "start" "LRoofRegatta$Race;" ∈ tb := tb_t2 13 (by decide +kernel) (by decide +kernel)
theorem tw_356 : Cond.fieldLink "RoofRegatta$Reade\x72" 51 "RoofRegatta$Reade\x72" "begun" "Z" ∈ tb := tb_t2 14 (by decide +kernel) (by decide +kernel)
theorem tw_357 : Cond.laysFinal "RoofRegatta$Reade\x72" "RoofRegatta$Reade\x72" "token" "LRoofRegatta$Tokens;" ∈ tb := tb_t2 15 (by decide +kernel) (by decide +kernel)
theorem tw_359 : Cond.laysFinal "RoofRegatta$Reade\x72" "RoofRegatta$Reade\x72" "names" "LRoofRegatta$Names;" ∈ tb := tb_t2 17 (by decide +kernel) (by decide +kernel)
theorem tw_361 : Cond.laysFinal "RoofRegatta$Reade\x72" "RoofRegatta$Reade\x72" "told" "LRoofRegatta$Told;" ∈ tb := tb_t2 19 (by decide +kernel) (by decide +kernel)
theorem tw_363 : Cond.laysFinal "RoofRegatta$Reade\x72" "RoofRegatta$Reade\x72" "start" "LRoofRegatta$Race;" ∈ tb := tb_t2 21 (by decide +kernel) (by decide +kernel)
theorem tw_365 : Cond.lays "RoofRegatta$Reade\x72" "RoofRegatta$Reade\x72" "begun" "Z" ∈ tb := tb_t2 23 (by decide +kernel) (by decide +kernel)
theorem tw_376 : Cond.fieldLink "RoofRegatta$Loads" 33 "RoofRegatta$Loads" "told" "LRoofRegatta$Told;" ∈ tb := tb_t2 34 (by decide +kernel) (by decide +kernel)
theorem tw_377 : Cond.fieldLink "RoofRegatta$Loads" 34 "RoofRegatta$Loads" "now" "LRoofRegatta$Race;" ∈ tb := tb_t2 35 (by decide +kernel) (by decide +kernel)
theorem tw_378 : Cond.fieldLink "RoofRegatta$Loads" 38 "RoofRegatta$Loads" "trial" "LRoofRegatta$Race;" ∈ tb := tb_t2 36 (by decide +kernel) (by decide +kernel)
theorem tw_379 : Cond.fieldLink "RoofRegatta$Loads" 41 "RoofRegatta$Loads" "standing" "LRoofRegatta$Standing;" ∈ tb := tb_t2 37 (by decide +kernel) (by decide +kernel)
theorem tw_380 : Cond.fieldLink "RoofRegatta$Loads" 11 "RoofRegatta$Loads" "totals" "[[I" ∈ tb := tb_t2 38 (by decide +kernel) (by decide +kernel)
theorem tw_381 : Cond.fieldLink "RoofRegatta$Loads" 16 "RoofRegatta$Loads" "tried" "[I" ∈ tb := tb_t2 39 (by decide +kernel) (by decide +kernel)
theorem tw_382 : Cond.fieldLink "RoofRegatta$Loads" 20 "RoofRegatta$Loads" "places" "[I" ∈ tb := tb_t2 40 (by decide +kernel) (by decide +kernel)
theorem tw_383 : Cond.fieldLink "RoofRegatta" 244 "RoofRegatta$Loads" "places" "[I" ∈ tb := tb_t2 41 (by decide +kernel) (by decide +kernel)
theorem tw_384 : Cond.fieldLink "RoofRegatta$Loads" 82 "RoofRegatta$Loads" "score" "I" ∈ tb := tb_t2 42 (by decide +kernel) (by decide +kernel)
theorem tw_385 : Cond.fieldLink "RoofRegatta" 241 "RoofRegatta$Loads" "score" "I" ∈ tb := tb_t2 43 (by decide +kernel) (by decide +kernel)
theorem tw_386 : Cond.fieldLink "RoofRegatta$Loads" 85 "RoofRegatta$Loads" "moves" "I" ∈ tb := tb_t2 44 (by decide +kernel) (by decide +kernel)
theorem tw_387 : Cond.fieldLink "RoofRegatta" 247 "RoofRegatta$Loads" "moves" "I" ∈ tb := tb_t2 45 (by decide +kernel) (by decide +kernel)
theorem tw_388 : Cond.fieldLink "RoofRegatta$Loads" 23 "RoofRegatta$Loads" "foundFo\x72" "I" ∈ tb := tb_t2 46 (by decide +kernel) (by decide +kernel)
theorem tw_389 : Cond.fieldLink "RoofRegatta$Loads" 45 "RoofRegatta$Loads" "foundIn" "J" ∈ tb := tb_t2 47 (by decide +kernel) (by decide +kernel)
theorem tw_390 : Cond.laysFinal "RoofRegatta$Loads" "RoofRegatta$Loads" "told" "LRoofRegatta$Told;" ∈ tb := tb_t2 48 (by decide +kernel) (by decide +kernel)
theorem tw_392 : Cond.laysFinal "RoofRegatta$Loads" "RoofRegatta$Loads" "now" "LRoofRegatta$Race;" ∈ tb := tb_t2 50 (by decide +kernel) (by decide +kernel)
theorem tw_394 : Cond.laysFinal "RoofRegatta$Loads" "RoofRegatta$Loads" "trial" "LRoofRegatta$Race;" ∈ tb := tb_t2 52 (by decide +kernel) (by decide +kernel)
theorem tw_396 : Cond.laysFinal "RoofRegatta$Loads" "RoofRegatta$Loads" "standing" "LRoofRegatta$Standing;" ∈ tb := tb_t2 54 (by decide +kernel) (by decide +kernel)
theorem tw_398 : Cond.laysFinal "RoofRegatta$Loads" "RoofRegatta$Loads" "totals" "[[I" ∈ tb := tb_t2 56 (by decide +kernel) (by decide +kernel)
theorem tw_400 : Cond.laysFinal "RoofRegatta$Loads" "RoofRegatta$Loads" "tried" "[I" ∈ tb := tb_t2 58 (by decide +kernel) (by decide +kernel)
theorem tw_402 : Cond.laysFinal "RoofRegatta$Loads" "RoofRegatta$Loads" "places" "[I" ∈ tb := tb_t2 60 (by decide +kernel) (by decide +kernel)
theorem tw_404 : Cond.lays "RoofRegatta$Loads" "RoofRegatta$Loads" "score" "I" ∈ tb := tb_t2 62 (by decide +kernel) (by decide +kernel)
theorem tw_406 : Cond.lays "RoofRegatta$Loads" "RoofRegatta$Loads" "moves" "I" ∈ tb := tb_t2 64 (by decide +kernel) (by decide +kernel)
theorem tw_408 : Cond.lays "RoofRegatta$Loads" "RoofRegatta$Loads" "foundFo\x72" "I" ∈ tb := tb_t2 66 (by decide +kernel) (by decide +kernel)
theorem tw_410 : Cond.lays "RoofRegatta$Loads" "RoofRegatta$Loads" "foundIn" "J" ∈ tb := tb_t2 68 (by decide +kernel) (by decide +kernel)
theorem tw_419 : Cond.fieldLink "RoofRegatta$Fires" 15 "RoofRegatta$Fires" "now" "LRoofRegatta$Race;" ∈ tb := tb_t2 77 (by decide +kernel) (by decide +kernel)
theorem tw_420 : Cond.fieldLink "RoofRegatta$Fires" 19 "RoofRegatta$Fires" "trial" "LRoofRegatta$Race;" ∈ tb := tb_t2 78 (by decide +kernel) (by decide +kernel)
theorem tw_421 : Cond.fieldLink "RoofRegatta$Fires" 9 "RoofRegatta$Fires" "sets" "[I" ∈ tb := tb_t2 79 (by decide +kernel) (by decide +kernel)
theorem tw_422 : Cond.fieldLink "RoofRegatta" 281 "RoofRegatta$Fires" "sets" "[I" ∈ tb := tb_t2 80 (by decide +kernel) (by decide +kernel)
theorem tw_423 : Cond.fieldLink "RoofRegatta$Fires" 28 "RoofRegatta$Fires" "count" "I" ∈ tb := tb_t2 81 (by decide +kernel) (by decide +kernel)
theorem tw_424 : Cond.fieldLink "RoofRegatta" 278 "RoofRegatta$Fires" "count" "I" ∈ tb := tb_t2 82 (by decide +kernel) (by decide +kernel)
theorem tw_425 : Cond.laysFinal "RoofRegatta$Fires" "RoofRegatta$Fires" "now" "LRoofRegatta$Race;" ∈ tb := tb_t2 83 (by decide +kernel) (by decide +kernel)
theorem tw_427 : Cond.laysFinal "RoofRegatta$Fires" "RoofRegatta$Fires" "trial" "LRoofRegatta$Race;" ∈ tb := tb_t2 85 (by decide +kernel) (by decide +kernel)
theorem tw_429 : Cond.laysFinal "RoofRegatta$Fires" "RoofRegatta$Fires" "sets" "[I" ∈ tb := tb_t2 87 (by decide +kernel) (by decide +kernel)
theorem tw_431 : Cond.lays "RoofRegatta$Fires" "RoofRegatta$Fires" "count" "I" ∈ tb := tb_t2 89 (by decide +kernel) (by decide +kernel)
theorem tw_440 : Cond.fieldLink "RoofRegatta$Rain" 21 "RoofRegatta$Rain" "told" "LRoofRegatta$Told;" ∈ tb := tb_t2 98 (by decide +kernel) (by decide +kernel)
theorem tw_441 : Cond.fieldLink "RoofRegatta$Rain" 22 "RoofRegatta$Rain" "now" "LRoofRegatta$Race;" ∈ tb := tb_t2 99 (by decide +kernel) (by decide +kernel)
theorem tw_442 : Cond.fieldLink "RoofRegatta$Rain" 26 "RoofRegatta$Rain" "trial" "LRoofRegatta$Race;" ∈ tb := tb_t2 100 (by decide +kernel) (by decide +kernel)
theorem tw_443 : Cond.fieldLink "RoofRegatta$Rain" 29 "RoofRegatta$Rain" "standing" "LRoofRegatta$Standing;" ∈ tb := tb_t2 101 (by decide +kernel) (by decide +kernel)
theorem tw_444 : Cond.fieldLink "RoofRegatta$Rain" 33 "RoofRegatta$Rain" "uppe\x72" "J" ∈ tb := tb_t2 102 (by decide +kernel) (by decide +kernel)
theorem tw_445 : Cond.fieldLink "RoofRegatta$Rain" 9 "RoofRegatta$Rain" "lowe\x72" "J" ∈ tb := tb_t2 103 (by decide +kernel) (by decide +kernel)
theorem tw_446 : Cond.fieldLink "RoofRegatta$Rain" 94 "RoofRegatta$Rain" "seed" "I" ∈ tb := tb_t2 104 (by decide +kernel) (by decide +kernel)
theorem tw_447 : Cond.laysFinal "RoofRegatta$Rain" "RoofRegatta$Rain" "told" "LRoofRegatta$Told;" ∈ tb := tb_t2 105 (by decide +kernel) (by decide +kernel)
theorem tw_449 : Cond.laysFinal "RoofRegatta$Rain" "RoofRegatta$Rain" "now" "LRoofRegatta$Race;" ∈ tb := tb_t2 107 (by decide +kernel) (by decide +kernel)
theorem tw_451 : Cond.laysFinal "RoofRegatta$Rain" "RoofRegatta$Rain" "trial" "LRoofRegatta$Race;" ∈ tb := tb_t2 109 (by decide +kernel) (by decide +kernel)
theorem tw_453 : Cond.laysFinal "RoofRegatta$Rain" "RoofRegatta$Rain" "standing" "LRoofRegatta$Standing;" ∈ tb := tb_t2 111 (by decide +kernel) (by decide +kernel)
theorem tw_455 : Cond.lays "RoofRegatta$Rain" "RoofRegatta$Rain" "uppe\x72" "J" ∈ tb := tb_t2 113 (by decide +kernel) (by decide +kernel)
theorem tw_457 : Cond.lays "RoofRegatta$Rain" "RoofRegatta$Rain" "lowe\x72" "J" ∈ tb := tb_t2 115 (by decide +kernel) (by decide +kernel)
theorem tw_459 : Cond.lays "RoofRegatta$Rain" "RoofRegatta$Rain" "seed" "I" ∈ tb := tb_t2 117 (by decide +kernel) (by decide +kernel)
theorem tw_468 : Cond.fieldLink "RoofRegatta$Kept" 18 "RoofRegatta$Kept" "now" "LRoofRegatta$Race;" ∈ tb := tb_t2 126 (by decide +kernel) (by decide +kernel)
theorem tw_469 : Cond.fieldLink "RoofRegatta$Kept" 9 "RoofRegatta$Kept" "before" "[J" ∈ tb := tb_t2 127 (by decide +kernel) (by decide +kernel)
theorem tw_470 : Cond.fieldLink "RoofRegatta$Kept" 15 "RoofRegatta$Kept" "pictures" "[J" ∈ tb := tb_t2 128 (by decide +kernel) (by decide +kernel)
theorem tw_471 : Cond.fieldLink "RoofRegatta$Kept" 22 "RoofRegatta$Kept" "acts" "I" ∈ tb := tb_t2 129 (by decide +kernel) (by decide +kernel)
theorem tw_472 : Cond.fieldLink "RoofRegatta" 351 "RoofRegatta$Kept" "acts" "I" ∈ tb := tb_t2 130 (by decide +kernel) (by decide +kernel)
theorem tw_473 : Cond.fieldLink "RoofRegatta$Kept" 26 "RoofRegatta$Kept" "images" "I" ∈ tb := tb_t2 131 (by decide +kernel) (by decide +kernel)
theorem tw_474 : Cond.fieldLink "RoofRegatta" 357 "RoofRegatta$Kept" "images" "I" ∈ tb := tb_t2 132 (by decide +kernel) (by decide +kernel)
theorem tw_475 : Cond.laysFinal "RoofRegatta$Kept" "RoofRegatta$Kept" "now" "LRoofRegatta$Race;" ∈ tb := tb_t2 133 (by decide +kernel) (by decide +kernel)
theorem tw_477 : Cond.laysFinal "RoofRegatta$Kept" "RoofRegatta$Kept" "before" "[J" ∈ tb := tb_t2 135 (by decide +kernel) (by decide +kernel)
theorem tw_479 : Cond.laysFinal "RoofRegatta$Kept" "RoofRegatta$Kept" "pictures" "[J" ∈ tb := tb_t2 137 (by decide +kernel) (by decide +kernel)
theorem tw_481 : Cond.lays "RoofRegatta$Kept" "RoofRegatta$Kept" "acts" "I" ∈ tb := tb_t2 139 (by decide +kernel) (by decide +kernel)
theorem tw_483 : Cond.lays "RoofRegatta$Kept" "RoofRegatta$Kept" "images" "I" ∈ tb := tb_t2 141 (by decide +kernel) (by decide +kernel)
theorem tw_487 : Cond.fieldLink "RoofRegatta" 9 "RoofRegatta" "tape" "[B" ∈ tb := tb_t2 145 (by decide +kernel) (by decide +kernel)
theorem tw_488 : Cond.fieldLink "RoofRegatta" 86 "RoofRegatta" "taped" "I" ∈ tb := tb_t2 146 (by decide +kernel) (by decide +kernel)
theorem tw_489 : Cond.fieldLink "RoofRegatta" 16 "RoofRegatta" "told" "LRoofRegatta$Told;" ∈ tb := tb_t2 147 (by decide +kernel) (by decide +kernel)
theorem tw_490 : Cond.fieldLink "RoofRegatta" 25 "RoofRegatta" "now" "LRoofRegatta$Race;" ∈ tb := tb_t2 148 (by decide +kernel) (by decide +kernel)
theorem tw_491 : Cond.fieldLink "RoofRegatta" 29 "RoofRegatta" "trial" "LRoofRegatta$Race;" ∈ tb := tb_t2 149 (by decide +kernel) (by decide +kernel)
theorem tw_492 : Cond.fieldLink "RoofRegatta" 35 "RoofRegatta" "standing" "LRoofRegatta$Standing;" ∈ tb := tb_t2 150 (by decide +kernel) (by decide +kernel)
theorem tw_493 : Cond.fieldLink "RoofRegatta" 44 "RoofRegatta" "reade\x72" "LRoofRegatta$Reader;" ∈ tb := tb_t2 151 (by decide +kernel) (by decide +kernel)
theorem tw_494 : Cond.fieldLink "RoofRegatta" 53 "RoofRegatta" "loads" "LRoofRegatta$Loads;" ∈ tb := tb_t2 152 (by decide +kernel) (by decide +kernel)
theorem tw_495 : Cond.fieldLink "RoofRegatta" 62 "RoofRegatta" "fireSets" "LRoofRegatta$Fires;" ∈ tb := tb_t2 153 (by decide +kernel) (by decide +kernel)
theorem tw_496 : Cond.fieldLink "RoofRegatta" 69 "RoofRegatta" "rain" "LRoofRegatta$Rain;" ∈ tb := tb_t2 154 (by decide +kernel) (by decide +kernel)
theorem tw_497 : Cond.fieldLink "RoofRegatta" 78 "RoofRegatta" "kept" "LRoofRegatta$Kept;" ∈ tb := tb_t2 155 (by decide +kernel) (by decide +kernel)
theorem tw_498 : Cond.fieldLink "RoofRegatta" 109 "RoofRegatta" "lastFault" "I" ∈ tb := tb_t2 156 (by decide +kernel) (by decide +kernel)
theorem tw_499 : Cond.fieldLink "RoofRegatta" 82 "RoofRegatta" "lastPlace" "I" ∈ tb := tb_t2 157 (by decide +kernel) (by decide +kernel)
theorem tw_500 : Cond.fieldLink "RoofRegatta" 137 "RoofRegatta" "lastTrouble" "I" ∈ tb := tb_t2 158 (by decide +kernel) (by decide +kernel)
theorem tw_501 : Cond.laysFinal "RoofRegatta" "RoofRegatta" "tape" "[B" ∈ tb := tb_t2 159 (by decide +kernel) (by decide +kernel)
theorem tw_503 : Cond.lays "RoofRegatta" "RoofRegatta" "taped" "I" ∈ tb := tb_t2 161 (by decide +kernel) (by decide +kernel)
theorem tw_505 : Cond.laysFinal "RoofRegatta" "RoofRegatta" "told" "LRoofRegatta$Told;" ∈ tb := tb_t2 163 (by decide +kernel) (by decide +kernel)
theorem tw_507 : Cond.laysFinal "RoofRegatta" "RoofRegatta" "now" "LRoofRegatta$Race;" ∈ tb := tb_t2 165 (by decide +kernel) (by decide +kernel)
theorem tw_509 : Cond.laysFinal "RoofRegatta" "RoofRegatta" "trial" "LRoofRegatta$Race;" ∈ tb := tb_t2 167 (by decide +kernel) (by decide +kernel)
theorem tw_511 : Cond.laysFinal "RoofRegatta" "RoofRegatta" "standing" "LRoofRegatta$Standing;" ∈ tb := tb_t2 169 (by decide +kernel) (by decide +kernel)
theorem tw_513 : Cond.laysFinal "RoofRegatta" "RoofRegatta" "reade\x72" "LRoofRegatta$Reader;" ∈ tb := tb_t2 171 (by decide +kernel) (by decide +kernel)
theorem tw_515 : Cond.laysFinal "RoofRegatta" "RoofRegatta" "loads" "LRoofRegatta$Loads;" ∈ tb := tb_t2 173 (by decide +kernel) (by decide +kernel)
theorem tw_517 : Cond.laysFinal "RoofRegatta" "RoofRegatta" "fireSets" "LRoofRegatta$Fires;" ∈ tb := tb_t2 175 (by decide +kernel) (by decide +kernel)
theorem tw_519 : Cond.laysFinal "RoofRegatta" "RoofRegatta" "rain" "LRoofRegatta$Rain;" ∈ tb := tb_t2 177 (by decide +kernel) (by decide +kernel)
theorem tw_521 : Cond.laysFinal "RoofRegatta" "RoofRegatta" "kept" "LRoofRegatta$Kept;" ∈ tb := tb_t2 179 (by decide +kernel) (by decide +kernel)
theorem tw_523 : Cond.lays "RoofRegatta" "RoofRegatta" "lastFault" "I" ∈ tb := tb_t2 181 (by decide +kernel) (by decide +kernel)
theorem tw_525 : Cond.lays "RoofRegatta" "RoofRegatta" "lastPlace" "I" ∈ tb := tb_t2 183 (by decide +kernel) (by decide +kernel)
theorem tw_527 : Cond.lays "RoofRegatta" "RoofRegatta" "lastTrouble" "I" ∈ tb := tb_t2 185 (by decide +kernel) (by decide +kernel)
theorem tw_530 : Cond.methodLink "RoofRegattaLaw" 19 (⟨"RoofRegatta", "feed", "(IIIII)I"⟩ : MethodName) ∈ tb := tb_t2 188 (by decide +kernel) (by decide +kernel)
theorem tw_531 : Cond.instanceMethod (⟨"RoofRegatta", "feed", "(IIIII)I"⟩ : MethodName) ∈ tb := tb_t2 189 (by decide +kernel) (by decide +kernel)
theorem tw_532 : Cond.selects "RoofRegatta" (⟨"RoofRegatta", "feed", "(IIIII)I"⟩ : MethodName) (⟨"RoofRegatta", "feed", "(IIIII)I"⟩ : MethodName) ∈ tb := tb_t2 190 (by decide +kernel) (by decide +kernel)
set_option maxRecDepth 100000 in
theorem tw_533 : Cond.code (⟨"RoofRegatta", "feed", "(IIIII)I"⟩ : MethodName) prog_1_method_2_code 6 (some .int) ∈ tb := tb_t2 191 rfl rfl
theorem tw_534 : Cond.methodLink "RoofRegatta" 89 (⟨"RoofRegatta", "tapeNumbe\x72", "(I)V"⟩ : MethodName) ∈ tb := tb_t2 192 (by decide +kernel) (by decide +kernel)
theorem tw_536 : Cond.instanceMethod (⟨"RoofRegatta", "tapeNumbe\x72", "(I)V"⟩ : MethodName) ∈ tb := tb_t2 194 (by decide +kernel) (by decide +kernel)
set_option maxRecDepth 100000 in
theorem tw_537 : Cond.code (⟨"RoofRegatta", "tapeNumbe\x72", "(I)V"⟩ : MethodName) prog_1_method_3_code 3 (none : Option Jvm.ClassFile.FieldType) ∈ tb := tb_t2 195 rfl rfl
theorem tw_538 : Cond.methodLink "RoofRegattaLaw" 24 (⟨"RoofRegatta", "regatta", "(I)I"⟩ : MethodName) ∈ tb := tb_t2 196 (by decide +kernel) (by decide +kernel)
theorem tw_539 : Cond.instanceMethod (⟨"RoofRegatta", "regatta", "(I)I"⟩ : MethodName) ∈ tb := tb_t2 197 (by decide +kernel) (by decide +kernel)
theorem tw_540 : Cond.selects "RoofRegatta" (⟨"RoofRegatta", "regatta", "(I)I"⟩ : MethodName) (⟨"RoofRegatta", "regatta", "(I)I"⟩ : MethodName) ∈ tb := tb_t2 198 (by decide +kernel) (by decide +kernel)
set_option maxRecDepth 100000 in
theorem tw_541 : Cond.code (⟨"RoofRegatta", "regatta", "(I)I"⟩ : MethodName) prog_1_method_4_code 2 (some .int) ∈ tb := tb_t2 199 rfl rfl
theorem tw_542 : Cond.methodLink "RoofRegatta" 93 (⟨"RoofRegatta", "refused", "(I)I"⟩ : MethodName) ∈ tb := tb_t2 200 (by decide +kernel) (by decide +kernel)
theorem tw_544 : Cond.instanceMethod (⟨"RoofRegatta", "refused", "(I)I"⟩ : MethodName) ∈ tb := tb_t2 202 (by decide +kernel) (by decide +kernel)
set_option maxRecDepth 100000 in
theorem tw_545 : Cond.code (⟨"RoofRegatta", "refused", "(I)I"⟩ : MethodName) prog_1_method_66_code 2 (some .int) ∈ tb := tb_t2 203 rfl rfl
theorem tw_546 : Cond.methodLink "RoofRegatta" 97 (⟨"RoofRegatta$Reade\x72", "read", "(I)V"⟩ : MethodName) ∈ tb := tb_t2 204 (by decide +kernel) (by decide +kernel)
theorem tw_547 : Cond.instanceMethod (⟨"RoofRegatta$Reade\x72", "read", "(I)V"⟩ : MethodName) ∈ tb := tb_t2 205 (by decide +kernel) (by decide +kernel)
theorem tw_548 : Cond.selects "RoofRegatta$Reade\x72" (⟨"RoofRegatta$Reade\x72", "read", "(I)V"⟩ : MethodName) (⟨"RoofRegatta$Reade\x72", "read", "(I)V"⟩ : MethodName) ∈ tb := tb_t2 206 (by decide +kernel) (by decide +kernel)
set_option maxRecDepth 100000 in
theorem tw_549 : Cond.code (⟨"RoofRegatta$Reade\x72", "read", "(I)V"⟩ : MethodName) prog_8_method_2_code 3 (none : Option Jvm.ClassFile.FieldType) ∈ tb := tb_t2 207 rfl rfl
theorem tw_550 : Cond.methodLink "RoofRegatta$Reade\x72" 43 (⟨"RoofRegatta$Told", "clea\x72", "()V"⟩ : MethodName) ∈ tb := tb_t2 208 (by decide +kernel) (by decide +kernel)
theorem tw_551 : Cond.instanceMethod (⟨"RoofRegatta$Told", "clea\x72", "()V"⟩ : MethodName) ∈ tb := tb_t2 209 (by decide +kernel) (by decide +kernel)
theorem tw_552 : Cond.selects "RoofRegatta$Told" (⟨"RoofRegatta$Told", "clea\x72", "()V"⟩ : MethodName) (⟨"RoofRegatta$Told", "clea\x72", "()V"⟩ : MethodName) ∈ tb := tb_t2 210 (by decide +kernel) (by decide +kernel)
set_option maxRecDepth 100000 in
theorem tw_553 : Cond.code (⟨"RoofRegatta$Told", "clea\x72", "()V"⟩ : MethodName) prog_11_method_2_code 2 (none : Option Jvm.ClassFile.FieldType) ∈ tb := tb_t2 211 rfl rfl
theorem tw_554 : Cond.methodLink "RoofRegatta$Reade\x72" 46 (⟨"RoofRegatta$Race", "clea\x72", "()V"⟩ : MethodName) ∈ tb := tb_t2 212 (by decide +kernel) (by decide +kernel)
theorem tw_555 : Cond.instanceMethod (⟨"RoofRegatta$Race", "clea\x72", "()V"⟩ : MethodName) ∈ tb := tb_t2 213 (by decide +kernel) (by decide +kernel)
theorem tw_556 : Cond.selects "RoofRegatta$Race" (⟨"RoofRegatta$Race", "clea\x72", "()V"⟩ : MethodName) (⟨"RoofRegatta$Race", "clea\x72", "()V"⟩ : MethodName) ∈ tb := tb_t2 214 (by decide +kernel) (by decide +kernel)
set_option maxRecDepth 100000 in
theorem tw_557 : Cond.code (⟨"RoofRegatta$Race", "clea\x72", "()V"⟩ : MethodName) prog_6_method_2_code 2 (none : Option Jvm.ClassFile.FieldType) ∈ tb := tb_t2 215 rfl rfl
theorem tw_558 : Cond.methodLink "RoofRegatta$Reade\x72" 55 (⟨"RoofRegatta$Tokens", "begin", "(I)V"⟩ : MethodName) ∈ tb := tb_t2 216 (by decide +kernel) (by decide +kernel)
theorem tw_559 : Cond.instanceMethod (⟨"RoofRegatta$Tokens", "begin", "(I)V"⟩ : MethodName) ∈ tb := tb_t2 217 (by decide +kernel) (by decide +kernel)
theorem tw_560 : Cond.selects "RoofRegatta$Tokens" (⟨"RoofRegatta$Tokens", "begin", "(I)V"⟩ : MethodName) (⟨"RoofRegatta$Tokens", "begin", "(I)V"⟩ : MethodName) ∈ tb := tb_t2 218 (by decide +kernel) (by decide +kernel)
set_option maxRecDepth 100000 in
theorem tw_561 : Cond.code (⟨"RoofRegatta$Tokens", "begin", "(I)V"⟩ : MethodName) prog_10_method_2_code 2 (none : Option Jvm.ClassFile.FieldType) ∈ tb := tb_t2 219 rfl rfl
theorem tw_562 : Cond.methodLink "RoofRegatta$Tokens" 15 (⟨"java/lang/Math", "min", "(II)I"⟩ : MethodName) ∈ tb := tb_t2 220 (by decide +kernel) (by decide +kernel)
theorem tw_563 : Cond.static (⟨"java/lang/Math", "min", "(II)I"⟩ : MethodName) ∈ tb := tb_t2 221 (by decide +kernel) (by decide +kernel)
set_option maxRecDepth 100000 in
theorem tw_564 : Cond.code (⟨"java/lang/Math", "min", "(II)I"⟩ : MethodName) prog_19_method_69_code 2 (some .int) ∈ tb := tb_t2 222 rfl rfl
theorem tw_565 : Cond.methodLink "RoofRegatta$Tokens" 34 (⟨"RoofRegatta$Tokens", "step", "()V"⟩ : MethodName) ∈ tb := tb_t2 223 (by decide +kernel) (by decide +kernel)
theorem tw_566 : Cond.instanceMethod (⟨"RoofRegatta$Tokens", "step", "()V"⟩ : MethodName) ∈ tb := tb_t2 224 (by decide +kernel) (by decide +kernel)
theorem tw_567 : Cond.selects "RoofRegatta$Tokens" (⟨"RoofRegatta$Tokens", "step", "()V"⟩ : MethodName) (⟨"RoofRegatta$Tokens", "step", "()V"⟩ : MethodName) ∈ tb := tb_t2 225 (by decide +kernel) (by decide +kernel)
set_option maxRecDepth 100000 in
theorem tw_568 : Cond.code (⟨"RoofRegatta$Tokens", "step", "()V"⟩ : MethodName) prog_10_method_4_code 1 (none : Option Jvm.ClassFile.FieldType) ∈ tb := tb_t2 226 rfl rfl
theorem tw_569 : Cond.methodLink "RoofRegatta$Tokens" 40 (⟨"RoofRegatta$Tokens", "sortOf", "(B)I"⟩ : MethodName) ∈ tb := tb_t2 227 (by decide +kernel) (by decide +kernel)
theorem tw_570 : Cond.static (⟨"RoofRegatta$Tokens", "sortOf", "(B)I"⟩ : MethodName) ∈ tb := tb_t2 228 (by decide +kernel) (by decide +kernel)
set_option maxRecDepth 100000 in
theorem tw_571 : Cond.code (⟨"RoofRegatta$Tokens", "sortOf", "(B)I"⟩ : MethodName) prog_10_method_5_code 1 (some .int) ∈ tb := tb_t2 229 rfl rfl
theorem tw_572 : Cond.methodLink "RoofRegatta$Reade\x72" 59 (⟨"RoofRegatta$Reade\x72", "readLine", "()V"⟩ : MethodName) ∈ tb := tb_t2 230 (by decide +kernel) (by decide +kernel)
theorem tw_574 : Cond.instanceMethod (⟨"RoofRegatta$Reade\x72", "readLine", "()V"⟩ : MethodName) ∈ tb := tb_t2 232 (by decide +kernel) (by decide +kernel)
set_option maxRecDepth 100000 in
theorem tw_575 : Cond.code (⟨"RoofRegatta$Reade\x72", "readLine", "()V"⟩ : MethodName) prog_8_method_3_code 3 (none : Option Jvm.ClassFile.FieldType) ∈ tb := tb_t2 233 rfl rfl
theorem tw_576 : Cond.methodLink "RoofRegatta$Reade\x72" 78 (⟨"RoofRegatta$Reade\x72", "sortOfLine", "()I"⟩ : MethodName) ∈ tb := tb_t2 234 (by decide +kernel) (by decide +kernel)
theorem tw_578 : Cond.instanceMethod (⟨"RoofRegatta$Reade\x72", "sortOfLine", "()I"⟩ : MethodName) ∈ tb := tb_t2 236 (by decide +kernel) (by decide +kernel)
set_option maxRecDepth 100000 in
theorem tw_579 : Cond.code (⟨"RoofRegatta$Reade\x72", "sortOfLine", "()I"⟩ : MethodName) prog_8_method_4_code 1 (some .int) ∈ tb := tb_t2 237 rfl rfl
theorem tw_581 : Cond.methodLink "RoofRegatta$Reade\x72" 112 (⟨"RoofRegatta$Tokens", "is", "(Ljava/lang/String;)Z"⟩ : MethodName) ∈ tb := tb_t2 239 (by decide +kernel) (by decide +kernel)
theorem tw_582 : Cond.instanceMethod (⟨"RoofRegatta$Tokens", "is", "(Ljava/lang/String;)Z"⟩ : MethodName) ∈ tb := tb_t3 0 (by decide +kernel) (by decide +kernel)
theorem tw_583 : Cond.selects "RoofRegatta$Tokens" (⟨"RoofRegatta$Tokens", "is", "(Ljava/lang/String;)Z"⟩ : MethodName) (⟨"RoofRegatta$Tokens", "is", "(Ljava/lang/String;)Z"⟩ : MethodName) ∈ tb := tb_t3 1 (by decide +kernel) (by decide +kernel)
set_option maxRecDepth 100000 in
theorem tw_584 : Cond.code (⟨"RoofRegatta$Tokens", "is", "(Ljava/lang/String;)Z"⟩ : MethodName) prog_10_method_6_code 3 (some .boolean) ∈ tb := tb_t3 2 rfl rfl
theorem tw_585 : Cond.methodLink "RoofRegatta$Tokens" 47 (⟨"java/lang/String", "length", "()I"⟩ : MethodName) ∈ tb := tb_t3 3 (by decide +kernel) (by decide +kernel)
theorem tw_586 : Cond.instanceMethod (⟨"java/lang/String", "length", "()I"⟩ : MethodName) ∈ tb := tb_t3 4 (by decide +kernel) (by decide +kernel)
theorem tw_587 : Cond.selects "java/lang/String" (⟨"java/lang/String", "length", "()I"⟩ : MethodName) (⟨"java/lang/String", "length", "()I"⟩ : MethodName) ∈ tb := tb_t3 5 (by decide +kernel) (by decide +kernel)
set_option maxRecDepth 100000 in
theorem tw_588 : Cond.code (⟨"java/lang/String", "length", "()I"⟩ : MethodName) prog_21_method_54_code 1 (some .int) ∈ tb := tb_t3 6 rfl rfl
theorem tw_589 : Cond.methodLink "java/lang/String" 335 (⟨"java/lang/String", "code\x72", "()B"⟩ : MethodName) ∈ tb := tb_t3 7 (by decide +kernel) (by decide +kernel)
theorem tw_590 : Cond.instanceMethod (⟨"java/lang/String", "code\x72", "()B"⟩ : MethodName) ∈ tb := tb_t3 8 (by decide +kernel) (by decide +kernel)
theorem tw_591 : Cond.selects "java/lang/String" (⟨"java/lang/String", "code\x72", "()B"⟩ : MethodName) (⟨"java/lang/String", "code\x72", "()B"⟩ : MethodName) ∈ tb := tb_t3 9 (by decide +kernel) (by decide +kernel)
set_option maxRecDepth 100000 in
theorem tw_592 : Cond.code (⟨"java/lang/String", "code\x72", "()B"⟩ : MethodName) prog_21_method_152_code 1 (some .byte) ∈ tb := tb_t3 10 rfl rfl
theorem tw_593 : Cond.fieldLink "java/lang/String" 38 "java/lang/String" "COMPACT_STRINGS" "Z" ∈ tb := tb_t3 11 (by decide +kernel) (by decide +kernel)
theorem tw_595 : Cond.methodLink "RoofRegatta$Tokens" 53 (⟨"java/lang/String", "charAt", "(I)C"⟩ : MethodName) ∈ tb := tb_t3 13 (by decide +kernel) (by decide +kernel)
theorem tw_596 : Cond.instanceMethod (⟨"java/lang/String", "charAt", "(I)C"⟩ : MethodName) ∈ tb := tb_t3 14 (by decide +kernel) (by decide +kernel)
theorem tw_597 : Cond.selects "java/lang/String" (⟨"java/lang/String", "charAt", "(I)C"⟩ : MethodName) (⟨"java/lang/String", "charAt", "(I)C"⟩ : MethodName) ∈ tb := tb_t3 15 (by decide +kernel) (by decide +kernel)
set_option maxRecDepth 100000 in
theorem tw_598 : Cond.code (⟨"java/lang/String", "charAt", "(I)C"⟩ : MethodName) prog_21_method_56_code 2 (some .char) ∈ tb := tb_t3 16 rfl rfl
theorem tw_599 : Cond.methodLink "java/lang/String" 492 (⟨"java/lang/String", "isLatin1", "()Z"⟩ : MethodName) ∈ tb := tb_t3 17 (by decide +kernel) (by decide +kernel)
theorem tw_600 : Cond.instanceMethod (⟨"java/lang/String", "isLatin1", "()Z"⟩ : MethodName) ∈ tb := tb_t3 18 (by decide +kernel) (by decide +kernel)
theorem tw_601 : Cond.selects "java/lang/String" (⟨"java/lang/String", "isLatin1", "()Z"⟩ : MethodName) (⟨"java/lang/String", "isLatin1", "()Z"⟩ : MethodName) ∈ tb := tb_t3 19 (by decide +kernel) (by decide +kernel)
set_option maxRecDepth 100000 in
theorem tw_602 : Cond.code (⟨"java/lang/String", "isLatin1", "()Z"⟩ : MethodName) prog_21_method_154_code 1 (some .boolean) ∈ tb := tb_t3 20 rfl rfl
theorem tw_603 : Cond.methodLink "java/lang/String" 495 (⟨"java/lang/StringLatin1", "charAt", "([BI)C"⟩ : MethodName) ∈ tb := tb_t3 21 (by decide +kernel) (by decide +kernel)
theorem tw_604 : Cond.static (⟨"java/lang/StringLatin1", "charAt", "([BI)C"⟩ : MethodName) ∈ tb := tb_t3 22 (by decide +kernel) (by decide +kernel)
set_option maxRecDepth 100000 in
theorem tw_605 : Cond.code (⟨"java/lang/StringLatin1", "charAt", "([BI)C"⟩ : MethodName) prog_22_method_2_code 2 (some .char) ∈ tb := tb_t3 23 rfl rfl
theorem tw_606 : Cond.methodLink "java/lang/StringLatin1" 9 (⟨"java/lang/String", "checkIndex", "(II)V"⟩ : MethodName) ∈ tb := tb_t3 24 (by decide +kernel) (by decide +kernel)
theorem tw_607 : Cond.static (⟨"java/lang/String", "checkIndex", "(II)V"⟩ : MethodName) ∈ tb := tb_t3 25 (by decide +kernel) (by decide +kernel)
set_option maxRecDepth 100000 in
theorem tw_608 : Cond.code (⟨"java/lang/String", "checkIndex", "(II)V"⟩ : MethodName) prog_21_method_155_code 2 (none : Option Jvm.ClassFile.FieldType) ∈ tb := tb_t3 26 rfl rfl
theorem tw_609 : Cond.fieldLink "java/lang/String" 1053 "jdk/internal/util/Preconditions" "SIOOBE_FORMATTER" "Ljava/util/function/BiFunction;" ∈ tb := tb_t3 27 (by decide +kernel) (by decide +kernel)
theorem tw_611 : Cond.methodLink "java/lang/String" 1059 (⟨"jdk/internal/util/Preconditions", "checkIndex", "(IILjava/util/function/BiFunction;)I"⟩ : MethodName) ∈ tb := tb_t3 29 (by decide +kernel) (by decide +kernel)
theorem tw_612 : Cond.static (⟨"jdk/internal/util/Preconditions", "checkIndex", "(IILjava/util/function/BiFunction;)I"⟩ : MethodName) ∈ tb := tb_t3 30 (by decide +kernel) (by decide +kernel)
set_option maxRecDepth 100000 in
theorem tw_613 : Cond.code (⟨"jdk/internal/util/Preconditions", "checkIndex", "(IILjava/util/function/BiFunction;)I"⟩ : MethodName) prog_29_method_11_code 3 (some .int) ∈ tb := tb_t3 31 rfl rfl
theorem tw_640 : Cond.methodLink "RoofRegatta$Reade\x72" 82 (⟨"RoofRegatta$Reade\x72", "faultOfLine", "(I)I"⟩ : MethodName) ∈ tb := tb_t3 58 (by decide +kernel) (by decide +kernel)
theorem tw_642 : Cond.instanceMethod (⟨"RoofRegatta$Reade\x72", "faultOfLine", "(I)I"⟩ : MethodName) ∈ tb := tb_t3 60 (by decide +kernel) (by decide +kernel)
set_option maxRecDepth 100000 in
theorem tw_643 : Cond.code (⟨"RoofRegatta$Reade\x72", "faultOfLine", "(I)I"⟩ : MethodName) prog_8_method_5_code 2 (some .int) ∈ tb := tb_t3 61 rfl rfl
theorem tw_644 : Cond.methodLink "RoofRegatta$Reade\x72" 130 (⟨"RoofRegatta$Reade\x72", "roomFo\x72", "(I)I"⟩ : MethodName) ∈ tb := tb_t3 62 (by decide +kernel) (by decide +kernel)
theorem tw_645 : Cond.static (⟨"RoofRegatta$Reade\x72", "roomFo\x72", "(I)I"⟩ : MethodName) ∈ tb := tb_t3 63 (by decide +kernel) (by decide +kernel)
set_option maxRecDepth 100000 in
theorem tw_646 : Cond.code (⟨"RoofRegatta$Reade\x72", "roomFo\x72", "(I)I"⟩ : MethodName) prog_8_method_6_code 1 (some .int) ∈ tb := tb_t3 64 rfl rfl
theorem tw_647 : Cond.methodLink "RoofRegatta$Reade\x72" 71 (⟨"RoofRegatta$Tokens", "blame", "(I)V"⟩ : MethodName) ∈ tb := tb_t3 65 (by decide +kernel) (by decide +kernel)
theorem tw_648 : Cond.instanceMethod (⟨"RoofRegatta$Tokens", "blame", "(I)V"⟩ : MethodName) ∈ tb := tb_t3 66 (by decide +kernel) (by decide +kernel)
theorem tw_649 : Cond.selects "RoofRegatta$Tokens" (⟨"RoofRegatta$Tokens", "blame", "(I)V"⟩ : MethodName) (⟨"RoofRegatta$Tokens", "blame", "(I)V"⟩ : MethodName) ∈ tb := tb_t3 67 (by decide +kernel) (by decide +kernel)
set_option maxRecDepth 100000 in
theorem tw_650 : Cond.code (⟨"RoofRegatta$Tokens", "blame", "(I)V"⟩ : MethodName) prog_10_method_3_code 2 (none : Option Jvm.ClassFile.FieldType) ∈ tb := tb_t3 68 rfl rfl
theorem tw_651 : Cond.methodLink "RoofRegatta$Reade\x72" 68 (⟨"RoofRegatta$Tokens", "step", "()V"⟩ : MethodName) ∈ tb := tb_t3 69 (by decide +kernel) (by decide +kernel)
theorem tw_652 : Cond.methodLink "RoofRegatta$Reade\x72" 86 (⟨"RoofRegatta$Reade\x72", "readRegatta", "()V"⟩ : MethodName) ∈ tb := tb_t3 70 (by decide +kernel) (by decide +kernel)
theorem tw_654 : Cond.instanceMethod (⟨"RoofRegatta$Reade\x72", "readRegatta", "()V"⟩ : MethodName) ∈ tb := tb_t3 72 (by decide +kernel) (by decide +kernel)
set_option maxRecDepth 100000 in
theorem tw_655 : Cond.code (⟨"RoofRegatta$Reade\x72", "readRegatta", "()V"⟩ : MethodName) prog_8_method_7_code 1 (none : Option Jvm.ClassFile.FieldType) ∈ tb := tb_t3 73 rfl rfl
theorem tw_657 : Cond.methodLink "RoofRegatta$Reade\x72" 135 (⟨"RoofRegatta$Reade\x72", "readWord", "(Ljava/lang/String;)V"⟩ : MethodName) ∈ tb := tb_t3 75 (by decide +kernel) (by decide +kernel)
theorem tw_659 : Cond.instanceMethod (⟨"RoofRegatta$Reade\x72", "readWord", "(Ljava/lang/String;)V"⟩ : MethodName) ∈ tb := tb_t3 77 (by decide +kernel) (by decide +kernel)
set_option maxRecDepth 100000 in
theorem tw_660 : Cond.code (⟨"RoofRegatta$Reade\x72", "readWord", "(Ljava/lang/String;)V"⟩ : MethodName) prog_8_method_15_code 2 (none : Option Jvm.ClassFile.FieldType) ∈ tb := tb_t3 78 rfl rfl
theorem tw_661 : Cond.methodLink "RoofRegatta$Reade\x72" 139 (⟨"RoofRegatta$Reade\x72", "readWhole", "(II)I"⟩ : MethodName) ∈ tb := tb_t3 79 (by decide +kernel) (by decide +kernel)
theorem tw_663 : Cond.instanceMethod (⟨"RoofRegatta$Reade\x72", "readWhole", "(II)I"⟩ : MethodName) ∈ tb := tb_t3 81 (by decide +kernel) (by decide +kernel)
set_option maxRecDepth 100000 in
theorem tw_664 : Cond.code (⟨"RoofRegatta$Reade\x72", "readWhole", "(II)I"⟩ : MethodName) prog_8_method_16_code 4 (some .int) ∈ tb := tb_t3 82 rfl rfl
theorem tw_665 : Cond.methodLink "RoofRegatta$Reade\x72" 224 (⟨"RoofRegatta$Tokens", "value", "()I"⟩ : MethodName) ∈ tb := tb_t3 83 (by decide +kernel) (by decide +kernel)
theorem tw_666 : Cond.instanceMethod (⟨"RoofRegatta$Tokens", "value", "()I"⟩ : MethodName) ∈ tb := tb_t3 84 (by decide +kernel) (by decide +kernel)
theorem tw_667 : Cond.selects "RoofRegatta$Tokens" (⟨"RoofRegatta$Tokens", "value", "()I"⟩ : MethodName) (⟨"RoofRegatta$Tokens", "value", "()I"⟩ : MethodName) ∈ tb := tb_t3 85 (by decide +kernel) (by decide +kernel)
set_option maxRecDepth 100000 in
theorem tw_668 : Cond.code (⟨"RoofRegatta$Tokens", "value", "()I"⟩ : MethodName) prog_10_method_7_code 3 (some .int) ∈ tb := tb_t3 86 rfl rfl
theorem tw_673 : Cond.methodLink "RoofRegatta$Reade\x72" 89 (⟨"RoofRegatta$Reade\x72", "readBend", "()V"⟩ : MethodName) ∈ tb := tb_t3 91 (by decide +kernel) (by decide +kernel)
theorem tw_675 : Cond.instanceMethod (⟨"RoofRegatta$Reade\x72", "readBend", "()V"⟩ : MethodName) ∈ tb := tb_t3 93 (by decide +kernel) (by decide +kernel)
set_option maxRecDepth 100000 in
theorem tw_676 : Cond.code (⟨"RoofRegatta$Reade\x72", "readBend", "()V"⟩ : MethodName) prog_8_method_8_code 4 (none : Option Jvm.ClassFile.FieldType) ∈ tb := tb_t3 94 rfl rfl
theorem tw_677 : Cond.methodLink "RoofRegatta$Reade\x72" 153 (⟨"RoofRegatta$Reade\x72", "tellName", "(I)V"⟩ : MethodName) ∈ tb := tb_t3 95 (by decide +kernel) (by decide +kernel)
theorem tw_679 : Cond.instanceMethod (⟨"RoofRegatta$Reade\x72", "tellName", "(I)V"⟩ : MethodName) ∈ tb := tb_t3 97 (by decide +kernel) (by decide +kernel)
set_option maxRecDepth 100000 in
theorem tw_680 : Cond.code (⟨"RoofRegatta$Reade\x72", "tellName", "(I)V"⟩ : MethodName) prog_8_method_19_code 2 (none : Option Jvm.ClassFile.FieldType) ∈ tb := tb_t3 98 rfl rfl
theorem tw_681 : Cond.methodLink "RoofRegatta$Reade\x72" 239 (⟨"RoofRegatta$Names", "find", "(LRoofRegatta$Tokens;)I"⟩ : MethodName) ∈ tb := tb_t3 99 (by decide +kernel) (by decide +kernel)
theorem tw_682 : Cond.instanceMethod (⟨"RoofRegatta$Names", "find", "(LRoofRegatta$Tokens;)I"⟩ : MethodName) ∈ tb := tb_t3 100 (by decide +kernel) (by decide +kernel)
theorem tw_683 : Cond.selects "RoofRegatta$Names" (⟨"RoofRegatta$Names", "find", "(LRoofRegatta$Tokens;)I"⟩ : MethodName) (⟨"RoofRegatta$Names", "find", "(LRoofRegatta$Tokens;)I"⟩ : MethodName) ∈ tb := tb_t3 101 (by decide +kernel) (by decide +kernel)
set_option maxRecDepth 100000 in
theorem tw_684 : Cond.code (⟨"RoofRegatta$Names", "find", "(LRoofRegatta$Tokens;)I"⟩ : MethodName) prog_5_method_3_code 3 (some .int) ∈ tb := tb_t3 102 rfl rfl
theorem tw_685 : Cond.methodLink "RoofRegatta$Names" 36 (⟨"RoofRegatta$Tokens", "isSameAs", "(II)Z"⟩ : MethodName) ∈ tb := tb_t3 103 (by decide +kernel) (by decide +kernel)
theorem tw_686 : Cond.instanceMethod (⟨"RoofRegatta$Tokens", "isSameAs", "(II)Z"⟩ : MethodName) ∈ tb := tb_t3 104 (by decide +kernel) (by decide +kernel)
theorem tw_687 : Cond.selects "RoofRegatta$Tokens" (⟨"RoofRegatta$Tokens", "isSameAs", "(II)Z"⟩ : MethodName) (⟨"RoofRegatta$Tokens", "isSameAs", "(II)Z"⟩ : MethodName) ∈ tb := tb_t3 105 (by decide +kernel) (by decide +kernel)
set_option maxRecDepth 100000 in
theorem tw_688 : Cond.code (⟨"RoofRegatta$Tokens", "isSameAs", "(II)Z"⟩ : MethodName) prog_10_method_8_code 4 (some .boolean) ∈ tb := tb_t3 106 rfl rfl
theorem tw_689 : Cond.methodLink "RoofRegatta$Reade\x72" 243 (⟨"RoofRegatta$Names", "add", "(LRoofRegatta$Tokens;II)V"⟩ : MethodName) ∈ tb := tb_t3 107 (by decide +kernel) (by decide +kernel)
theorem tw_690 : Cond.instanceMethod (⟨"RoofRegatta$Names", "add", "(LRoofRegatta$Tokens;II)V"⟩ : MethodName) ∈ tb := tb_t3 108 (by decide +kernel) (by decide +kernel)
theorem tw_691 : Cond.selects "RoofRegatta$Names" (⟨"RoofRegatta$Names", "add", "(LRoofRegatta$Tokens;II)V"⟩ : MethodName) (⟨"RoofRegatta$Names", "add", "(LRoofRegatta$Tokens;II)V"⟩ : MethodName) ∈ tb := tb_t3 109 (by decide +kernel) (by decide +kernel)
set_option maxRecDepth 100000 in
theorem tw_692 : Cond.code (⟨"RoofRegatta$Names", "add", "(LRoofRegatta$Tokens;II)V"⟩ : MethodName) prog_5_method_2_code 4 (none : Option Jvm.ClassFile.FieldType) ∈ tb := tb_t3 110 rfl rfl
theorem tw_694 : Cond.methodLink "RoofRegatta$Reade\x72" 158 (⟨"RoofRegatta$Reade\x72", "readSide", "()I"⟩ : MethodName) ∈ tb := tb_t3 112 (by decide +kernel) (by decide +kernel)
theorem tw_696 : Cond.instanceMethod (⟨"RoofRegatta$Reade\x72", "readSide", "()I"⟩ : MethodName) ∈ tb := tb_t3 114 (by decide +kernel) (by decide +kernel)
set_option maxRecDepth 100000 in
theorem tw_697 : Cond.code (⟨"RoofRegatta$Reade\x72", "readSide", "()I"⟩ : MethodName) prog_8_method_17_code 2 (some .int) ∈ tb := tb_t3 115 rfl rfl
theorem tw_700 : Cond.methodLink "RoofRegatta$Reade\x72" 92 (⟨"RoofRegatta$Reade\x72", "readHouse", "()V"⟩ : MethodName) ∈ tb := tb_t3 118 (by decide +kernel) (by decide +kernel)
theorem tw_702 : Cond.instanceMethod (⟨"RoofRegatta$Reade\x72", "readHouse", "()V"⟩ : MethodName) ∈ tb := tb_t3 120 (by decide +kernel) (by decide +kernel)
set_option maxRecDepth 100000 in
theorem tw_703 : Cond.code (⟨"RoofRegatta$Reade\x72", "readHouse", "()V"⟩ : MethodName) prog_8_method_9_code 6 (none : Option Jvm.ClassFile.FieldType) ∈ tb := tb_t3 121 rfl rfl
theorem tw_704 : Cond.methodLink "RoofRegatta$Reade\x72" 167 (⟨"RoofRegatta$Reade\x72", "readKind", "()I"⟩ : MethodName) ∈ tb := tb_t3 122 (by decide +kernel) (by decide +kernel)
theorem tw_706 : Cond.instanceMethod (⟨"RoofRegatta$Reade\x72", "readKind", "()I"⟩ : MethodName) ∈ tb := tb_t3 124 (by decide +kernel) (by decide +kernel)
set_option maxRecDepth 100000 in
theorem tw_707 : Cond.code (⟨"RoofRegatta$Reade\x72", "readKind", "()I"⟩ : MethodName) prog_8_method_18_code 2 (some .int) ∈ tb := tb_t3 125 rfl rfl
theorem tw_714 : Cond.methodLink "RoofRegatta$Reade\x72" 181 (⟨"RoofRegatta$Race", "takeLane", "(II)V"⟩ : MethodName) ∈ tb := tb_t3 132 (by decide +kernel) (by decide +kernel)
theorem tw_715 : Cond.instanceMethod (⟨"RoofRegatta$Race", "takeLane", "(II)V"⟩ : MethodName) ∈ tb := tb_t3 133 (by decide +kernel) (by decide +kernel)
theorem tw_716 : Cond.selects "RoofRegatta$Race" (⟨"RoofRegatta$Race", "takeLane", "(II)V"⟩ : MethodName) (⟨"RoofRegatta$Race", "takeLane", "(II)V"⟩ : MethodName) ∈ tb := tb_t3 134 (by decide +kernel) (by decide +kernel)
set_option maxRecDepth 100000 in
theorem tw_717 : Cond.code (⟨"RoofRegatta$Race", "takeLane", "(II)V"⟩ : MethodName) prog_6_method_8_code 3 (none : Option Jvm.ClassFile.FieldType) ∈ tb := tb_t3 135 rfl rfl
theorem tw_718 : Cond.methodLink "RoofRegatta$Reade\x72" 95 (⟨"RoofRegatta$Reade\x72", "readLodge\x72", "()V"⟩ : MethodName) ∈ tb := tb_t3 136 (by decide +kernel) (by decide +kernel)
theorem tw_720 : Cond.instanceMethod (⟨"RoofRegatta$Reade\x72", "readLodge\x72", "()V"⟩ : MethodName) ∈ tb := tb_t3 138 (by decide +kernel) (by decide +kernel)
set_option maxRecDepth 100000 in
theorem tw_721 : Cond.code (⟨"RoofRegatta$Reade\x72", "readLodge\x72", "()V"⟩ : MethodName) prog_8_method_10_code 4 (none : Option Jvm.ClassFile.FieldType) ∈ tb := tb_t3 139 rfl rfl
theorem tw_724 : Cond.methodLink "RoofRegatta$Reade\x72" 98 (⟨"RoofRegatta$Reade\x72", "readAboard", "()V"⟩ : MethodName) ∈ tb := tb_t3 142 (by decide +kernel) (by decide +kernel)
theorem tw_726 : Cond.instanceMethod (⟨"RoofRegatta$Reade\x72", "readAboard", "()V"⟩ : MethodName) ∈ tb := tb_t3 144 (by decide +kernel) (by decide +kernel)
set_option maxRecDepth 100000 in
theorem tw_727 : Cond.code (⟨"RoofRegatta$Reade\x72", "readAboard", "()V"⟩ : MethodName) prog_8_method_11_code 3 (none : Option Jvm.ClassFile.FieldType) ∈ tb := tb_t3 145 rfl rfl
theorem tw_728 : Cond.methodLink "RoofRegatta$Reade\x72" 193 (⟨"RoofRegatta$Reade\x72", "numberOfName", "(I)I"⟩ : MethodName) ∈ tb := tb_t3 146 (by decide +kernel) (by decide +kernel)
theorem tw_730 : Cond.instanceMethod (⟨"RoofRegatta$Reade\x72", "numberOfName", "(I)I"⟩ : MethodName) ∈ tb := tb_t3 148 (by decide +kernel) (by decide +kernel)
set_option maxRecDepth 100000 in
theorem tw_731 : Cond.code (⟨"RoofRegatta$Reade\x72", "numberOfName", "(I)I"⟩ : MethodName) prog_8_method_20_code 3 (some .int) ∈ tb := tb_t3 149 rfl rfl
theorem tw_732 : Cond.methodLink "RoofRegatta$Reade\x72" 196 (⟨"RoofRegatta$Race", "placeOf", "(I)I"⟩ : MethodName) ∈ tb := tb_t3 150 (by decide +kernel) (by decide +kernel)
theorem tw_733 : Cond.instanceMethod (⟨"RoofRegatta$Race", "placeOf", "(I)I"⟩ : MethodName) ∈ tb := tb_t3 151 (by decide +kernel) (by decide +kernel)
theorem tw_734 : Cond.selects "RoofRegatta$Race" (⟨"RoofRegatta$Race", "placeOf", "(I)I"⟩ : MethodName) (⟨"RoofRegatta$Race", "placeOf", "(I)I"⟩ : MethodName) ∈ tb := tb_t3 152 (by decide +kernel) (by decide +kernel)
set_option maxRecDepth 100000 in
theorem tw_735 : Cond.code (⟨"RoofRegatta$Race", "placeOf", "(I)I"⟩ : MethodName) prog_6_method_10_code 3 (some .int) ∈ tb := tb_t3 153 rfl rfl
theorem tw_736 : Cond.methodLink "RoofRegatta$Reade\x72" 199 (⟨"RoofRegatta$Race", "hasRoom", "(I)Z"⟩ : MethodName) ∈ tb := tb_t3 154 (by decide +kernel) (by decide +kernel)
theorem tw_737 : Cond.instanceMethod (⟨"RoofRegatta$Race", "hasRoom", "(I)Z"⟩ : MethodName) ∈ tb := tb_t3 155 (by decide +kernel) (by decide +kernel)
theorem tw_738 : Cond.selects "RoofRegatta$Race" (⟨"RoofRegatta$Race", "hasRoom", "(I)Z"⟩ : MethodName) (⟨"RoofRegatta$Race", "hasRoom", "(I)Z"⟩ : MethodName) ∈ tb := tb_t3 156 (by decide +kernel) (by decide +kernel)
set_option maxRecDepth 100000 in
theorem tw_739 : Cond.code (⟨"RoofRegatta$Race", "hasRoom", "(I)Z"⟩ : MethodName) prog_6_method_9_code 2 (some .boolean) ∈ tb := tb_t3 157 rfl rfl
theorem tw_740 : Cond.methodLink "RoofRegatta$Race" 42 (⟨"java/lang/Intege\x72", "bitCount", "(I)I"⟩ : MethodName) ∈ tb := tb_t3 158 (by decide +kernel) (by decide +kernel)
theorem tw_741 : Cond.static (⟨"java/lang/Intege\x72", "bitCount", "(I)I"⟩ : MethodName) ∈ tb := tb_t3 159 (by decide +kernel) (by decide +kernel)
set_option maxRecDepth 100000 in
theorem tw_742 : Cond.code (⟨"java/lang/Intege\x72", "bitCount", "(I)I"⟩ : MethodName) prog_18_method_49_code 1 (some .int) ∈ tb := tb_t3 160 rfl rfl
theorem tw_743 : Cond.constant "java/lang/Intege\x72" 265 (1431655765 : Int32) ∈ tb := tb_t3 161 (by decide +kernel) (by decide +kernel)
theorem tw_744 : Cond.constant "java/lang/Intege\x72" 266 (858993459 : Int32) ∈ tb := tb_t3 162 (by decide +kernel) (by decide +kernel)
theorem tw_745 : Cond.constant "java/lang/Intege\x72" 267 (252645135 : Int32) ∈ tb := tb_t3 163 (by decide +kernel) (by decide +kernel)
theorem tw_746 : Cond.methodLink "RoofRegatta$Reade\x72" 203 (⟨"RoofRegatta$Race", "put", "(II)V"⟩ : MethodName) ∈ tb := tb_t3 164 (by decide +kernel) (by decide +kernel)
theorem tw_747 : Cond.instanceMethod (⟨"RoofRegatta$Race", "put", "(II)V"⟩ : MethodName) ∈ tb := tb_t3 165 (by decide +kernel) (by decide +kernel)
theorem tw_748 : Cond.selects "RoofRegatta$Race" (⟨"RoofRegatta$Race", "put", "(II)V"⟩ : MethodName) (⟨"RoofRegatta$Race", "put", "(II)V"⟩ : MethodName) ∈ tb := tb_t3 166 (by decide +kernel) (by decide +kernel)
set_option maxRecDepth 100000 in
theorem tw_749 : Cond.code (⟨"RoofRegatta$Race", "put", "(II)V"⟩ : MethodName) prog_6_method_11_code 4 (none : Option Jvm.ClassFile.FieldType) ∈ tb := tb_t3 167 rfl rfl
theorem tw_750 : Cond.methodLink "RoofRegatta$Reade\x72" 101 (⟨"RoofRegatta$Reade\x72", "readFriend", "()V"⟩ : MethodName) ∈ tb := tb_t3 168 (by decide +kernel) (by decide +kernel)
theorem tw_752 : Cond.instanceMethod (⟨"RoofRegatta$Reade\x72", "readFriend", "()V"⟩ : MethodName) ∈ tb := tb_t3 170 (by decide +kernel) (by decide +kernel)
set_option maxRecDepth 100000 in
theorem tw_753 : Cond.code (⟨"RoofRegatta$Reade\x72", "readFriend", "()V"⟩ : MethodName) prog_8_method_12_code 4 (none : Option Jvm.ClassFile.FieldType) ∈ tb := tb_t3 171 rfl rfl
theorem tw_754 : Cond.methodLink "RoofRegatta$Reade\x72" 206 (⟨"RoofRegatta$Told", "friendsOf", "(I)I"⟩ : MethodName) ∈ tb := tb_t3 172 (by decide +kernel) (by decide +kernel)
theorem tw_755 : Cond.instanceMethod (⟨"RoofRegatta$Told", "friendsOf", "(I)I"⟩ : MethodName) ∈ tb := tb_t3 173 (by decide +kernel) (by decide +kernel)
theorem tw_756 : Cond.selects "RoofRegatta$Told" (⟨"RoofRegatta$Told", "friendsOf", "(I)I"⟩ : MethodName) (⟨"RoofRegatta$Told", "friendsOf", "(I)I"⟩ : MethodName) ∈ tb := tb_t3 174 (by decide +kernel) (by decide +kernel)
set_option maxRecDepth 100000 in
theorem tw_757 : Cond.code (⟨"RoofRegatta$Told", "friendsOf", "(I)I"⟩ : MethodName) prog_11_method_4_code 4 (some .int) ∈ tb := tb_t3 175 rfl rfl
theorem tw_758 : Cond.methodLink "RoofRegatta$Reade\x72" 104 (⟨"RoofRegatta$Reade\x72", "readPrize", "()V"⟩ : MethodName) ∈ tb := tb_t3 176 (by decide +kernel) (by decide +kernel)
theorem tw_760 : Cond.instanceMethod (⟨"RoofRegatta$Reade\x72", "readPrize", "()V"⟩ : MethodName) ∈ tb := tb_t3 178 (by decide +kernel) (by decide +kernel)
set_option maxRecDepth 100000 in
theorem tw_761 : Cond.code (⟨"RoofRegatta$Reade\x72", "readPrize", "()V"⟩ : MethodName) prog_8_method_13_code 3 (none : Option Jvm.ClassFile.FieldType) ∈ tb := tb_t3 179 rfl rfl
theorem tw_762 : Cond.methodLink "RoofRegatta$Reade\x72" 107 (⟨"RoofRegatta$Reade\x72", "readSaw", "()V"⟩ : MethodName) ∈ tb := tb_t3 180 (by decide +kernel) (by decide +kernel)
theorem tw_764 : Cond.instanceMethod (⟨"RoofRegatta$Reade\x72", "readSaw", "()V"⟩ : MethodName) ∈ tb := tb_t3 182 (by decide +kernel) (by decide +kernel)
set_option maxRecDepth 100000 in
theorem tw_765 : Cond.code (⟨"RoofRegatta$Reade\x72", "readSaw", "()V"⟩ : MethodName) prog_8_method_14_code 5 (none : Option Jvm.ClassFile.FieldType) ∈ tb := tb_t3 183 rfl rfl
theorem tw_766 : Cond.methodLink "RoofRegatta" 116 (⟨"RoofRegatta$Told", "become", "(LRoofRegatta$Told;)V"⟩ : MethodName) ∈ tb := tb_t3 184 (by decide +kernel) (by decide +kernel)
theorem tw_767 : Cond.instanceMethod (⟨"RoofRegatta$Told", "become", "(LRoofRegatta$Told;)V"⟩ : MethodName) ∈ tb := tb_t3 185 (by decide +kernel) (by decide +kernel)
theorem tw_768 : Cond.selects "RoofRegatta$Told" (⟨"RoofRegatta$Told", "become", "(LRoofRegatta$Told;)V"⟩ : MethodName) (⟨"RoofRegatta$Told", "become", "(LRoofRegatta$Told;)V"⟩ : MethodName) ∈ tb := tb_t3 186 (by decide +kernel) (by decide +kernel)
set_option maxRecDepth 100000 in
theorem tw_769 : Cond.code (⟨"RoofRegatta$Told", "become", "(LRoofRegatta$Told;)V"⟩ : MethodName) prog_11_method_3_code 2 (none : Option Jvm.ClassFile.FieldType) ∈ tb := tb_t3 187 rfl rfl
theorem tw_770 : Cond.methodLink "RoofRegatta$Told" 51 (⟨"java/lang/System", "arraycopy", "(Ljava/lang/Object;ILjava/lang/Object;II)V"⟩ : MethodName) ∈ tb := tb_t3 188 (by decide +kernel) (by decide +kernel)
theorem tw_771 : Cond.static (⟨"java/lang/System", "arraycopy", "(Ljava/lang/Object;ILjava/lang/Object;II)V"⟩ : MethodName) ∈ tb := tb_t3 189 (by decide +kernel) (by decide +kernel)
theorem tw_772 : Cond.native (⟨"java/lang/System", "arraycopy", "(Ljava/lang/Object;ILjava/lang/Object;II)V"⟩ : MethodName) ∈ tb := tb_t3 190 (by decide +kernel) (by decide +kernel)
theorem tw_773 : Cond.methodLink "RoofRegatta" 122 (⟨"RoofRegatta$Race", "become", "(LRoofRegatta$Race;)V"⟩ : MethodName) ∈ tb := tb_t3 191 (by decide +kernel) (by decide +kernel)
theorem tw_774 : Cond.instanceMethod (⟨"RoofRegatta$Race", "become", "(LRoofRegatta$Race;)V"⟩ : MethodName) ∈ tb := tb_t3 192 (by decide +kernel) (by decide +kernel)
theorem tw_775 : Cond.selects "RoofRegatta$Race" (⟨"RoofRegatta$Race", "become", "(LRoofRegatta$Race;)V"⟩ : MethodName) (⟨"RoofRegatta$Race", "become", "(LRoofRegatta$Race;)V"⟩ : MethodName) ∈ tb := tb_t3 193 (by decide +kernel) (by decide +kernel)
set_option maxRecDepth 100000 in
theorem tw_776 : Cond.code (⟨"RoofRegatta$Race", "become", "(LRoofRegatta$Race;)V"⟩ : MethodName) prog_6_method_3_code 2 (none : Option Jvm.ClassFile.FieldType) ∈ tb := tb_t3 194 rfl rfl
theorem tw_777 : Cond.methodLink "RoofRegatta$Race" 32 (⟨"java/lang/System", "arraycopy", "(Ljava/lang/Object;ILjava/lang/Object;II)V"⟩ : MethodName) ∈ tb := tb_t3 195 (by decide +kernel) (by decide +kernel)
theorem tw_778 : Cond.methodLink "RoofRegatta" 124 (⟨"RoofRegatta$Kept", "clea\x72", "()V"⟩ : MethodName) ∈ tb := tb_t3 196 (by decide +kernel) (by decide +kernel)
theorem tw_779 : Cond.instanceMethod (⟨"RoofRegatta$Kept", "clea\x72", "()V"⟩ : MethodName) ∈ tb := tb_t3 197 (by decide +kernel) (by decide +kernel)
theorem tw_780 : Cond.selects "RoofRegatta$Kept" (⟨"RoofRegatta$Kept", "clea\x72", "()V"⟩ : MethodName) (⟨"RoofRegatta$Kept", "clea\x72", "()V"⟩ : MethodName) ∈ tb := tb_t3 198 (by decide +kernel) (by decide +kernel)
set_option maxRecDepth 100000 in
theorem tw_781 : Cond.code (⟨"RoofRegatta$Kept", "clea\x72", "()V"⟩ : MethodName) prog_3_method_2_code 1 (none : Option Jvm.ClassFile.FieldType) ∈ tb := tb_t3 199 rfl rfl
theorem tw_782 : Cond.methodLink "RoofRegatta" 127 (⟨"RoofRegatta$Loads", "forget", "()V"⟩ : MethodName) ∈ tb := tb_t3 200 (by decide +kernel) (by decide +kernel)
theorem tw_783 : Cond.instanceMethod (⟨"RoofRegatta$Loads", "forget", "()V"⟩ : MethodName) ∈ tb := tb_t3 201 (by decide +kernel) (by decide +kernel)
theorem tw_784 : Cond.selects "RoofRegatta$Loads" (⟨"RoofRegatta$Loads", "forget", "()V"⟩ : MethodName) (⟨"RoofRegatta$Loads", "forget", "()V"⟩ : MethodName) ∈ tb := tb_t3 202 (by decide +kernel) (by decide +kernel)
set_option maxRecDepth 100000 in
theorem tw_785 : Cond.code (⟨"RoofRegatta$Loads", "forget", "()V"⟩ : MethodName) prog_4_method_2_code 1 (none : Option Jvm.ClassFile.FieldType) ∈ tb := tb_t3 203 rfl rfl
theorem tw_786 : Cond.methodLink "RoofRegatta" 134 (⟨"RoofRegatta", "granted", "(I)I"⟩ : MethodName) ∈ tb := tb_t3 204 (by decide +kernel) (by decide +kernel)
theorem tw_788 : Cond.instanceMethod (⟨"RoofRegatta", "granted", "(I)I"⟩ : MethodName) ∈ tb := tb_t3 206 (by decide +kernel) (by decide +kernel)
set_option maxRecDepth 100000 in
theorem tw_789 : Cond.code (⟨"RoofRegatta", "granted", "(I)I"⟩ : MethodName) prog_1_method_65_code 2 (some .int) ∈ tb := tb_t3 207 rfl rfl
theorem tw_790 : Cond.methodLink "RoofRegattaLaw" 28 (⟨"RoofRegatta", "fault", "()I"⟩ : MethodName) ∈ tb := tb_t3 208 (by decide +kernel) (by decide +kernel)
theorem tw_791 : Cond.instanceMethod (⟨"RoofRegatta", "fault", "()I"⟩ : MethodName) ∈ tb := tb_t3 209 (by decide +kernel) (by decide +kernel)
theorem tw_792 : Cond.selects "RoofRegatta" (⟨"RoofRegatta", "fault", "()I"⟩ : MethodName) (⟨"RoofRegatta", "fault", "()I"⟩ : MethodName) ∈ tb := tb_t3 210 (by decide +kernel) (by decide +kernel)
set_option maxRecDepth 100000 in
theorem tw_793 : Cond.code (⟨"RoofRegatta", "fault", "()I"⟩ : MethodName) prog_1_method_5_code 1 (some .int) ∈ tb := tb_t3 211 rfl rfl
theorem tw_794 : Cond.methodLink "RoofRegattaLaw" 33 (⟨"RoofRegatta", "where", "()I"⟩ : MethodName) ∈ tb := tb_t3 212 (by decide +kernel) (by decide +kernel)
theorem tw_795 : Cond.instanceMethod (⟨"RoofRegatta", "where", "()I"⟩ : MethodName) ∈ tb := tb_t3 213 (by decide +kernel) (by decide +kernel)
theorem tw_796 : Cond.selects "RoofRegatta" (⟨"RoofRegatta", "where", "()I"⟩ : MethodName) (⟨"RoofRegatta", "where", "()I"⟩ : MethodName) ∈ tb := tb_t3 214 (by decide +kernel) (by decide +kernel)
set_option maxRecDepth 100000 in
theorem tw_797 : Cond.code (⟨"RoofRegatta", "where", "()I"⟩ : MethodName) prog_1_method_6_code 1 (some .int) ∈ tb := tb_t3 215 rfl rfl
theorem tw_798 : Cond.methodLink "RoofRegattaLaw" 37 (⟨"RoofRegatta", "house", "(II)I"⟩ : MethodName) ∈ tb := tb_t3 216 (by decide +kernel) (by decide +kernel)
theorem tw_799 : Cond.instanceMethod (⟨"RoofRegatta", "house", "(II)I"⟩ : MethodName) ∈ tb := tb_t3 217 (by decide +kernel) (by decide +kernel)
theorem tw_800 : Cond.selects "RoofRegatta" (⟨"RoofRegatta", "house", "(II)I"⟩ : MethodName) (⟨"RoofRegatta", "house", "(II)I"⟩ : MethodName) ∈ tb := tb_t3 218 (by decide +kernel) (by decide +kernel)
set_option maxRecDepth 100000 in
theorem tw_801 : Cond.code (⟨"RoofRegatta", "house", "(II)I"⟩ : MethodName) prog_1_method_7_code 3 (some .int) ∈ tb := tb_t3 219 rfl rfl
theorem tw_802 : Cond.methodLink "RoofRegatta" 140 (⟨"RoofRegatta", "isHouse", "(I)Z"⟩ : MethodName) ∈ tb := tb_t3 220 (by decide +kernel) (by decide +kernel)
theorem tw_804 : Cond.instanceMethod (⟨"RoofRegatta", "isHouse", "(I)Z"⟩ : MethodName) ∈ tb := tb_t3 222 (by decide +kernel) (by decide +kernel)
set_option maxRecDepth 100000 in
theorem tw_805 : Cond.code (⟨"RoofRegatta", "isHouse", "(I)Z"⟩ : MethodName) prog_1_method_69_code 2 (some .boolean) ∈ tb := tb_t3 223 rfl rfl
theorem tw_806 : Cond.methodLink "RoofRegatta" 153 (⟨"RoofRegatta$Race", "laneOf", "(I)I"⟩ : MethodName) ∈ tb := tb_t3 224 (by decide +kernel) (by decide +kernel)
theorem tw_807 : Cond.instanceMethod (⟨"RoofRegatta$Race", "laneOf", "(I)I"⟩ : MethodName) ∈ tb := tb_t3 225 (by decide +kernel) (by decide +kernel)
theorem tw_808 : Cond.selects "RoofRegatta$Race" (⟨"RoofRegatta$Race", "laneOf", "(I)I"⟩ : MethodName) (⟨"RoofRegatta$Race", "laneOf", "(I)I"⟩ : MethodName) ∈ tb := tb_t3 226 (by decide +kernel) (by decide +kernel)
set_option maxRecDepth 100000 in
theorem tw_809 : Cond.code (⟨"RoofRegatta$Race", "laneOf", "(I)I"⟩ : MethodName) prog_6_method_7_code 2 (some .int) ∈ tb := tb_t3 227 rfl rfl
theorem tw_810 : Cond.methodLink "RoofRegatta" 156 (⟨"RoofRegatta$Race", "weightOf", "(I)I"⟩ : MethodName) ∈ tb := tb_t3 228 (by decide +kernel) (by decide +kernel)
theorem tw_811 : Cond.instanceMethod (⟨"RoofRegatta$Race", "weightOf", "(I)I"⟩ : MethodName) ∈ tb := tb_t3 229 (by decide +kernel) (by decide +kernel)
theorem tw_812 : Cond.selects "RoofRegatta$Race" (⟨"RoofRegatta$Race", "weightOf", "(I)I"⟩ : MethodName) (⟨"RoofRegatta$Race", "weightOf", "(I)I"⟩ : MethodName) ∈ tb := tb_t3 230 (by decide +kernel) (by decide +kernel)
set_option maxRecDepth 100000 in
theorem tw_813 : Cond.code (⟨"RoofRegatta$Race", "weightOf", "(I)I"⟩ : MethodName) prog_6_method_12_code 4 (some .int) ∈ tb := tb_t3 231 rfl rfl
theorem tw_814 : Cond.methodLink "RoofRegatta" 159 (⟨"RoofRegatta$Race", "powerOf", "(I)I"⟩ : MethodName) ∈ tb := tb_t3 232 (by decide +kernel) (by decide +kernel)
theorem tw_815 : Cond.instanceMethod (⟨"RoofRegatta$Race", "powerOf", "(I)I"⟩ : MethodName) ∈ tb := tb_t3 233 (by decide +kernel) (by decide +kernel)
theorem tw_816 : Cond.selects "RoofRegatta$Race" (⟨"RoofRegatta$Race", "powerOf", "(I)I"⟩ : MethodName) (⟨"RoofRegatta$Race", "powerOf", "(I)I"⟩ : MethodName) ∈ tb := tb_t3 234 (by decide +kernel) (by decide +kernel)
set_option maxRecDepth 100000 in
theorem tw_817 : Cond.code (⟨"RoofRegatta$Race", "powerOf", "(I)I"⟩ : MethodName) prog_6_method_13_code 5 (some .int) ∈ tb := tb_t3 235 rfl rfl
theorem tw_818 : Cond.methodLink "RoofRegatta" 165 (⟨"RoofRegatta$Race", "isLit", "(I)Z"⟩ : MethodName) ∈ tb := tb_t3 236 (by decide +kernel) (by decide +kernel)
theorem tw_819 : Cond.instanceMethod (⟨"RoofRegatta$Race", "isLit", "(I)Z"⟩ : MethodName) ∈ tb := tb_t3 237 (by decide +kernel) (by decide +kernel)
theorem tw_820 : Cond.selects "RoofRegatta$Race" (⟨"RoofRegatta$Race", "isLit", "(I)Z"⟩ : MethodName) (⟨"RoofRegatta$Race", "isLit", "(I)Z"⟩ : MethodName) ∈ tb := tb_t3 238 (by decide +kernel) (by decide +kernel)
set_option maxRecDepth 100000 in
theorem tw_821 : Cond.code (⟨"RoofRegatta$Race", "isLit", "(I)Z"⟩ : MethodName) prog_6_method_6_code 2 (some .boolean) ∈ tb := tb_t3 239 rfl rfl
theorem tw_822 : Cond.methodLink "RoofRegattaLaw" 42 (⟨"RoofRegatta", "lodge\x72", "(II)I"⟩ : MethodName) ∈ tb := tb_t4 0 (by decide +kernel) (by decide +kernel)
theorem tw_823 : Cond.instanceMethod (⟨"RoofRegatta", "lodge\x72", "(II)I"⟩ : MethodName) ∈ tb := tb_t4 1 (by decide +kernel) (by decide +kernel)
theorem tw_824 : Cond.selects "RoofRegatta" (⟨"RoofRegatta", "lodge\x72", "(II)I"⟩ : MethodName) (⟨"RoofRegatta", "lodge\x72", "(II)I"⟩ : MethodName) ∈ tb := tb_t4 2 (by decide +kernel) (by decide +kernel)
set_option maxRecDepth 100000 in
theorem tw_825 : Cond.code (⟨"RoofRegatta", "lodge\x72", "(II)I"⟩ : MethodName) prog_1_method_8_code 3 (some .int) ∈ tb := tb_t4 3 rfl rfl
theorem tw_826 : Cond.methodLink "RoofRegatta" 168 (⟨"RoofRegatta", "isLodge\x72", "(I)Z"⟩ : MethodName) ∈ tb := tb_t4 4 (by decide +kernel) (by decide +kernel)
theorem tw_828 : Cond.instanceMethod (⟨"RoofRegatta", "isLodge\x72", "(I)Z"⟩ : MethodName) ∈ tb := tb_t4 6 (by decide +kernel) (by decide +kernel)
set_option maxRecDepth 100000 in
theorem tw_829 : Cond.code (⟨"RoofRegatta", "isLodge\x72", "(I)Z"⟩ : MethodName) prog_1_method_70_code 2 (some .boolean) ∈ tb := tb_t4 7 rfl rfl
theorem tw_830 : Cond.methodLink "RoofRegatta" 177 (⟨"RoofRegatta$Race", "placeOf", "(I)I"⟩ : MethodName) ∈ tb := tb_t4 8 (by decide +kernel) (by decide +kernel)
theorem tw_831 : Cond.methodLink "RoofRegatta" 180 (⟨"RoofRegatta$Told", "friendsOf", "(I)I"⟩ : MethodName) ∈ tb := tb_t4 9 (by decide +kernel) (by decide +kernel)
theorem tw_832 : Cond.methodLink "RoofRegattaLaw" 46 (⟨"RoofRegatta", "bend", "(II)I"⟩ : MethodName) ∈ tb := tb_t4 10 (by decide +kernel) (by decide +kernel)
theorem tw_833 : Cond.instanceMethod (⟨"RoofRegatta", "bend", "(II)I"⟩ : MethodName) ∈ tb := tb_t4 11 (by decide +kernel) (by decide +kernel)
theorem tw_834 : Cond.selects "RoofRegatta" (⟨"RoofRegatta", "bend", "(II)I"⟩ : MethodName) (⟨"RoofRegatta", "bend", "(II)I"⟩ : MethodName) ∈ tb := tb_t4 12 (by decide +kernel) (by decide +kernel)
set_option maxRecDepth 100000 in
theorem tw_835 : Cond.code (⟨"RoofRegatta", "bend", "(II)I"⟩ : MethodName) prog_1_method_9_code 3 (some .int) ∈ tb := tb_t4 13 rfl rfl
theorem tw_836 : Cond.methodLink "RoofRegatta" 183 (⟨"RoofRegatta", "isBend", "(I)Z"⟩ : MethodName) ∈ tb := tb_t4 14 (by decide +kernel) (by decide +kernel)
theorem tw_838 : Cond.instanceMethod (⟨"RoofRegatta", "isBend", "(I)Z"⟩ : MethodName) ∈ tb := tb_t4 16 (by decide +kernel) (by decide +kernel)
set_option maxRecDepth 100000 in
theorem tw_839 : Cond.code (⟨"RoofRegatta", "isBend", "(I)Z"⟩ : MethodName) prog_1_method_71_code 2 (some .boolean) ∈ tb := tb_t4 17 rfl rfl
theorem tw_840 : Cond.methodLink "RoofRegattaLaw" 50 (⟨"RoofRegatta", "time", "(II)I"⟩ : MethodName) ∈ tb := tb_t4 18 (by decide +kernel) (by decide +kernel)
theorem tw_841 : Cond.instanceMethod (⟨"RoofRegatta", "time", "(II)I"⟩ : MethodName) ∈ tb := tb_t4 19 (by decide +kernel) (by decide +kernel)
theorem tw_842 : Cond.selects "RoofRegatta" (⟨"RoofRegatta", "time", "(II)I"⟩ : MethodName) (⟨"RoofRegatta", "time", "(II)I"⟩ : MethodName) ∈ tb := tb_t4 20 (by decide +kernel) (by decide +kernel)
set_option maxRecDepth 100000 in
theorem tw_843 : Cond.code (⟨"RoofRegatta", "time", "(II)I"⟩ : MethodName) prog_1_method_10_code 3 (some .int) ∈ tb := tb_t4 21 rfl rfl
theorem tw_844 : Cond.methodLink "RoofRegatta" 192 (⟨"RoofRegatta$Race", "timeOn", "(II)I"⟩ : MethodName) ∈ tb := tb_t4 22 (by decide +kernel) (by decide +kernel)
theorem tw_845 : Cond.instanceMethod (⟨"RoofRegatta$Race", "timeOn", "(II)I"⟩ : MethodName) ∈ tb := tb_t4 23 (by decide +kernel) (by decide +kernel)
theorem tw_846 : Cond.selects "RoofRegatta$Race" (⟨"RoofRegatta$Race", "timeOn", "(II)I"⟩ : MethodName) (⟨"RoofRegatta$Race", "timeOn", "(II)I"⟩ : MethodName) ∈ tb := tb_t4 24 (by decide +kernel) (by decide +kernel)
set_option maxRecDepth 100000 in
theorem tw_847 : Cond.code (⟨"RoofRegatta$Race", "timeOn", "(II)I"⟩ : MethodName) prog_6_method_14_code 3 (some .int) ∈ tb := tb_t4 25 rfl rfl
theorem tw_848 : Cond.methodLink "RoofRegatta$Race" 68 (⟨"RoofRegatta$Race", "weightOf", "(I)I"⟩ : MethodName) ∈ tb := tb_t4 26 (by decide +kernel) (by decide +kernel)
theorem tw_849 : Cond.methodLink "RoofRegatta$Race" 71 (⟨"RoofRegatta$Race", "powerOf", "(I)I"⟩ : MethodName) ∈ tb := tb_t4 27 (by decide +kernel) (by decide +kernel)
theorem tw_850 : Cond.methodLink "RoofRegatta$Race" 74 (⟨"RoofRegatta$Race", "timeBy", "(IIII)I"⟩ : MethodName) ∈ tb := tb_t4 28 (by decide +kernel) (by decide +kernel)
theorem tw_852 : Cond.instanceMethod (⟨"RoofRegatta$Race", "timeBy", "(IIII)I"⟩ : MethodName) ∈ tb := tb_t4 30 (by decide +kernel) (by decide +kernel)
set_option maxRecDepth 100000 in
theorem tw_853 : Cond.code (⟨"RoofRegatta$Race", "timeBy", "(IIII)I"⟩ : MethodName) prog_6_method_15_code 9 (some .int) ∈ tb := tb_t4 31 rfl rfl
theorem tw_854 : Cond.methodLink "RoofRegatta$Race" 78 (⟨"RoofRegatta$Race", "laneOf", "(I)I"⟩ : MethodName) ∈ tb := tb_t4 32 (by decide +kernel) (by decide +kernel)
theorem tw_855 : Cond.methodLink "RoofRegatta$Race" 87 (⟨"RoofRegatta$Race", "isLit", "(I)Z"⟩ : MethodName) ∈ tb := tb_t4 33 (by decide +kernel) (by decide +kernel)
theorem tw_856 : Cond.methodLink "RoofRegattaLaw" 54 (⟨"RoofRegatta", "soFa\x72", "(II)I"⟩ : MethodName) ∈ tb := tb_t4 34 (by decide +kernel) (by decide +kernel)
theorem tw_857 : Cond.instanceMethod (⟨"RoofRegatta", "soFa\x72", "(II)I"⟩ : MethodName) ∈ tb := tb_t4 35 (by decide +kernel) (by decide +kernel)
theorem tw_858 : Cond.selects "RoofRegatta" (⟨"RoofRegatta", "soFa\x72", "(II)I"⟩ : MethodName) (⟨"RoofRegatta", "soFa\x72", "(II)I"⟩ : MethodName) ∈ tb := tb_t4 36 (by decide +kernel) (by decide +kernel)
set_option maxRecDepth 100000 in
theorem tw_859 : Cond.code (⟨"RoofRegatta", "soFa\x72", "(II)I"⟩ : MethodName) prog_1_method_11_code 3 (some .int) ∈ tb := tb_t4 37 rfl rfl
theorem tw_860 : Cond.methodLink "RoofRegatta" 196 (⟨"RoofRegatta$Race", "timeBehind", "(II)I"⟩ : MethodName) ∈ tb := tb_t4 38 (by decide +kernel) (by decide +kernel)
theorem tw_861 : Cond.instanceMethod (⟨"RoofRegatta$Race", "timeBehind", "(II)I"⟩ : MethodName) ∈ tb := tb_t4 39 (by decide +kernel) (by decide +kernel)
theorem tw_862 : Cond.selects "RoofRegatta$Race" (⟨"RoofRegatta$Race", "timeBehind", "(II)I"⟩ : MethodName) (⟨"RoofRegatta$Race", "timeBehind", "(II)I"⟩ : MethodName) ∈ tb := tb_t4 40 (by decide +kernel) (by decide +kernel)
set_option maxRecDepth 100000 in
theorem tw_863 : Cond.code (⟨"RoofRegatta$Race", "timeBehind", "(II)I"⟩ : MethodName) prog_6_method_16_code 7 (some .int) ∈ tb := tb_t4 41 rfl rfl
theorem tw_864 : Cond.methodLink "RoofRegatta$Race" 91 (⟨"RoofRegatta$Told", "storeysLost", "(I)I"⟩ : MethodName) ∈ tb := tb_t4 42 (by decide +kernel) (by decide +kernel)
theorem tw_865 : Cond.instanceMethod (⟨"RoofRegatta$Told", "storeysLost", "(I)I"⟩ : MethodName) ∈ tb := tb_t4 43 (by decide +kernel) (by decide +kernel)
theorem tw_866 : Cond.selects "RoofRegatta$Told" (⟨"RoofRegatta$Told", "storeysLost", "(I)I"⟩ : MethodName) (⟨"RoofRegatta$Told", "storeysLost", "(I)I"⟩ : MethodName) ∈ tb := tb_t4 44 (by decide +kernel) (by decide +kernel)
set_option maxRecDepth 100000 in
theorem tw_867 : Cond.code (⟨"RoofRegatta$Told", "storeysLost", "(I)I"⟩ : MethodName) prog_11_method_5_code 2 (some .int) ∈ tb := tb_t4 45 rfl rfl
theorem tw_868 : Cond.methodLink "RoofRegattaLaw" 58 (⟨"RoofRegatta", "total", "(I)I"⟩ : MethodName) ∈ tb := tb_t4 46 (by decide +kernel) (by decide +kernel)
theorem tw_869 : Cond.instanceMethod (⟨"RoofRegatta", "total", "(I)I"⟩ : MethodName) ∈ tb := tb_t4 47 (by decide +kernel) (by decide +kernel)
theorem tw_870 : Cond.selects "RoofRegatta" (⟨"RoofRegatta", "total", "(I)I"⟩ : MethodName) (⟨"RoofRegatta", "total", "(I)I"⟩ : MethodName) ∈ tb := tb_t4 48 (by decide +kernel) (by decide +kernel)
set_option maxRecDepth 100000 in
theorem tw_871 : Cond.code (⟨"RoofRegatta", "total", "(I)I"⟩ : MethodName) prog_1_method_12_code 2 (some .int) ∈ tb := tb_t4 49 rfl rfl
theorem tw_872 : Cond.methodLink "RoofRegatta" 199 (⟨"RoofRegatta$Race", "wholeTime", "(I)I"⟩ : MethodName) ∈ tb := tb_t4 50 (by decide +kernel) (by decide +kernel)
theorem tw_873 : Cond.instanceMethod (⟨"RoofRegatta$Race", "wholeTime", "(I)I"⟩ : MethodName) ∈ tb := tb_t4 51 (by decide +kernel) (by decide +kernel)
theorem tw_874 : Cond.selects "RoofRegatta$Race" (⟨"RoofRegatta$Race", "wholeTime", "(I)I"⟩ : MethodName) (⟨"RoofRegatta$Race", "wholeTime", "(I)I"⟩ : MethodName) ∈ tb := tb_t4 52 (by decide +kernel) (by decide +kernel)
set_option maxRecDepth 100000 in
theorem tw_875 : Cond.code (⟨"RoofRegatta$Race", "wholeTime", "(I)I"⟩ : MethodName) prog_6_method_17_code 2 (some .int) ∈ tb := tb_t4 53 rfl rfl
theorem tw_876 : Cond.methodLink "RoofRegatta$Race" 94 (⟨"RoofRegatta$Race", "timeBehind", "(II)I"⟩ : MethodName) ∈ tb := tb_t4 54 (by decide +kernel) (by decide +kernel)
theorem tw_877 : Cond.methodLink "RoofRegattaLaw" 62 (⟨"RoofRegatta", "loses", "(I)I"⟩ : MethodName) ∈ tb := tb_t4 55 (by decide +kernel) (by decide +kernel)
theorem tw_878 : Cond.instanceMethod (⟨"RoofRegatta", "loses", "(I)I"⟩ : MethodName) ∈ tb := tb_t4 56 (by decide +kernel) (by decide +kernel)
theorem tw_879 : Cond.selects "RoofRegatta" (⟨"RoofRegatta", "loses", "(I)I"⟩ : MethodName) (⟨"RoofRegatta", "loses", "(I)I"⟩ : MethodName) ∈ tb := tb_t4 57 (by decide +kernel) (by decide +kernel)
set_option maxRecDepth 100000 in
theorem tw_880 : Cond.code (⟨"RoofRegatta", "loses", "(I)I"⟩ : MethodName) prog_1_method_13_code 2 (some .int) ∈ tb := tb_t4 58 rfl rfl
theorem tw_881 : Cond.methodLink "RoofRegatta" 202 (⟨"RoofRegatta$Told", "storeysLost", "(I)I"⟩ : MethodName) ∈ tb := tb_t4 59 (by decide +kernel) (by decide +kernel)
theorem tw_882 : Cond.methodLink "RoofRegattaLaw" 66 (⟨"RoofRegatta", "rank", "(I)I"⟩ : MethodName) ∈ tb := tb_t4 60 (by decide +kernel) (by decide +kernel)
theorem tw_883 : Cond.instanceMethod (⟨"RoofRegatta", "rank", "(I)I"⟩ : MethodName) ∈ tb := tb_t4 61 (by decide +kernel) (by decide +kernel)
theorem tw_884 : Cond.selects "RoofRegatta" (⟨"RoofRegatta", "rank", "(I)I"⟩ : MethodName) (⟨"RoofRegatta", "rank", "(I)I"⟩ : MethodName) ∈ tb := tb_t4 62 (by decide +kernel) (by decide +kernel)
set_option maxRecDepth 100000 in
theorem tw_885 : Cond.code (⟨"RoofRegatta", "rank", "(I)I"⟩ : MethodName) prog_1_method_14_code 2 (some .int) ∈ tb := tb_t4 63 rfl rfl
theorem tw_886 : Cond.methodLink "RoofRegatta" 205 (⟨"RoofRegatta$Standing", "take", "(LRoofRegatta$Race;)V"⟩ : MethodName) ∈ tb := tb_t4 64 (by decide +kernel) (by decide +kernel)
theorem tw_887 : Cond.instanceMethod (⟨"RoofRegatta$Standing", "take", "(LRoofRegatta$Race;)V"⟩ : MethodName) ∈ tb := tb_t4 65 (by decide +kernel) (by decide +kernel)
theorem tw_888 : Cond.selects "RoofRegatta$Standing" (⟨"RoofRegatta$Standing", "take", "(LRoofRegatta$Race;)V"⟩ : MethodName) (⟨"RoofRegatta$Standing", "take", "(LRoofRegatta$Race;)V"⟩ : MethodName) ∈ tb := tb_t4 66 (by decide +kernel) (by decide +kernel)
set_option maxRecDepth 100000 in
theorem tw_889 : Cond.code (⟨"RoofRegatta$Standing", "take", "(LRoofRegatta$Race;)V"⟩ : MethodName) prog_9_method_2_code 3 (none : Option Jvm.ClassFile.FieldType) ∈ tb := tb_t4 67 rfl rfl
theorem tw_890 : Cond.methodLink "RoofRegatta$Standing" 15 (⟨"RoofRegatta$Standing", "begin", "(LRoofRegatta$Race;)V"⟩ : MethodName) ∈ tb := tb_t4 68 (by decide +kernel) (by decide +kernel)
theorem tw_891 : Cond.instanceMethod (⟨"RoofRegatta$Standing", "begin", "(LRoofRegatta$Race;)V"⟩ : MethodName) ∈ tb := tb_t4 69 (by decide +kernel) (by decide +kernel)
theorem tw_892 : Cond.selects "RoofRegatta$Standing" (⟨"RoofRegatta$Standing", "begin", "(LRoofRegatta$Race;)V"⟩ : MethodName) (⟨"RoofRegatta$Standing", "begin", "(LRoofRegatta$Race;)V"⟩ : MethodName) ∈ tb := tb_t4 70 (by decide +kernel) (by decide +kernel)
set_option maxRecDepth 100000 in
theorem tw_893 : Cond.code (⟨"RoofRegatta$Standing", "begin", "(LRoofRegatta$Race;)V"⟩ : MethodName) prog_9_method_3_code 2 (none : Option Jvm.ClassFile.FieldType) ∈ tb := tb_t4 71 rfl rfl
theorem tw_894 : Cond.methodLink "RoofRegatta$Standing" 23 (⟨"RoofRegatta$Race", "wholeTime", "(I)I"⟩ : MethodName) ∈ tb := tb_t4 72 (by decide +kernel) (by decide +kernel)
theorem tw_895 : Cond.methodLink "RoofRegatta$Standing" 29 (⟨"RoofRegatta$Standing", "settle", "()V"⟩ : MethodName) ∈ tb := tb_t4 73 (by decide +kernel) (by decide +kernel)
theorem tw_896 : Cond.instanceMethod (⟨"RoofRegatta$Standing", "settle", "()V"⟩ : MethodName) ∈ tb := tb_t4 74 (by decide +kernel) (by decide +kernel)
theorem tw_897 : Cond.selects "RoofRegatta$Standing" (⟨"RoofRegatta$Standing", "settle", "()V"⟩ : MethodName) (⟨"RoofRegatta$Standing", "settle", "()V"⟩ : MethodName) ∈ tb := tb_t4 75 (by decide +kernel) (by decide +kernel)
set_option maxRecDepth 100000 in
theorem tw_898 : Cond.code (⟨"RoofRegatta$Standing", "settle", "()V"⟩ : MethodName) prog_9_method_4_code 2 (none : Option Jvm.ClassFile.FieldType) ∈ tb := tb_t4 76 rfl rfl
theorem tw_899 : Cond.methodLink "RoofRegatta" 208 (⟨"RoofRegatta$Standing", "rankOf", "(I)I"⟩ : MethodName) ∈ tb := tb_t4 77 (by decide +kernel) (by decide +kernel)
theorem tw_900 : Cond.instanceMethod (⟨"RoofRegatta$Standing", "rankOf", "(I)I"⟩ : MethodName) ∈ tb := tb_t4 78 (by decide +kernel) (by decide +kernel)
theorem tw_901 : Cond.selects "RoofRegatta$Standing" (⟨"RoofRegatta$Standing", "rankOf", "(I)I"⟩ : MethodName) (⟨"RoofRegatta$Standing", "rankOf", "(I)I"⟩ : MethodName) ∈ tb := tb_t4 79 (by decide +kernel) (by decide +kernel)
set_option maxRecDepth 100000 in
theorem tw_902 : Cond.code (⟨"RoofRegatta$Standing", "rankOf", "(I)I"⟩ : MethodName) prog_9_method_6_code 4 (some .int) ∈ tb := tb_t4 80 rfl rfl
theorem tw_903 : Cond.methodLink "RoofRegatta$Standing" 48 (⟨"RoofRegatta$Standing", "isBefore", "(II)Z"⟩ : MethodName) ∈ tb := tb_t4 81 (by decide +kernel) (by decide +kernel)
theorem tw_905 : Cond.instanceMethod (⟨"RoofRegatta$Standing", "isBefore", "(II)Z"⟩ : MethodName) ∈ tb := tb_t4 83 (by decide +kernel) (by decide +kernel)
set_option maxRecDepth 100000 in
theorem tw_906 : Cond.code (⟨"RoofRegatta$Standing", "isBefore", "(II)Z"⟩ : MethodName) prog_9_method_7_code 4 (some .boolean) ∈ tb := tb_t4 84 rfl rfl
theorem tw_907 : Cond.methodLink "RoofRegatta$Standing" 52 (⟨"RoofRegatta$Standing", "isOut", "(I)Z"⟩ : MethodName) ∈ tb := tb_t4 85 (by decide +kernel) (by decide +kernel)
theorem tw_908 : Cond.instanceMethod (⟨"RoofRegatta$Standing", "isOut", "(I)Z"⟩ : MethodName) ∈ tb := tb_t4 86 (by decide +kernel) (by decide +kernel)
theorem tw_909 : Cond.selects "RoofRegatta$Standing" (⟨"RoofRegatta$Standing", "isOut", "(I)Z"⟩ : MethodName) (⟨"RoofRegatta$Standing", "isOut", "(I)Z"⟩ : MethodName) ∈ tb := tb_t4 87 (by decide +kernel) (by decide +kernel)
set_option maxRecDepth 100000 in
theorem tw_910 : Cond.code (⟨"RoofRegatta$Standing", "isOut", "(I)Z"⟩ : MethodName) prog_9_method_5_code 2 (some .boolean) ∈ tb := tb_t4 88 rfl rfl
theorem tw_911 : Cond.methodLink "RoofRegattaLaw" 70 (⟨"RoofRegatta", "ranked", "(I)I"⟩ : MethodName) ∈ tb := tb_t4 89 (by decide +kernel) (by decide +kernel)
theorem tw_912 : Cond.instanceMethod (⟨"RoofRegatta", "ranked", "(I)I"⟩ : MethodName) ∈ tb := tb_t4 90 (by decide +kernel) (by decide +kernel)
theorem tw_913 : Cond.selects "RoofRegatta" (⟨"RoofRegatta", "ranked", "(I)I"⟩ : MethodName) (⟨"RoofRegatta", "ranked", "(I)I"⟩ : MethodName) ∈ tb := tb_t4 91 (by decide +kernel) (by decide +kernel)
set_option maxRecDepth 100000 in
theorem tw_914 : Cond.code (⟨"RoofRegatta", "ranked", "(I)I"⟩ : MethodName) prog_1_method_15_code 2 (some .int) ∈ tb := tb_t4 92 rfl rfl
theorem tw_915 : Cond.methodLink "RoofRegatta" 211 (⟨"RoofRegatta$Standing", "houseAt", "(I)I"⟩ : MethodName) ∈ tb := tb_t4 93 (by decide +kernel) (by decide +kernel)
theorem tw_916 : Cond.instanceMethod (⟨"RoofRegatta$Standing", "houseAt", "(I)I"⟩ : MethodName) ∈ tb := tb_t4 94 (by decide +kernel) (by decide +kernel)
theorem tw_917 : Cond.selects "RoofRegatta$Standing" (⟨"RoofRegatta$Standing", "houseAt", "(I)I"⟩ : MethodName) (⟨"RoofRegatta$Standing", "houseAt", "(I)I"⟩ : MethodName) ∈ tb := tb_t4 95 (by decide +kernel) (by decide +kernel)
set_option maxRecDepth 100000 in
theorem tw_918 : Cond.code (⟨"RoofRegatta$Standing", "houseAt", "(I)I"⟩ : MethodName) prog_9_method_8_code 3 (some .int) ∈ tb := tb_t4 96 rfl rfl
theorem tw_919 : Cond.methodLink "RoofRegatta$Standing" 56 (⟨"RoofRegatta$Standing", "rankOf", "(I)I"⟩ : MethodName) ∈ tb := tb_t4 97 (by decide +kernel) (by decide +kernel)
theorem tw_920 : Cond.methodLink "RoofRegattaLaw" 74 (⟨"RoofRegatta", "out", "(I)I"⟩ : MethodName) ∈ tb := tb_t4 98 (by decide +kernel) (by decide +kernel)
theorem tw_921 : Cond.instanceMethod (⟨"RoofRegatta", "out", "(I)I"⟩ : MethodName) ∈ tb := tb_t4 99 (by decide +kernel) (by decide +kernel)
theorem tw_922 : Cond.selects "RoofRegatta" (⟨"RoofRegatta", "out", "(I)I"⟩ : MethodName) (⟨"RoofRegatta", "out", "(I)I"⟩ : MethodName) ∈ tb := tb_t4 100 (by decide +kernel) (by decide +kernel)
set_option maxRecDepth 100000 in
theorem tw_923 : Cond.code (⟨"RoofRegatta", "out", "(I)I"⟩ : MethodName) prog_1_method_16_code 2 (some .int) ∈ tb := tb_t4 101 rfl rfl
theorem tw_924 : Cond.methodLink "RoofRegatta" 214 (⟨"RoofRegatta$Standing", "isOut", "(I)Z"⟩ : MethodName) ∈ tb := tb_t4 102 (by decide +kernel) (by decide +kernel)
theorem tw_925 : Cond.methodLink "RoofRegattaLaw" 78 (⟨"RoofRegatta", "prize", "(I)I"⟩ : MethodName) ∈ tb := tb_t4 103 (by decide +kernel) (by decide +kernel)
theorem tw_926 : Cond.instanceMethod (⟨"RoofRegatta", "prize", "(I)I"⟩ : MethodName) ∈ tb := tb_t4 104 (by decide +kernel) (by decide +kernel)
theorem tw_927 : Cond.selects "RoofRegatta" (⟨"RoofRegatta", "prize", "(I)I"⟩ : MethodName) (⟨"RoofRegatta", "prize", "(I)I"⟩ : MethodName) ∈ tb := tb_t4 105 (by decide +kernel) (by decide +kernel)
set_option maxRecDepth 100000 in
theorem tw_928 : Cond.code (⟨"RoofRegatta", "prize", "(I)I"⟩ : MethodName) prog_1_method_17_code 2 (some .int) ∈ tb := tb_t4 106 rfl rfl
theorem tw_929 : Cond.methodLink "RoofRegatta" 217 (⟨"RoofRegatta$Told", "prizeFo\x72", "(I)I"⟩ : MethodName) ∈ tb := tb_t4 107 (by decide +kernel) (by decide +kernel)
theorem tw_930 : Cond.instanceMethod (⟨"RoofRegatta$Told", "prizeFo\x72", "(I)I"⟩ : MethodName) ∈ tb := tb_t4 108 (by decide +kernel) (by decide +kernel)
theorem tw_931 : Cond.selects "RoofRegatta$Told" (⟨"RoofRegatta$Told", "prizeFo\x72", "(I)I"⟩ : MethodName) (⟨"RoofRegatta$Told", "prizeFo\x72", "(I)I"⟩ : MethodName) ∈ tb := tb_t4 109 (by decide +kernel) (by decide +kernel)
set_option maxRecDepth 100000 in
theorem tw_932 : Cond.code (⟨"RoofRegatta$Told", "prizeFo\x72", "(I)I"⟩ : MethodName) prog_11_method_6_code 2 (some .int) ∈ tb := tb_t4 110 rfl rfl
theorem tw_933 : Cond.methodLink "RoofRegattaLaw" 82 (⟨"RoofRegatta", "ahead", "(II)I"⟩ : MethodName) ∈ tb := tb_t4 111 (by decide +kernel) (by decide +kernel)
theorem tw_934 : Cond.instanceMethod (⟨"RoofRegatta", "ahead", "(II)I"⟩ : MethodName) ∈ tb := tb_t4 112 (by decide +kernel) (by decide +kernel)
theorem tw_935 : Cond.selects "RoofRegatta" (⟨"RoofRegatta", "ahead", "(II)I"⟩ : MethodName) (⟨"RoofRegatta", "ahead", "(II)I"⟩ : MethodName) ∈ tb := tb_t4 113 (by decide +kernel) (by decide +kernel)
set_option maxRecDepth 100000 in
theorem tw_936 : Cond.code (⟨"RoofRegatta", "ahead", "(II)I"⟩ : MethodName) prog_1_method_18_code 4 (some .int) ∈ tb := tb_t4 114 rfl rfl
theorem tw_937 : Cond.methodLink "RoofRegatta" 220 (⟨"RoofRegatta$Race", "isAhead", "(III)Z"⟩ : MethodName) ∈ tb := tb_t4 115 (by decide +kernel) (by decide +kernel)
theorem tw_938 : Cond.instanceMethod (⟨"RoofRegatta$Race", "isAhead", "(III)Z"⟩ : MethodName) ∈ tb := tb_t4 116 (by decide +kernel) (by decide +kernel)
theorem tw_939 : Cond.selects "RoofRegatta$Race" (⟨"RoofRegatta$Race", "isAhead", "(III)Z"⟩ : MethodName) (⟨"RoofRegatta$Race", "isAhead", "(III)Z"⟩ : MethodName) ∈ tb := tb_t4 117 (by decide +kernel) (by decide +kernel)
set_option maxRecDepth 100000 in
theorem tw_940 : Cond.code (⟨"RoofRegatta$Race", "isAhead", "(III)Z"⟩ : MethodName) prog_6_method_18_code 4 (some .boolean) ∈ tb := tb_t4 118 rfl rfl
theorem tw_941 : Cond.methodLink "RoofRegattaLaw" 86 (⟨"RoofRegatta", "leade\x72", "(I)I"⟩ : MethodName) ∈ tb := tb_t4 119 (by decide +kernel) (by decide +kernel)
theorem tw_942 : Cond.instanceMethod (⟨"RoofRegatta", "leade\x72", "(I)I"⟩ : MethodName) ∈ tb := tb_t4 120 (by decide +kernel) (by decide +kernel)
theorem tw_943 : Cond.selects "RoofRegatta" (⟨"RoofRegatta", "leade\x72", "(I)I"⟩ : MethodName) (⟨"RoofRegatta", "leade\x72", "(I)I"⟩ : MethodName) ∈ tb := tb_t4 121 (by decide +kernel) (by decide +kernel)
set_option maxRecDepth 100000 in
theorem tw_944 : Cond.code (⟨"RoofRegatta", "leade\x72", "(I)I"⟩ : MethodName) prog_1_method_19_code 4 (some .int) ∈ tb := tb_t4 122 rfl rfl
theorem tw_945 : Cond.methodLink "RoofRegattaLaw" 90 (⟨"RoofRegatta", "full", "()I"⟩ : MethodName) ∈ tb := tb_t4 123 (by decide +kernel) (by decide +kernel)
theorem tw_946 : Cond.instanceMethod (⟨"RoofRegatta", "full", "()I"⟩ : MethodName) ∈ tb := tb_t4 124 (by decide +kernel) (by decide +kernel)
theorem tw_947 : Cond.selects "RoofRegatta" (⟨"RoofRegatta", "full", "()I"⟩ : MethodName) (⟨"RoofRegatta", "full", "()I"⟩ : MethodName) ∈ tb := tb_t4 125 (by decide +kernel) (by decide +kernel)
set_option maxRecDepth 100000 in
theorem tw_948 : Cond.code (⟨"RoofRegatta", "full", "()I"⟩ : MethodName) prog_1_method_20_code 3 (some .int) ∈ tb := tb_t4 126 rfl rfl
theorem tw_949 : Cond.methodLink "RoofRegatta" 224 (⟨"RoofRegatta", "isTold", "()Z"⟩ : MethodName) ∈ tb := tb_t4 127 (by decide +kernel) (by decide +kernel)
theorem tw_951 : Cond.instanceMethod (⟨"RoofRegatta", "isTold", "()Z"⟩ : MethodName) ∈ tb := tb_t4 129 (by decide +kernel) (by decide +kernel)
set_option maxRecDepth 100000 in
theorem tw_952 : Cond.code (⟨"RoofRegatta", "isTold", "()Z"⟩ : MethodName) prog_1_method_68_code 1 (some .boolean) ∈ tb := tb_t4 130 rfl rfl
theorem tw_953 : Cond.methodLink "RoofRegatta" 228 (⟨"RoofRegatta$Race", "hasRoom", "(I)Z"⟩ : MethodName) ∈ tb := tb_t4 131 (by decide +kernel) (by decide +kernel)
theorem tw_954 : Cond.methodLink "RoofRegattaLaw" 94 (⟨"RoofRegatta", "passes", "()I"⟩ : MethodName) ∈ tb := tb_t4 132 (by decide +kernel) (by decide +kernel)
theorem tw_955 : Cond.instanceMethod (⟨"RoofRegatta", "passes", "()I"⟩ : MethodName) ∈ tb := tb_t4 133 (by decide +kernel) (by decide +kernel)
theorem tw_956 : Cond.selects "RoofRegatta" (⟨"RoofRegatta", "passes", "()I"⟩ : MethodName) (⟨"RoofRegatta", "passes", "()I"⟩ : MethodName) ∈ tb := tb_t4 134 (by decide +kernel) (by decide +kernel)
set_option maxRecDepth 100000 in
theorem tw_957 : Cond.code (⟨"RoofRegatta", "passes", "()I"⟩ : MethodName) prog_1_method_21_code 4 (some .int) ∈ tb := tb_t4 135 rfl rfl
theorem tw_958 : Cond.methodLink "RoofRegatta" 231 (⟨"RoofRegatta$Race", "passedBy", "(II)I"⟩ : MethodName) ∈ tb := tb_t4 136 (by decide +kernel) (by decide +kernel)
theorem tw_959 : Cond.instanceMethod (⟨"RoofRegatta$Race", "passedBy", "(II)I"⟩ : MethodName) ∈ tb := tb_t4 137 (by decide +kernel) (by decide +kernel)
theorem tw_960 : Cond.selects "RoofRegatta$Race" (⟨"RoofRegatta$Race", "passedBy", "(II)I"⟩ : MethodName) (⟨"RoofRegatta$Race", "passedBy", "(II)I"⟩ : MethodName) ∈ tb := tb_t4 138 (by decide +kernel) (by decide +kernel)
set_option maxRecDepth 100000 in
theorem tw_961 : Cond.code (⟨"RoofRegatta$Race", "passedBy", "(II)I"⟩ : MethodName) prog_6_method_19_code 5 (some .int) ∈ tb := tb_t4 139 rfl rfl
theorem tw_962 : Cond.methodLink "RoofRegatta$Race" 98 (⟨"RoofRegatta$Race", "isAhead", "(III)Z"⟩ : MethodName) ∈ tb := tb_t4 140 (by decide +kernel) (by decide +kernel)
theorem tw_963 : Cond.methodLink "RoofRegattaLaw" 98 (⟨"RoofRegatta", "fastest", "(I)I"⟩ : MethodName) ∈ tb := tb_t4 141 (by decide +kernel) (by decide +kernel)
theorem tw_964 : Cond.instanceMethod (⟨"RoofRegatta", "fastest", "(I)I"⟩ : MethodName) ∈ tb := tb_t4 142 (by decide +kernel) (by decide +kernel)
theorem tw_965 : Cond.selects "RoofRegatta" (⟨"RoofRegatta", "fastest", "(I)I"⟩ : MethodName) (⟨"RoofRegatta", "fastest", "(I)I"⟩ : MethodName) ∈ tb := tb_t4 143 (by decide +kernel) (by decide +kernel)
set_option maxRecDepth 100000 in
theorem tw_966 : Cond.code (⟨"RoofRegatta", "fastest", "(I)I"⟩ : MethodName) prog_1_method_22_code 4 (some .int) ∈ tb := tb_t4 144 rfl rfl
theorem tw_967 : Cond.methodLink "RoofRegattaLaw" 102 (⟨"RoofRegatta", "storey", "(I)I"⟩ : MethodName) ∈ tb := tb_t4 145 (by decide +kernel) (by decide +kernel)
theorem tw_968 : Cond.instanceMethod (⟨"RoofRegatta", "storey", "(I)I"⟩ : MethodName) ∈ tb := tb_t4 146 (by decide +kernel) (by decide +kernel)
theorem tw_969 : Cond.selects "RoofRegatta" (⟨"RoofRegatta", "storey", "(I)I"⟩ : MethodName) (⟨"RoofRegatta", "storey", "(I)I"⟩ : MethodName) ∈ tb := tb_t4 147 (by decide +kernel) (by decide +kernel)
set_option maxRecDepth 100000 in
theorem tw_970 : Cond.code (⟨"RoofRegatta", "storey", "(I)I"⟩ : MethodName) prog_1_method_23_code 2 (some .int) ∈ tb := tb_t4 148 rfl rfl
theorem tw_971 : Cond.methodLink "RoofRegattaLaw" 106 (⟨"RoofRegatta", "togethe\x72", "()I"⟩ : MethodName) ∈ tb := tb_t4 149 (by decide +kernel) (by decide +kernel)
theorem tw_972 : Cond.instanceMethod (⟨"RoofRegatta", "togethe\x72", "()I"⟩ : MethodName) ∈ tb := tb_t4 150 (by decide +kernel) (by decide +kernel)
theorem tw_973 : Cond.selects "RoofRegatta" (⟨"RoofRegatta", "togethe\x72", "()I"⟩ : MethodName) (⟨"RoofRegatta", "togethe\x72", "()I"⟩ : MethodName) ∈ tb := tb_t4 151 (by decide +kernel) (by decide +kernel)
set_option maxRecDepth 100000 in
theorem tw_974 : Cond.code (⟨"RoofRegatta", "togethe\x72", "()I"⟩ : MethodName) prog_1_method_24_code 1 (some .int) ∈ tb := tb_t4 152 rfl rfl
theorem tw_975 : Cond.methodLink "RoofRegatta" 234 (⟨"RoofRegatta$Race", "friendsTogethe\x72", "()I"⟩ : MethodName) ∈ tb := tb_t4 153 (by decide +kernel) (by decide +kernel)
theorem tw_976 : Cond.instanceMethod (⟨"RoofRegatta$Race", "friendsTogethe\x72", "()I"⟩ : MethodName) ∈ tb := tb_t4 154 (by decide +kernel) (by decide +kernel)
theorem tw_977 : Cond.selects "RoofRegatta$Race" (⟨"RoofRegatta$Race", "friendsTogethe\x72", "()I"⟩ : MethodName) (⟨"RoofRegatta$Race", "friendsTogethe\x72", "()I"⟩ : MethodName) ∈ tb := tb_t4 155 (by decide +kernel) (by decide +kernel)
set_option maxRecDepth 100000 in
theorem tw_978 : Cond.code (⟨"RoofRegatta$Race", "friendsTogethe\x72", "()I"⟩ : MethodName) prog_6_method_21_code 4 (some .int) ∈ tb := tb_t4 156 rfl rfl
theorem tw_979 : Cond.methodLink "RoofRegattaLaw" 110 (⟨"RoofRegatta", "bestRank", "(I)I"⟩ : MethodName) ∈ tb := tb_t4 157 (by decide +kernel) (by decide +kernel)
theorem tw_980 : Cond.instanceMethod (⟨"RoofRegatta", "bestRank", "(I)I"⟩ : MethodName) ∈ tb := tb_t4 158 (by decide +kernel) (by decide +kernel)
theorem tw_981 : Cond.selects "RoofRegatta" (⟨"RoofRegatta", "bestRank", "(I)I"⟩ : MethodName) (⟨"RoofRegatta", "bestRank", "(I)I"⟩ : MethodName) ∈ tb := tb_t4 159 (by decide +kernel) (by decide +kernel)
set_option maxRecDepth 100000 in
theorem tw_982 : Cond.code (⟨"RoofRegatta", "bestRank", "(I)I"⟩ : MethodName) prog_1_method_25_code 2 (some .int) ∈ tb := tb_t4 160 rfl rfl
theorem tw_983 : Cond.methodLink "RoofRegatta" 238 (⟨"RoofRegatta$Loads", "findBest", "(I)V"⟩ : MethodName) ∈ tb := tb_t4 161 (by decide +kernel) (by decide +kernel)
theorem tw_984 : Cond.instanceMethod (⟨"RoofRegatta$Loads", "findBest", "(I)V"⟩ : MethodName) ∈ tb := tb_t4 162 (by decide +kernel) (by decide +kernel)
theorem tw_985 : Cond.selects "RoofRegatta$Loads" (⟨"RoofRegatta$Loads", "findBest", "(I)V"⟩ : MethodName) (⟨"RoofRegatta$Loads", "findBest", "(I)V"⟩ : MethodName) ∈ tb := tb_t4 163 (by decide +kernel) (by decide +kernel)
set_option maxRecDepth 100000 in
theorem tw_986 : Cond.code (⟨"RoofRegatta$Loads", "findBest", "(I)V"⟩ : MethodName) prog_4_method_3_code 3 (none : Option Jvm.ClassFile.FieldType) ∈ tb := tb_t4 164 rfl rfl
theorem tw_987 : Cond.methodLink "RoofRegatta$Loads" 49 (⟨"RoofRegatta$Race", "packed", "()J"⟩ : MethodName) ∈ tb := tb_t4 165 (by decide +kernel) (by decide +kernel)
theorem tw_988 : Cond.instanceMethod (⟨"RoofRegatta$Race", "packed", "()J"⟩ : MethodName) ∈ tb := tb_t4 166 (by decide +kernel) (by decide +kernel)
theorem tw_989 : Cond.selects "RoofRegatta$Race" (⟨"RoofRegatta$Race", "packed", "()J"⟩ : MethodName) (⟨"RoofRegatta$Race", "packed", "()J"⟩ : MethodName) ∈ tb := tb_t4 167 (by decide +kernel) (by decide +kernel)
set_option maxRecDepth 100000 in
theorem tw_990 : Cond.code (⟨"RoofRegatta$Race", "packed", "()J"⟩ : MethodName) prog_6_method_4_code 4 (some .long) ∈ tb := tb_t4 168 rfl rfl
theorem tw_991 : Cond.methodLink "RoofRegatta$Loads" 53 (⟨"RoofRegatta$Race", "become", "(LRoofRegatta$Race;)V"⟩ : MethodName) ∈ tb := tb_t4 169 (by decide +kernel) (by decide +kernel)
theorem tw_992 : Cond.methodLink "RoofRegatta$Loads" 62 (⟨"RoofRegatta$Loads", "measure", "(I)V"⟩ : MethodName) ∈ tb := tb_t4 170 (by decide +kernel) (by decide +kernel)
theorem tw_994 : Cond.instanceMethod (⟨"RoofRegatta$Loads", "measure", "(I)V"⟩ : MethodName) ∈ tb := tb_t4 172 (by decide +kernel) (by decide +kernel)
set_option maxRecDepth 100000 in
theorem tw_995 : Cond.code (⟨"RoofRegatta$Loads", "measure", "(I)V"⟩ : MethodName) prog_4_method_5_code 3 (none : Option Jvm.ClassFile.FieldType) ∈ tb := tb_t4 173 rfl rfl
theorem tw_996 : Cond.methodLink "RoofRegatta$Loads" 77 (⟨"RoofRegatta$Race", "wholeTime", "(I)I"⟩ : MethodName) ∈ tb := tb_t4 174 (by decide +kernel) (by decide +kernel)
theorem tw_997 : Cond.methodLink "RoofRegatta$Loads" 66 (⟨"RoofRegatta$Standing", "begin", "(LRoofRegatta$Race;)V"⟩ : MethodName) ∈ tb := tb_t4 175 (by decide +kernel) (by decide +kernel)
theorem tw_998 : Cond.methodLink "RoofRegatta$Loads" 71 (⟨"RoofRegatta$Loads", "search", "(I)V"⟩ : MethodName) ∈ tb := tb_t4 176 (by decide +kernel) (by decide +kernel)
theorem tw_1000 : Cond.instanceMethod (⟨"RoofRegatta$Loads", "search", "(I)V"⟩ : MethodName) ∈ tb := tb_t4 178 (by decide +kernel) (by decide +kernel)
set_option maxRecDepth 100000 in
theorem tw_1001 : Cond.code (⟨"RoofRegatta$Loads", "search", "(I)V"⟩ : MethodName) prog_4_method_6_code 4 (none : Option Jvm.ClassFile.FieldType) ∈ tb := tb_t4 179 rfl rfl
theorem tw_1002 : Cond.constant "RoofRegatta$Loads" 81 (1000000 : Int32) ∈ tb := tb_t4 180 (by decide +kernel) (by decide +kernel)
theorem tw_1003 : Cond.methodLink "RoofRegatta$Loads" 88 (⟨"RoofRegatta$Loads", "allAshore", "()V"⟩ : MethodName) ∈ tb := tb_t4 181 (by decide +kernel) (by decide +kernel)
theorem tw_1005 : Cond.instanceMethod (⟨"RoofRegatta$Loads", "allAshore", "()V"⟩ : MethodName) ∈ tb := tb_t4 183 (by decide +kernel) (by decide +kernel)
set_option maxRecDepth 100000 in
theorem tw_1006 : Cond.code (⟨"RoofRegatta$Loads", "allAshore", "()V"⟩ : MethodName) prog_4_method_7_code 2 (none : Option Jvm.ClassFile.FieldType) ∈ tb := tb_t4 184 rfl rfl
theorem tw_1007 : Cond.methodLink "RoofRegatta$Loads" 91 (⟨"RoofRegatta$Told", "countOfLoads", "()I"⟩ : MethodName) ∈ tb := tb_t4 185 (by decide +kernel) (by decide +kernel)
theorem tw_1008 : Cond.instanceMethod (⟨"RoofRegatta$Told", "countOfLoads", "()I"⟩ : MethodName) ∈ tb := tb_t4 186 (by decide +kernel) (by decide +kernel)
theorem tw_1009 : Cond.selects "RoofRegatta$Told" (⟨"RoofRegatta$Told", "countOfLoads", "()I"⟩ : MethodName) (⟨"RoofRegatta$Told", "countOfLoads", "()I"⟩ : MethodName) ∈ tb := tb_t4 187 (by decide +kernel) (by decide +kernel)
set_option maxRecDepth 100000 in
theorem tw_1010 : Cond.code (⟨"RoofRegatta$Told", "countOfLoads", "()I"⟩ : MethodName) prog_11_method_7_code 3 (some .int) ∈ tb := tb_t4 188 rfl rfl
theorem tw_1011 : Cond.methodLink "RoofRegatta$Loads" 95 (⟨"RoofRegatta$Race", "fits", "()Z"⟩ : MethodName) ∈ tb := tb_t4 189 (by decide +kernel) (by decide +kernel)
theorem tw_1012 : Cond.instanceMethod (⟨"RoofRegatta$Race", "fits", "()Z"⟩ : MethodName) ∈ tb := tb_t4 190 (by decide +kernel) (by decide +kernel)
theorem tw_1013 : Cond.selects "RoofRegatta$Race" (⟨"RoofRegatta$Race", "fits", "()Z"⟩ : MethodName) (⟨"RoofRegatta$Race", "fits", "()Z"⟩ : MethodName) ∈ tb := tb_t4 191 (by decide +kernel) (by decide +kernel)
set_option maxRecDepth 100000 in
theorem tw_1014 : Cond.code (⟨"RoofRegatta$Race", "fits", "()Z"⟩ : MethodName) prog_6_method_22_code 2 (some .boolean) ∈ tb := tb_t4 192 rfl rfl
theorem tw_1015 : Cond.methodLink "RoofRegatta$Loads" 99 (⟨"RoofRegatta$Race", "friendsTogethe\x72", "()I"⟩ : MethodName) ∈ tb := tb_t4 193 (by decide +kernel) (by decide +kernel)
theorem tw_1016 : Cond.methodLink "RoofRegatta$Loads" 102 (⟨"RoofRegatta$Loads", "rankByLoad", "(I)I"⟩ : MethodName) ∈ tb := tb_t4 194 (by decide +kernel) (by decide +kernel)
theorem tw_1018 : Cond.instanceMethod (⟨"RoofRegatta$Loads", "rankByLoad", "(I)I"⟩ : MethodName) ∈ tb := tb_t4 196 (by decide +kernel) (by decide +kernel)
set_option maxRecDepth 100000 in
theorem tw_1019 : Cond.code (⟨"RoofRegatta$Loads", "rankByLoad", "(I)I"⟩ : MethodName) prog_4_method_9_code 3 (some .int) ∈ tb := tb_t4 197 rfl rfl
theorem tw_1020 : Cond.methodLink "RoofRegatta$Loads" 113 (⟨"RoofRegatta$Standing", "settle", "()V"⟩ : MethodName) ∈ tb := tb_t4 198 (by decide +kernel) (by decide +kernel)
theorem tw_1021 : Cond.methodLink "RoofRegatta$Loads" 116 (⟨"RoofRegatta$Standing", "rankOf", "(I)I"⟩ : MethodName) ∈ tb := tb_t4 199 (by decide +kernel) (by decide +kernel)
theorem tw_1022 : Cond.methodLink "RoofRegatta$Loads" 105 (⟨"RoofRegatta$Loads", "compare", "(I)V"⟩ : MethodName) ∈ tb := tb_t4 200 (by decide +kernel) (by decide +kernel)
theorem tw_1024 : Cond.instanceMethod (⟨"RoofRegatta$Loads", "compare", "(I)V"⟩ : MethodName) ∈ tb := tb_t4 202 (by decide +kernel) (by decide +kernel)
set_option maxRecDepth 100000 in
theorem tw_1025 : Cond.code (⟨"RoofRegatta$Loads", "compare", "(I)V"⟩ : MethodName) prog_4_method_10_code 3 (none : Option Jvm.ClassFile.FieldType) ∈ tb := tb_t4 203 rfl rfl
theorem tw_1026 : Cond.methodLink "RoofRegatta$Loads" 119 (⟨"RoofRegatta$Race", "movesFrom", "(LRoofRegatta$Race;)I"⟩ : MethodName) ∈ tb := tb_t4 204 (by decide +kernel) (by decide +kernel)
theorem tw_1027 : Cond.instanceMethod (⟨"RoofRegatta$Race", "movesFrom", "(LRoofRegatta$Race;)I"⟩ : MethodName) ∈ tb := tb_t4 205 (by decide +kernel) (by decide +kernel)
theorem tw_1028 : Cond.selects "RoofRegatta$Race" (⟨"RoofRegatta$Race", "movesFrom", "(LRoofRegatta$Race;)I"⟩ : MethodName) (⟨"RoofRegatta$Race", "movesFrom", "(LRoofRegatta$Race;)I"⟩ : MethodName) ∈ tb := tb_t4 206 (by decide +kernel) (by decide +kernel)
set_option maxRecDepth 100000 in
theorem tw_1029 : Cond.code (⟨"RoofRegatta$Race", "movesFrom", "(LRoofRegatta$Race;)I"⟩ : MethodName) prog_6_method_23_code 4 (some .int) ∈ tb := tb_t4 207 rfl rfl
theorem tw_1030 : Cond.methodLink "RoofRegatta$Loads" 123 (⟨"java/lang/System", "arraycopy", "(Ljava/lang/Object;ILjava/lang/Object;II)V"⟩ : MethodName) ∈ tb := tb_t4 208 (by decide +kernel) (by decide +kernel)
theorem tw_1031 : Cond.methodLink "RoofRegatta$Loads" 108 (⟨"RoofRegatta$Loads", "nextLoad", "()V"⟩ : MethodName) ∈ tb := tb_t4 209 (by decide +kernel) (by decide +kernel)
theorem tw_1033 : Cond.instanceMethod (⟨"RoofRegatta$Loads", "nextLoad", "()V"⟩ : MethodName) ∈ tb := tb_t4 211 (by decide +kernel) (by decide +kernel)
set_option maxRecDepth 100000 in
theorem tw_1034 : Cond.code (⟨"RoofRegatta$Loads", "nextLoad", "()V"⟩ : MethodName) prog_4_method_8_code 4 (none : Option Jvm.ClassFile.FieldType) ∈ tb := tb_t4 212 rfl rfl
theorem tw_1035 : Cond.methodLink "RoofRegattaLaw" 114 (⟨"RoofRegatta", "loadOf", "(II)I"⟩ : MethodName) ∈ tb := tb_t4 213 (by decide +kernel) (by decide +kernel)
theorem tw_1036 : Cond.instanceMethod (⟨"RoofRegatta", "loadOf", "(II)I"⟩ : MethodName) ∈ tb := tb_t4 214 (by decide +kernel) (by decide +kernel)
theorem tw_1037 : Cond.selects "RoofRegatta" (⟨"RoofRegatta", "loadOf", "(II)I"⟩ : MethodName) (⟨"RoofRegatta", "loadOf", "(II)I"⟩ : MethodName) ∈ tb := tb_t4 215 (by decide +kernel) (by decide +kernel)
set_option maxRecDepth 100000 in
theorem tw_1038 : Cond.code (⟨"RoofRegatta", "loadOf", "(II)I"⟩ : MethodName) prog_1_method_26_code 3 (some .int) ∈ tb := tb_t4 216 rfl rfl
theorem tw_1039 : Cond.methodLink "RoofRegattaLaw" 118 (⟨"RoofRegatta", "loadMoves", "(I)I"⟩ : MethodName) ∈ tb := tb_t4 217 (by decide +kernel) (by decide +kernel)
theorem tw_1040 : Cond.instanceMethod (⟨"RoofRegatta", "loadMoves", "(I)I"⟩ : MethodName) ∈ tb := tb_t4 218 (by decide +kernel) (by decide +kernel)
theorem tw_1041 : Cond.selects "RoofRegatta" (⟨"RoofRegatta", "loadMoves", "(I)I"⟩ : MethodName) (⟨"RoofRegatta", "loadMoves", "(I)I"⟩ : MethodName) ∈ tb := tb_t4 219 (by decide +kernel) (by decide +kernel)
set_option maxRecDepth 100000 in
theorem tw_1042 : Cond.code (⟨"RoofRegatta", "loadMoves", "(I)I"⟩ : MethodName) prog_1_method_27_code 2 (some .int) ∈ tb := tb_t4 220 rfl rfl
theorem tw_1043 : Cond.methodLink "RoofRegattaLaw" 122 (⟨"RoofRegatta", "leastTotal", "(I)I"⟩ : MethodName) ∈ tb := tb_t4 221 (by decide +kernel) (by decide +kernel)
theorem tw_1044 : Cond.instanceMethod (⟨"RoofRegatta", "leastTotal", "(I)I"⟩ : MethodName) ∈ tb := tb_t4 222 (by decide +kernel) (by decide +kernel)
theorem tw_1045 : Cond.selects "RoofRegatta" (⟨"RoofRegatta", "leastTotal", "(I)I"⟩ : MethodName) (⟨"RoofRegatta", "leastTotal", "(I)I"⟩ : MethodName) ∈ tb := tb_t4 223 (by decide +kernel) (by decide +kernel)
set_option maxRecDepth 100000 in
theorem tw_1046 : Cond.code (⟨"RoofRegatta", "leastTotal", "(I)I"⟩ : MethodName) prog_1_method_28_code 2 (some .int) ∈ tb := tb_t4 224 rfl rfl
theorem tw_1047 : Cond.methodLink "RoofRegatta" 250 (⟨"RoofRegatta$Loads", "leastTime", "(I)I"⟩ : MethodName) ∈ tb := tb_t4 225 (by decide +kernel) (by decide +kernel)
theorem tw_1048 : Cond.instanceMethod (⟨"RoofRegatta$Loads", "leastTime", "(I)I"⟩ : MethodName) ∈ tb := tb_t4 226 (by decide +kernel) (by decide +kernel)
theorem tw_1049 : Cond.selects "RoofRegatta$Loads" (⟨"RoofRegatta$Loads", "leastTime", "(I)I"⟩ : MethodName) (⟨"RoofRegatta$Loads", "leastTime", "(I)I"⟩ : MethodName) ∈ tb := tb_t4 227 (by decide +kernel) (by decide +kernel)
set_option maxRecDepth 100000 in
theorem tw_1050 : Cond.code (⟨"RoofRegatta$Loads", "leastTime", "(I)I"⟩ : MethodName) prog_4_method_11_code 4 (some .int) ∈ tb := tb_t4 228 rfl rfl
theorem tw_1051 : Cond.methodLink "RoofRegatta$Loads" 129 (⟨"java/lang/Intege\x72", "bitCount", "(I)I"⟩ : MethodName) ∈ tb := tb_t4 229 (by decide +kernel) (by decide +kernel)
theorem tw_1052 : Cond.methodLink "RoofRegatta$Loads" 137 (⟨"java/lang/Math", "min", "(II)I"⟩ : MethodName) ∈ tb := tb_t4 230 (by decide +kernel) (by decide +kernel)
theorem tw_1053 : Cond.methodLink "RoofRegattaLaw" 126 (⟨"RoofRegatta", "friendly", "()I"⟩ : MethodName) ∈ tb := tb_t4 231 (by decide +kernel) (by decide +kernel)
theorem tw_1054 : Cond.instanceMethod (⟨"RoofRegatta", "friendly", "()I"⟩ : MethodName) ∈ tb := tb_t4 232 (by decide +kernel) (by decide +kernel)
theorem tw_1055 : Cond.selects "RoofRegatta" (⟨"RoofRegatta", "friendly", "()I"⟩ : MethodName) (⟨"RoofRegatta", "friendly", "()I"⟩ : MethodName) ∈ tb := tb_t4 233 (by decide +kernel) (by decide +kernel)
set_option maxRecDepth 100000 in
theorem tw_1056 : Cond.code (⟨"RoofRegatta", "friendly", "()I"⟩ : MethodName) prog_1_method_29_code 1 (some .int) ∈ tb := tb_t4 234 rfl rfl
theorem tw_1057 : Cond.methodLink "RoofRegatta" 253 (⟨"RoofRegatta$Loads", "findFriendly", "()V"⟩ : MethodName) ∈ tb := tb_t4 235 (by decide +kernel) (by decide +kernel)
theorem tw_1058 : Cond.instanceMethod (⟨"RoofRegatta$Loads", "findFriendly", "()V"⟩ : MethodName) ∈ tb := tb_t4 236 (by decide +kernel) (by decide +kernel)
theorem tw_1059 : Cond.selects "RoofRegatta$Loads" (⟨"RoofRegatta$Loads", "findFriendly", "()V"⟩ : MethodName) (⟨"RoofRegatta$Loads", "findFriendly", "()V"⟩ : MethodName) ∈ tb := tb_t4 237 (by decide +kernel) (by decide +kernel)
set_option maxRecDepth 100000 in
theorem tw_1060 : Cond.code (⟨"RoofRegatta$Loads", "findFriendly", "()V"⟩ : MethodName) prog_4_method_4_code 1 (none : Option Jvm.ClassFile.FieldType) ∈ tb := tb_t4 238 rfl rfl
theorem tw_1061 : Cond.methodLink "RoofRegattaLaw" 130 (⟨"RoofRegatta", "friendlyOf", "(I)I"⟩ : MethodName) ∈ tb := tb_t4 239 (by decide +kernel) (by decide +kernel)
theorem tw_1062 : Cond.instanceMethod (⟨"RoofRegatta", "friendlyOf", "(I)I"⟩ : MethodName) ∈ tb := tb_t5 0 (by decide +kernel) (by decide +kernel)
theorem tw_1063 : Cond.selects "RoofRegatta" (⟨"RoofRegatta", "friendlyOf", "(I)I"⟩ : MethodName) (⟨"RoofRegatta", "friendlyOf", "(I)I"⟩ : MethodName) ∈ tb := tb_t5 1 (by decide +kernel) (by decide +kernel)
set_option maxRecDepth 100000 in
theorem tw_1064 : Cond.code (⟨"RoofRegatta", "friendlyOf", "(I)I"⟩ : MethodName) prog_1_method_30_code 2 (some .int) ∈ tb := tb_t5 2 rfl rfl
theorem tw_1065 : Cond.methodLink "RoofRegattaLaw" 134 (⟨"RoofRegatta", "leastFo\x72", "(II)I"⟩ : MethodName) ∈ tb := tb_t5 3 (by decide +kernel) (by decide +kernel)
theorem tw_1066 : Cond.instanceMethod (⟨"RoofRegatta", "leastFo\x72", "(II)I"⟩ : MethodName) ∈ tb := tb_t5 4 (by decide +kernel) (by decide +kernel)
theorem tw_1067 : Cond.selects "RoofRegatta" (⟨"RoofRegatta", "leastFo\x72", "(II)I"⟩ : MethodName) (⟨"RoofRegatta", "leastFo\x72", "(II)I"⟩ : MethodName) ∈ tb := tb_t5 5 (by decide +kernel) (by decide +kernel)
set_option maxRecDepth 100000 in
theorem tw_1068 : Cond.code (⟨"RoofRegatta", "leastFo\x72", "(II)I"⟩ : MethodName) prog_1_method_31_code 3 (some .int) ∈ tb := tb_t5 6 rfl rfl
theorem tw_1069 : Cond.methodLink "RoofRegatta" 256 (⟨"RoofRegatta", "isWithin", "(III)Z"⟩ : MethodName) ∈ tb := tb_t5 7 (by decide +kernel) (by decide +kernel)
theorem tw_1070 : Cond.static (⟨"RoofRegatta", "isWithin", "(III)Z"⟩ : MethodName) ∈ tb := tb_t5 8 (by decide +kernel) (by decide +kernel)
set_option maxRecDepth 100000 in
theorem tw_1071 : Cond.code (⟨"RoofRegatta", "isWithin", "(III)Z"⟩ : MethodName) prog_1_method_72_code 3 (some .boolean) ∈ tb := tb_t5 9 rfl rfl
theorem tw_1072 : Cond.methodLink "RoofRegatta" 259 (⟨"RoofRegatta$Loads", "fewestFo\x72", "(II)I"⟩ : MethodName) ∈ tb := tb_t5 10 (by decide +kernel) (by decide +kernel)
theorem tw_1073 : Cond.instanceMethod (⟨"RoofRegatta$Loads", "fewestFo\x72", "(II)I"⟩ : MethodName) ∈ tb := tb_t5 11 (by decide +kernel) (by decide +kernel)
theorem tw_1074 : Cond.selects "RoofRegatta$Loads" (⟨"RoofRegatta$Loads", "fewestFo\x72", "(II)I"⟩ : MethodName) (⟨"RoofRegatta$Loads", "fewestFo\x72", "(II)I"⟩ : MethodName) ∈ tb := tb_t5 12 (by decide +kernel) (by decide +kernel)
set_option maxRecDepth 100000 in
theorem tw_1075 : Cond.code (⟨"RoofRegatta$Loads", "fewestFo\x72", "(II)I"⟩ : MethodName) prog_4_method_12_code 6 (some .int) ∈ tb := tb_t5 13 rfl rfl
theorem tw_1076 : Cond.methodLink "RoofRegattaLaw" 138 (⟨"RoofRegatta", "toMove", "(I)I"⟩ : MethodName) ∈ tb := tb_t5 14 (by decide +kernel) (by decide +kernel)
theorem tw_1077 : Cond.instanceMethod (⟨"RoofRegatta", "toMove", "(I)I"⟩ : MethodName) ∈ tb := tb_t5 15 (by decide +kernel) (by decide +kernel)
theorem tw_1078 : Cond.selects "RoofRegatta" (⟨"RoofRegatta", "toMove", "(I)I"⟩ : MethodName) (⟨"RoofRegatta", "toMove", "(I)I"⟩ : MethodName) ∈ tb := tb_t5 16 (by decide +kernel) (by decide +kernel)
set_option maxRecDepth 100000 in
theorem tw_1079 : Cond.code (⟨"RoofRegatta", "toMove", "(I)I"⟩ : MethodName) prog_1_method_32_code 2 (some .int) ∈ tb := tb_t5 17 rfl rfl
theorem tw_1080 : Cond.methodLink "RoofRegatta" 262 (⟨"RoofRegatta$Loads", "oneToMove", "(I)I"⟩ : MethodName) ∈ tb := tb_t5 18 (by decide +kernel) (by decide +kernel)
theorem tw_1081 : Cond.instanceMethod (⟨"RoofRegatta$Loads", "oneToMove", "(I)I"⟩ : MethodName) ∈ tb := tb_t5 19 (by decide +kernel) (by decide +kernel)
theorem tw_1082 : Cond.selects "RoofRegatta$Loads" (⟨"RoofRegatta$Loads", "oneToMove", "(I)I"⟩ : MethodName) (⟨"RoofRegatta$Loads", "oneToMove", "(I)I"⟩ : MethodName) ∈ tb := tb_t5 20 (by decide +kernel) (by decide +kernel)
set_option maxRecDepth 100000 in
theorem tw_1083 : Cond.code (⟨"RoofRegatta$Loads", "oneToMove", "(I)I"⟩ : MethodName) prog_4_method_13_code 6 (some .int) ∈ tb := tb_t5 21 rfl rfl
theorem tw_1084 : Cond.methodLink "RoofRegatta$Loads" 143 (⟨"RoofRegatta$Race", "hasRoom", "(I)Z"⟩ : MethodName) ∈ tb := tb_t5 22 (by decide +kernel) (by decide +kernel)
theorem tw_1085 : Cond.methodLink "RoofRegattaLaw" 142 (⟨"RoofRegatta", "waterFo\x72", "(II)I"⟩ : MethodName) ∈ tb := tb_t5 23 (by decide +kernel) (by decide +kernel)
theorem tw_1086 : Cond.instanceMethod (⟨"RoofRegatta", "waterFo\x72", "(II)I"⟩ : MethodName) ∈ tb := tb_t5 24 (by decide +kernel) (by decide +kernel)
theorem tw_1087 : Cond.selects "RoofRegatta" (⟨"RoofRegatta", "waterFo\x72", "(II)I"⟩ : MethodName) (⟨"RoofRegatta", "waterFo\x72", "(II)I"⟩ : MethodName) ∈ tb := tb_t5 25 (by decide +kernel) (by decide +kernel)
set_option maxRecDepth 100000 in
theorem tw_1088 : Cond.code (⟨"RoofRegatta", "waterFo\x72", "(II)I"⟩ : MethodName) prog_1_method_33_code 4 (some .int) ∈ tb := tb_t5 26 rfl rfl
theorem tw_1089 : Cond.methodLink "RoofRegattaLaw" 146 (⟨"RoofRegatta", "bestSwap", "(I)I"⟩ : MethodName) ∈ tb := tb_t5 27 (by decide +kernel) (by decide +kernel)
theorem tw_1090 : Cond.instanceMethod (⟨"RoofRegatta", "bestSwap", "(I)I"⟩ : MethodName) ∈ tb := tb_t5 28 (by decide +kernel) (by decide +kernel)
theorem tw_1091 : Cond.selects "RoofRegatta" (⟨"RoofRegatta", "bestSwap", "(I)I"⟩ : MethodName) (⟨"RoofRegatta", "bestSwap", "(I)I"⟩ : MethodName) ∈ tb := tb_t5 29 (by decide +kernel) (by decide +kernel)
set_option maxRecDepth 100000 in
theorem tw_1092 : Cond.code (⟨"RoofRegatta", "bestSwap", "(I)I"⟩ : MethodName) prog_1_method_34_code 2 (some .int) ∈ tb := tb_t5 30 rfl rfl
theorem tw_1093 : Cond.methodLink "RoofRegatta" 268 (⟨"RoofRegatta$Loads", "twoToSwap", "(I)I"⟩ : MethodName) ∈ tb := tb_t5 31 (by decide +kernel) (by decide +kernel)
theorem tw_1094 : Cond.instanceMethod (⟨"RoofRegatta$Loads", "twoToSwap", "(I)I"⟩ : MethodName) ∈ tb := tb_t5 32 (by decide +kernel) (by decide +kernel)
theorem tw_1095 : Cond.selects "RoofRegatta$Loads" (⟨"RoofRegatta$Loads", "twoToSwap", "(I)I"⟩ : MethodName) (⟨"RoofRegatta$Loads", "twoToSwap", "(I)I"⟩ : MethodName) ∈ tb := tb_t5 33 (by decide +kernel) (by decide +kernel)
set_option maxRecDepth 100000 in
theorem tw_1096 : Cond.code (⟨"RoofRegatta$Loads", "twoToSwap", "(I)I"⟩ : MethodName) prog_4_method_14_code 6 (some .int) ∈ tb := tb_t5 34 rfl rfl
theorem tw_1097 : Cond.methodLink "RoofRegatta$Loads" 147 (⟨"RoofRegatta$Race", "placeOf", "(I)I"⟩ : MethodName) ∈ tb := tb_t5 35 (by decide +kernel) (by decide +kernel)
theorem tw_1098 : Cond.methodLink "RoofRegatta$Loads" 150 (⟨"RoofRegatta$Race", "put", "(II)V"⟩ : MethodName) ∈ tb := tb_t5 36 (by decide +kernel) (by decide +kernel)
theorem tw_1099 : Cond.methodLink "RoofRegattaLaw" 150 (⟨"RoofRegatta", "bestLane", "(I)I"⟩ : MethodName) ∈ tb := tb_t5 37 (by decide +kernel) (by decide +kernel)
theorem tw_1100 : Cond.instanceMethod (⟨"RoofRegatta", "bestLane", "(I)I"⟩ : MethodName) ∈ tb := tb_t5 38 (by decide +kernel) (by decide +kernel)
theorem tw_1101 : Cond.selects "RoofRegatta" (⟨"RoofRegatta", "bestLane", "(I)I"⟩ : MethodName) (⟨"RoofRegatta", "bestLane", "(I)I"⟩ : MethodName) ∈ tb := tb_t5 39 (by decide +kernel) (by decide +kernel)
set_option maxRecDepth 100000 in
theorem tw_1102 : Cond.code (⟨"RoofRegatta", "bestLane", "(I)I"⟩ : MethodName) prog_1_method_35_code 3 (some .int) ∈ tb := tb_t5 40 rfl rfl
theorem tw_1103 : Cond.methodLink "RoofRegatta" 271 (⟨"RoofRegatta$Race", "takeLane", "(II)V"⟩ : MethodName) ∈ tb := tb_t5 41 (by decide +kernel) (by decide +kernel)
theorem tw_1104 : Cond.methodLink "RoofRegattaLaw" 154 (⟨"RoofRegatta", "fires", "()I"⟩ : MethodName) ∈ tb := tb_t5 42 (by decide +kernel) (by decide +kernel)
theorem tw_1105 : Cond.instanceMethod (⟨"RoofRegatta", "fires", "()I"⟩ : MethodName) ∈ tb := tb_t5 43 (by decide +kernel) (by decide +kernel)
theorem tw_1106 : Cond.selects "RoofRegatta" (⟨"RoofRegatta", "fires", "()I"⟩ : MethodName) (⟨"RoofRegatta", "fires", "()I"⟩ : MethodName) ∈ tb := tb_t5 44 (by decide +kernel) (by decide +kernel)
set_option maxRecDepth 100000 in
theorem tw_1107 : Cond.code (⟨"RoofRegatta", "fires", "()I"⟩ : MethodName) prog_1_method_36_code 1 (some .int) ∈ tb := tb_t5 45 rfl rfl
theorem tw_1108 : Cond.methodLink "RoofRegatta" 275 (⟨"RoofRegatta$Fires", "find", "()V"⟩ : MethodName) ∈ tb := tb_t5 46 (by decide +kernel) (by decide +kernel)
theorem tw_1109 : Cond.instanceMethod (⟨"RoofRegatta$Fires", "find", "()V"⟩ : MethodName) ∈ tb := tb_t5 47 (by decide +kernel) (by decide +kernel)
theorem tw_1110 : Cond.selects "RoofRegatta$Fires" (⟨"RoofRegatta$Fires", "find", "()V"⟩ : MethodName) (⟨"RoofRegatta$Fires", "find", "()V"⟩ : MethodName) ∈ tb := tb_t5 48 (by decide +kernel) (by decide +kernel)
set_option maxRecDepth 100000 in
theorem tw_1111 : Cond.code (⟨"RoofRegatta$Fires", "find", "()V"⟩ : MethodName) prog_2_method_2_code 2 (none : Option Jvm.ClassFile.FieldType) ∈ tb := tb_t5 49 rfl rfl
theorem tw_1112 : Cond.methodLink "RoofRegatta$Fires" 22 (⟨"RoofRegatta$Race", "become", "(LRoofRegatta$Race;)V"⟩ : MethodName) ∈ tb := tb_t5 50 (by decide +kernel) (by decide +kernel)
theorem tw_1113 : Cond.methodLink "RoofRegatta$Fires" 44 (⟨"RoofRegatta$Race", "firstNotSo", "()I"⟩ : MethodName) ∈ tb := tb_t5 51 (by decide +kernel) (by decide +kernel)
theorem tw_1114 : Cond.instanceMethod (⟨"RoofRegatta$Race", "firstNotSo", "()I"⟩ : MethodName) ∈ tb := tb_t5 52 (by decide +kernel) (by decide +kernel)
theorem tw_1115 : Cond.selects "RoofRegatta$Race" (⟨"RoofRegatta$Race", "firstNotSo", "()I"⟩ : MethodName) (⟨"RoofRegatta$Race", "firstNotSo", "()I"⟩ : MethodName) ∈ tb := tb_t5 53 (by decide +kernel) (by decide +kernel)
set_option maxRecDepth 100000 in
theorem tw_1116 : Cond.code (⟨"RoofRegatta$Race", "firstNotSo", "()I"⟩ : MethodName) prog_6_method_20_code 2 (some .int) ∈ tb := tb_t5 54 rfl rfl
theorem tw_1117 : Cond.methodLink "RoofRegattaLaw" 158 (⟨"RoofRegatta", "fireAt", "(I)I"⟩ : MethodName) ∈ tb := tb_t5 55 (by decide +kernel) (by decide +kernel)
theorem tw_1118 : Cond.instanceMethod (⟨"RoofRegatta", "fireAt", "(I)I"⟩ : MethodName) ∈ tb := tb_t5 56 (by decide +kernel) (by decide +kernel)
theorem tw_1119 : Cond.selects "RoofRegatta" (⟨"RoofRegatta", "fireAt", "(I)I"⟩ : MethodName) (⟨"RoofRegatta", "fireAt", "(I)I"⟩ : MethodName) ∈ tb := tb_t5 57 (by decide +kernel) (by decide +kernel)
set_option maxRecDepth 100000 in
theorem tw_1120 : Cond.code (⟨"RoofRegatta", "fireAt", "(I)I"⟩ : MethodName) prog_1_method_37_code 2 (some .int) ∈ tb := tb_t5 58 rfl rfl
theorem tw_1121 : Cond.methodLink "RoofRegattaLaw" 162 (⟨"RoofRegatta", "could", "()I"⟩ : MethodName) ∈ tb := tb_t5 59 (by decide +kernel) (by decide +kernel)
theorem tw_1122 : Cond.instanceMethod (⟨"RoofRegatta", "could", "()I"⟩ : MethodName) ∈ tb := tb_t5 60 (by decide +kernel) (by decide +kernel)
theorem tw_1123 : Cond.selects "RoofRegatta" (⟨"RoofRegatta", "could", "()I"⟩ : MethodName) (⟨"RoofRegatta", "could", "()I"⟩ : MethodName) ∈ tb := tb_t5 61 (by decide +kernel) (by decide +kernel)
set_option maxRecDepth 100000 in
theorem tw_1124 : Cond.code (⟨"RoofRegatta", "could", "()I"⟩ : MethodName) prog_1_method_38_code 1 (some .int) ∈ tb := tb_t5 62 rfl rfl
theorem tw_1125 : Cond.methodLink "RoofRegatta" 284 (⟨"RoofRegatta$Fires", "inSome", "()I"⟩ : MethodName) ∈ tb := tb_t5 63 (by decide +kernel) (by decide +kernel)
theorem tw_1126 : Cond.instanceMethod (⟨"RoofRegatta$Fires", "inSome", "()I"⟩ : MethodName) ∈ tb := tb_t5 64 (by decide +kernel) (by decide +kernel)
theorem tw_1127 : Cond.selects "RoofRegatta$Fires" (⟨"RoofRegatta$Fires", "inSome", "()I"⟩ : MethodName) (⟨"RoofRegatta$Fires", "inSome", "()I"⟩ : MethodName) ∈ tb := tb_t5 65 (by decide +kernel) (by decide +kernel)
set_option maxRecDepth 100000 in
theorem tw_1128 : Cond.code (⟨"RoofRegatta$Fires", "inSome", "()I"⟩ : MethodName) prog_2_method_3_code 3 (some .int) ∈ tb := tb_t5 66 rfl rfl
theorem tw_1129 : Cond.methodLink "RoofRegattaLaw" 166 (⟨"RoofRegatta", "surely", "()I"⟩ : MethodName) ∈ tb := tb_t5 67 (by decide +kernel) (by decide +kernel)
theorem tw_1130 : Cond.instanceMethod (⟨"RoofRegatta", "surely", "()I"⟩ : MethodName) ∈ tb := tb_t5 68 (by decide +kernel) (by decide +kernel)
theorem tw_1131 : Cond.selects "RoofRegatta" (⟨"RoofRegatta", "surely", "()I"⟩ : MethodName) (⟨"RoofRegatta", "surely", "()I"⟩ : MethodName) ∈ tb := tb_t5 69 (by decide +kernel) (by decide +kernel)
set_option maxRecDepth 100000 in
theorem tw_1132 : Cond.code (⟨"RoofRegatta", "surely", "()I"⟩ : MethodName) prog_1_method_39_code 1 (some .int) ∈ tb := tb_t5 70 rfl rfl
theorem tw_1133 : Cond.methodLink "RoofRegatta" 287 (⟨"RoofRegatta$Fires", "inAll", "()I"⟩ : MethodName) ∈ tb := tb_t5 71 (by decide +kernel) (by decide +kernel)
theorem tw_1134 : Cond.instanceMethod (⟨"RoofRegatta$Fires", "inAll", "()I"⟩ : MethodName) ∈ tb := tb_t5 72 (by decide +kernel) (by decide +kernel)
theorem tw_1135 : Cond.selects "RoofRegatta$Fires" (⟨"RoofRegatta$Fires", "inAll", "()I"⟩ : MethodName) (⟨"RoofRegatta$Fires", "inAll", "()I"⟩ : MethodName) ∈ tb := tb_t5 73 (by decide +kernel) (by decide +kernel)
set_option maxRecDepth 100000 in
theorem tw_1136 : Cond.code (⟨"RoofRegatta$Fires", "inAll", "()I"⟩ : MethodName) prog_2_method_4_code 3 (some .int) ∈ tb := tb_t5 74 rfl rfl
theorem tw_1137 : Cond.methodLink "RoofRegattaLaw" 170 (⟨"RoofRegatta", "ask", "()I"⟩ : MethodName) ∈ tb := tb_t5 75 (by decide +kernel) (by decide +kernel)
theorem tw_1138 : Cond.instanceMethod (⟨"RoofRegatta", "ask", "()I"⟩ : MethodName) ∈ tb := tb_t5 76 (by decide +kernel) (by decide +kernel)
theorem tw_1139 : Cond.selects "RoofRegatta" (⟨"RoofRegatta", "ask", "()I"⟩ : MethodName) (⟨"RoofRegatta", "ask", "()I"⟩ : MethodName) ∈ tb := tb_t5 77 (by decide +kernel) (by decide +kernel)
set_option maxRecDepth 100000 in
theorem tw_1140 : Cond.code (⟨"RoofRegatta", "ask", "()I"⟩ : MethodName) prog_1_method_40_code 1 (some .int) ∈ tb := tb_t5 78 rfl rfl
theorem tw_1141 : Cond.methodLink "RoofRegatta" 290 (⟨"RoofRegatta$Fires", "bestToAsk", "()I"⟩ : MethodName) ∈ tb := tb_t5 79 (by decide +kernel) (by decide +kernel)
theorem tw_1142 : Cond.instanceMethod (⟨"RoofRegatta$Fires", "bestToAsk", "()I"⟩ : MethodName) ∈ tb := tb_t5 80 (by decide +kernel) (by decide +kernel)
theorem tw_1143 : Cond.selects "RoofRegatta$Fires" (⟨"RoofRegatta$Fires", "bestToAsk", "()I"⟩ : MethodName) (⟨"RoofRegatta$Fires", "bestToAsk", "()I"⟩ : MethodName) ∈ tb := tb_t5 81 (by decide +kernel) (by decide +kernel)
set_option maxRecDepth 100000 in
theorem tw_1144 : Cond.code (⟨"RoofRegatta$Fires", "bestToAsk", "()I"⟩ : MethodName) prog_2_method_6_code 3 (some .int) ∈ tb := tb_t5 82 rfl rfl
theorem tw_1145 : Cond.methodLink "RoofRegatta$Fires" 54 (⟨"RoofRegatta$Fires", "leftBy", "(I)I"⟩ : MethodName) ∈ tb := tb_t5 83 (by decide +kernel) (by decide +kernel)
theorem tw_1146 : Cond.instanceMethod (⟨"RoofRegatta$Fires", "leftBy", "(I)I"⟩ : MethodName) ∈ tb := tb_t5 84 (by decide +kernel) (by decide +kernel)
theorem tw_1147 : Cond.selects "RoofRegatta$Fires" (⟨"RoofRegatta$Fires", "leftBy", "(I)I"⟩ : MethodName) (⟨"RoofRegatta$Fires", "leftBy", "(I)I"⟩ : MethodName) ∈ tb := tb_t5 85 (by decide +kernel) (by decide +kernel)
set_option maxRecDepth 100000 in
theorem tw_1148 : Cond.code (⟨"RoofRegatta$Fires", "leftBy", "(I)I"⟩ : MethodName) prog_2_method_5_code 4 (some .int) ∈ tb := tb_t5 86 rfl rfl
theorem tw_1149 : Cond.methodLink "RoofRegatta$Fires" 48 (⟨"java/lang/Math", "max", "(II)I"⟩ : MethodName) ∈ tb := tb_t5 87 (by decide +kernel) (by decide +kernel)
theorem tw_1150 : Cond.static (⟨"java/lang/Math", "max", "(II)I"⟩ : MethodName) ∈ tb := tb_t5 88 (by decide +kernel) (by decide +kernel)
set_option maxRecDepth 100000 in
theorem tw_1151 : Cond.code (⟨"java/lang/Math", "max", "(II)I"⟩ : MethodName) prog_19_method_65_code 2 (some .int) ∈ tb := tb_t5 89 rfl rfl
theorem tw_1152 : Cond.methodLink "RoofRegattaLaw" 174 (⟨"RoofRegatta", "askLeaves", "()I"⟩ : MethodName) ∈ tb := tb_t5 90 (by decide +kernel) (by decide +kernel)
theorem tw_1153 : Cond.instanceMethod (⟨"RoofRegatta", "askLeaves", "()I"⟩ : MethodName) ∈ tb := tb_t5 91 (by decide +kernel) (by decide +kernel)
theorem tw_1154 : Cond.selects "RoofRegatta" (⟨"RoofRegatta", "askLeaves", "()I"⟩ : MethodName) (⟨"RoofRegatta", "askLeaves", "()I"⟩ : MethodName) ∈ tb := tb_t5 92 (by decide +kernel) (by decide +kernel)
set_option maxRecDepth 100000 in
theorem tw_1155 : Cond.code (⟨"RoofRegatta", "askLeaves", "()I"⟩ : MethodName) prog_1_method_41_code 1 (some .int) ∈ tb := tb_t5 93 rfl rfl
theorem tw_1156 : Cond.methodLink "RoofRegatta" 293 (⟨"RoofRegatta$Fires", "leftBy", "(I)I"⟩ : MethodName) ∈ tb := tb_t5 94 (by decide +kernel) (by decide +kernel)
theorem tw_1157 : Cond.methodLink "RoofRegattaLaw" 178 (⟨"RoofRegatta", "judge", "()I"⟩ : MethodName) ∈ tb := tb_t5 95 (by decide +kernel) (by decide +kernel)
theorem tw_1158 : Cond.instanceMethod (⟨"RoofRegatta", "judge", "()I"⟩ : MethodName) ∈ tb := tb_t5 96 (by decide +kernel) (by decide +kernel)
theorem tw_1159 : Cond.selects "RoofRegatta" (⟨"RoofRegatta", "judge", "()I"⟩ : MethodName) (⟨"RoofRegatta", "judge", "()I"⟩ : MethodName) ∈ tb := tb_t5 97 (by decide +kernel) (by decide +kernel)
set_option maxRecDepth 100000 in
theorem tw_1160 : Cond.code (⟨"RoofRegatta", "judge", "()I"⟩ : MethodName) prog_1_method_42_code 1 (some .int) ∈ tb := tb_t5 98 rfl rfl
theorem tw_1161 : Cond.methodLink "RoofRegatta" 296 (⟨"RoofRegatta$Race", "firstNotSo", "()I"⟩ : MethodName) ∈ tb := tb_t5 99 (by decide +kernel) (by decide +kernel)
theorem tw_1162 : Cond.methodLink "RoofRegattaLaw" 182 (⟨"RoofRegatta", "odds", "(IIZ)J"⟩ : MethodName) ∈ tb := tb_t5 100 (by decide +kernel) (by decide +kernel)
theorem tw_1163 : Cond.instanceMethod (⟨"RoofRegatta", "odds", "(IIZ)J"⟩ : MethodName) ∈ tb := tb_t5 101 (by decide +kernel) (by decide +kernel)
theorem tw_1164 : Cond.selects "RoofRegatta" (⟨"RoofRegatta", "odds", "(IIZ)J"⟩ : MethodName) (⟨"RoofRegatta", "odds", "(IIZ)J"⟩ : MethodName) ∈ tb := tb_t5 102 (by decide +kernel) (by decide +kernel)
set_option maxRecDepth 100000 in
theorem tw_1165 : Cond.code (⟨"RoofRegatta", "odds", "(IIZ)J"⟩ : MethodName) prog_1_method_43_code 4 (some .long) ∈ tb := tb_t5 103 rfl rfl
theorem tw_1166 : Cond.methodLink "RoofRegatta" 299 (⟨"RoofRegatta$Rain", "findOdds", "(II)V"⟩ : MethodName) ∈ tb := tb_t5 104 (by decide +kernel) (by decide +kernel)
theorem tw_1167 : Cond.instanceMethod (⟨"RoofRegatta$Rain", "findOdds", "(II)V"⟩ : MethodName) ∈ tb := tb_t5 105 (by decide +kernel) (by decide +kernel)
theorem tw_1168 : Cond.selects "RoofRegatta$Rain" (⟨"RoofRegatta$Rain", "findOdds", "(II)V"⟩ : MethodName) (⟨"RoofRegatta$Rain", "findOdds", "(II)V"⟩ : MethodName) ∈ tb := tb_t5 106 (by decide +kernel) (by decide +kernel)
set_option maxRecDepth 100000 in
theorem tw_1169 : Cond.code (⟨"RoofRegatta$Rain", "findOdds", "(II)V"⟩ : MethodName) prog_7_method_3_code 4 (none : Option Jvm.ClassFile.FieldType) ∈ tb := tb_t5 107 rfl rfl
theorem tw_1170 : Cond.methodLink "RoofRegatta$Rain" 36 (⟨"RoofRegatta$Rain", "begin", "()V"⟩ : MethodName) ∈ tb := tb_t5 108 (by decide +kernel) (by decide +kernel)
theorem tw_1172 : Cond.instanceMethod (⟨"RoofRegatta$Rain", "begin", "()V"⟩ : MethodName) ∈ tb := tb_t5 110 (by decide +kernel) (by decide +kernel)
set_option maxRecDepth 100000 in
theorem tw_1173 : Cond.code (⟨"RoofRegatta$Rain", "begin", "()V"⟩ : MethodName) prog_7_method_6_code 2 (none : Option Jvm.ClassFile.FieldType) ∈ tb := tb_t5 111 rfl rfl
theorem tw_1174 : Cond.methodLink "RoofRegatta$Rain" 72 (⟨"RoofRegatta$Race", "become", "(LRoofRegatta$Race;)V"⟩ : MethodName) ∈ tb := tb_t5 112 (by decide +kernel) (by decide +kernel)
theorem tw_1175 : Cond.constantLong "RoofRegatta$Rain" 75 (100 : Int64) ∈ tb := tb_t5 113 (by decide +kernel) (by decide +kernel)
theorem tw_1176 : Cond.methodLink "RoofRegatta$Rain" 49 (⟨"RoofRegatta$Standing", "take", "(LRoofRegatta$Race;)V"⟩ : MethodName) ∈ tb := tb_t5 114 (by decide +kernel) (by decide +kernel)
theorem tw_1177 : Cond.methodLink "RoofRegatta$Rain" 55 (⟨"RoofRegatta$Standing", "rankOf", "(I)I"⟩ : MethodName) ∈ tb := tb_t5 115 (by decide +kernel) (by decide +kernel)
theorem tw_1178 : Cond.methodLink "RoofRegatta$Rain" 59 (⟨"RoofRegatta$Rain", "weightOfRain", "(I)J"⟩ : MethodName) ∈ tb := tb_t5 116 (by decide +kernel) (by decide +kernel)
theorem tw_1180 : Cond.instanceMethod (⟨"RoofRegatta$Rain", "weightOfRain", "(I)J"⟩ : MethodName) ∈ tb := tb_t5 118 (by decide +kernel) (by decide +kernel)
set_option maxRecDepth 100000 in
theorem tw_1181 : Cond.code (⟨"RoofRegatta$Rain", "weightOfRain", "(I)J"⟩ : MethodName) prog_7_method_7_code 5 (some .long) ∈ tb := tb_t5 119 rfl rfl
theorem tw_1182 : Cond.methodLink "RoofRegatta$Rain" 63 (⟨"RoofRegatta$Rain", "reduce", "()V"⟩ : MethodName) ∈ tb := tb_t5 120 (by decide +kernel) (by decide +kernel)
theorem tw_1184 : Cond.instanceMethod (⟨"RoofRegatta$Rain", "reduce", "()V"⟩ : MethodName) ∈ tb := tb_t5 122 (by decide +kernel) (by decide +kernel)
set_option maxRecDepth 100000 in
theorem tw_1185 : Cond.code (⟨"RoofRegatta$Rain", "reduce", "()V"⟩ : MethodName) prog_7_method_8_code 8 (none : Option Jvm.ClassFile.FieldType) ∈ tb := tb_t5 123 rfl rfl
theorem tw_1186 : Cond.methodLink "RoofRegatta" 302 (⟨"RoofRegatta$Rain", "part", "(Z)J"⟩ : MethodName) ∈ tb := tb_t5 124 (by decide +kernel) (by decide +kernel)
theorem tw_1187 : Cond.instanceMethod (⟨"RoofRegatta$Rain", "part", "(Z)J"⟩ : MethodName) ∈ tb := tb_t5 125 (by decide +kernel) (by decide +kernel)
theorem tw_1188 : Cond.selects "RoofRegatta$Rain" (⟨"RoofRegatta$Rain", "part", "(Z)J"⟩ : MethodName) (⟨"RoofRegatta$Rain", "part", "(Z)J"⟩ : MethodName) ∈ tb := tb_t5 126 (by decide +kernel) (by decide +kernel)
set_option maxRecDepth 100000 in
theorem tw_1189 : Cond.code (⟨"RoofRegatta$Rain", "part", "(Z)J"⟩ : MethodName) prog_7_method_2_code 2 (some .long) ∈ tb := tb_t5 127 rfl rfl
theorem tw_1190 : Cond.methodLink "RoofRegattaLaw" 187 (⟨"RoofRegatta", "mean", "(IZ)J"⟩ : MethodName) ∈ tb := tb_t5 128 (by decide +kernel) (by decide +kernel)
theorem tw_1191 : Cond.instanceMethod (⟨"RoofRegatta", "mean", "(IZ)J"⟩ : MethodName) ∈ tb := tb_t5 129 (by decide +kernel) (by decide +kernel)
theorem tw_1192 : Cond.selects "RoofRegatta" (⟨"RoofRegatta", "mean", "(IZ)J"⟩ : MethodName) (⟨"RoofRegatta", "mean", "(IZ)J"⟩ : MethodName) ∈ tb := tb_t5 130 (by decide +kernel) (by decide +kernel)
set_option maxRecDepth 100000 in
theorem tw_1193 : Cond.code (⟨"RoofRegatta", "mean", "(IZ)J"⟩ : MethodName) prog_1_method_44_code 3 (some .long) ∈ tb := tb_t5 131 rfl rfl
theorem tw_1194 : Cond.methodLink "RoofRegatta" 306 (⟨"RoofRegatta$Rain", "findMean", "(I)V"⟩ : MethodName) ∈ tb := tb_t5 132 (by decide +kernel) (by decide +kernel)
theorem tw_1195 : Cond.instanceMethod (⟨"RoofRegatta$Rain", "findMean", "(I)V"⟩ : MethodName) ∈ tb := tb_t5 133 (by decide +kernel) (by decide +kernel)
theorem tw_1196 : Cond.selects "RoofRegatta$Rain" (⟨"RoofRegatta$Rain", "findMean", "(I)V"⟩ : MethodName) (⟨"RoofRegatta$Rain", "findMean", "(I)V"⟩ : MethodName) ∈ tb := tb_t5 134 (by decide +kernel) (by decide +kernel)
set_option maxRecDepth 100000 in
theorem tw_1197 : Cond.code (⟨"RoofRegatta$Rain", "findMean", "(I)V"⟩ : MethodName) prog_7_method_4_code 3 (none : Option Jvm.ClassFile.FieldType) ∈ tb := tb_t5 135 rfl rfl
theorem tw_1198 : Cond.methodLink "RoofRegattaLaw" 192 (⟨"RoofRegatta", "hopes", "(IZ)J"⟩ : MethodName) ∈ tb := tb_t5 136 (by decide +kernel) (by decide +kernel)
theorem tw_1199 : Cond.instanceMethod (⟨"RoofRegatta", "hopes", "(IZ)J"⟩ : MethodName) ∈ tb := tb_t5 137 (by decide +kernel) (by decide +kernel)
theorem tw_1200 : Cond.selects "RoofRegatta" (⟨"RoofRegatta", "hopes", "(IZ)J"⟩ : MethodName) (⟨"RoofRegatta", "hopes", "(IZ)J"⟩ : MethodName) ∈ tb := tb_t5 138 (by decide +kernel) (by decide +kernel)
set_option maxRecDepth 100000 in
theorem tw_1201 : Cond.code (⟨"RoofRegatta", "hopes", "(IZ)J"⟩ : MethodName) prog_1_method_45_code 3 (some .long) ∈ tb := tb_t5 139 rfl rfl
theorem tw_1202 : Cond.methodLink "RoofRegatta" 309 (⟨"RoofRegatta$Rain", "findHopes", "(I)V"⟩ : MethodName) ∈ tb := tb_t5 140 (by decide +kernel) (by decide +kernel)
theorem tw_1203 : Cond.instanceMethod (⟨"RoofRegatta$Rain", "findHopes", "(I)V"⟩ : MethodName) ∈ tb := tb_t5 141 (by decide +kernel) (by decide +kernel)
theorem tw_1204 : Cond.selects "RoofRegatta$Rain" (⟨"RoofRegatta$Rain", "findHopes", "(I)V"⟩ : MethodName) (⟨"RoofRegatta$Rain", "findHopes", "(I)V"⟩ : MethodName) ∈ tb := tb_t5 142 (by decide +kernel) (by decide +kernel)
set_option maxRecDepth 100000 in
theorem tw_1205 : Cond.code (⟨"RoofRegatta$Rain", "findHopes", "(I)V"⟩ : MethodName) prog_7_method_5_code 3 (none : Option Jvm.ClassFile.FieldType) ∈ tb := tb_t5 143 rfl rfl
theorem tw_1206 : Cond.methodLink "RoofRegatta$Rain" 69 (⟨"RoofRegatta$Told", "prizeFo\x72", "(I)I"⟩ : MethodName) ∈ tb := tb_t5 144 (by decide +kernel) (by decide +kernel)
theorem tw_1207 : Cond.methodLink "RoofRegattaLaw" 196 (⟨"RoofRegatta", "wins", "(III)I"⟩ : MethodName) ∈ tb := tb_t5 145 (by decide +kernel) (by decide +kernel)
theorem tw_1208 : Cond.instanceMethod (⟨"RoofRegatta", "wins", "(III)I"⟩ : MethodName) ∈ tb := tb_t5 146 (by decide +kernel) (by decide +kernel)
theorem tw_1209 : Cond.selects "RoofRegatta" (⟨"RoofRegatta", "wins", "(III)I"⟩ : MethodName) (⟨"RoofRegatta", "wins", "(III)I"⟩ : MethodName) ∈ tb := tb_t5 147 (by decide +kernel) (by decide +kernel)
set_option maxRecDepth 100000 in
theorem tw_1210 : Cond.code (⟨"RoofRegatta", "wins", "(III)I"⟩ : MethodName) prog_1_method_46_code 4 (some .int) ∈ tb := tb_t5 148 rfl rfl
theorem tw_1211 : Cond.constant "RoofRegatta" 312 (65536 : Int32) ∈ tb := tb_t5 149 (by decide +kernel) (by decide +kernel)
theorem tw_1212 : Cond.methodLink "RoofRegatta" 313 (⟨"RoofRegatta$Rain", "racesWon", "(III)I"⟩ : MethodName) ∈ tb := tb_t5 150 (by decide +kernel) (by decide +kernel)
theorem tw_1213 : Cond.instanceMethod (⟨"RoofRegatta$Rain", "racesWon", "(III)I"⟩ : MethodName) ∈ tb := tb_t5 151 (by decide +kernel) (by decide +kernel)
theorem tw_1214 : Cond.selects "RoofRegatta$Rain" (⟨"RoofRegatta$Rain", "racesWon", "(III)I"⟩ : MethodName) (⟨"RoofRegatta$Rain", "racesWon", "(III)I"⟩ : MethodName) ∈ tb := tb_t5 152 (by decide +kernel) (by decide +kernel)
set_option maxRecDepth 100000 in
theorem tw_1215 : Cond.code (⟨"RoofRegatta$Rain", "racesWon", "(III)I"⟩ : MethodName) prog_7_method_9_code 6 (some .int) ∈ tb := tb_t5 153 rfl rfl
theorem tw_1216 : Cond.methodLink "RoofRegatta$Rain" 77 (⟨"RoofRegatta$Rain", "beginRaces", "(I)V"⟩ : MethodName) ∈ tb := tb_t5 154 (by decide +kernel) (by decide +kernel)
theorem tw_1218 : Cond.instanceMethod (⟨"RoofRegatta$Rain", "beginRaces", "(I)V"⟩ : MethodName) ∈ tb := tb_t5 156 (by decide +kernel) (by decide +kernel)
set_option maxRecDepth 100000 in
theorem tw_1219 : Cond.code (⟨"RoofRegatta$Rain", "beginRaces", "(I)V"⟩ : MethodName) prog_7_method_11_code 2 (none : Option Jvm.ClassFile.FieldType) ∈ tb := tb_t5 157 rfl rfl
theorem tw_1220 : Cond.methodLink "RoofRegatta$Rain" 81 (⟨"RoofRegatta$Rain", "drawRain", "()V"⟩ : MethodName) ∈ tb := tb_t5 158 (by decide +kernel) (by decide +kernel)
theorem tw_1222 : Cond.instanceMethod (⟨"RoofRegatta$Rain", "drawRain", "()V"⟩ : MethodName) ∈ tb := tb_t5 160 (by decide +kernel) (by decide +kernel)
set_option maxRecDepth 100000 in
theorem tw_1223 : Cond.code (⟨"RoofRegatta$Rain", "drawRain", "()V"⟩ : MethodName) prog_7_method_12_code 2 (none : Option Jvm.ClassFile.FieldType) ∈ tb := tb_t5 161 rfl rfl
theorem tw_1224 : Cond.constant "RoofRegatta$Rain" 97 (65537 : Int32) ∈ tb := tb_t5 162 (by decide +kernel) (by decide +kernel)
theorem tw_1225 : Cond.methodLink "RoofRegattaLaw" 201 (⟨"RoofRegatta", "record", "(II)I"⟩ : MethodName) ∈ tb := tb_t5 163 (by decide +kernel) (by decide +kernel)
theorem tw_1226 : Cond.instanceMethod (⟨"RoofRegatta", "record", "(II)I"⟩ : MethodName) ∈ tb := tb_t5 164 (by decide +kernel) (by decide +kernel)
theorem tw_1227 : Cond.selects "RoofRegatta" (⟨"RoofRegatta", "record", "(II)I"⟩ : MethodName) (⟨"RoofRegatta", "record", "(II)I"⟩ : MethodName) ∈ tb := tb_t5 165 (by decide +kernel) (by decide +kernel)
set_option maxRecDepth 100000 in
theorem tw_1228 : Cond.code (⟨"RoofRegatta", "record", "(II)I"⟩ : MethodName) prog_1_method_47_code 3 (some .int) ∈ tb := tb_t5 166 rfl rfl
theorem tw_1229 : Cond.methodLink "RoofRegatta" 317 (⟨"RoofRegatta$Rain", "leastOfRaces", "(II)I"⟩ : MethodName) ∈ tb := tb_t5 167 (by decide +kernel) (by decide +kernel)
theorem tw_1230 : Cond.instanceMethod (⟨"RoofRegatta$Rain", "leastOfRaces", "(II)I"⟩ : MethodName) ∈ tb := tb_t5 168 (by decide +kernel) (by decide +kernel)
theorem tw_1231 : Cond.selects "RoofRegatta$Rain" (⟨"RoofRegatta$Rain", "leastOfRaces", "(II)I"⟩ : MethodName) (⟨"RoofRegatta$Rain", "leastOfRaces", "(II)I"⟩ : MethodName) ∈ tb := tb_t5 169 (by decide +kernel) (by decide +kernel)
set_option maxRecDepth 100000 in
theorem tw_1232 : Cond.code (⟨"RoofRegatta$Rain", "leastOfRaces", "(II)I"⟩ : MethodName) prog_7_method_10_code 5 (some .int) ∈ tb := tb_t5 170 rfl rfl
theorem tw_1233 : Cond.constant "RoofRegatta$Rain" 84 (1000000 : Int32) ∈ tb := tb_t5 171 (by decide +kernel) (by decide +kernel)
theorem tw_1234 : Cond.methodLink "RoofRegatta$Rain" 88 (⟨"java/lang/Math", "min", "(II)I"⟩ : MethodName) ∈ tb := tb_t5 172 (by decide +kernel) (by decide +kernel)
theorem tw_1235 : Cond.methodLink "RoofRegattaLaw" 205 (⟨"RoofRegatta", "wei\x72", "(IZZZ)I"⟩ : MethodName) ∈ tb := tb_t5 173 (by decide +kernel) (by decide +kernel)
theorem tw_1236 : Cond.instanceMethod (⟨"RoofRegatta", "wei\x72", "(IZZZ)I"⟩ : MethodName) ∈ tb := tb_t5 174 (by decide +kernel) (by decide +kernel)
theorem tw_1237 : Cond.selects "RoofRegatta" (⟨"RoofRegatta", "wei\x72", "(IZZZ)I"⟩ : MethodName) (⟨"RoofRegatta", "wei\x72", "(IZZZ)I"⟩ : MethodName) ∈ tb := tb_t5 175 (by decide +kernel) (by decide +kernel)
set_option maxRecDepth 100000 in
theorem tw_1238 : Cond.code (⟨"RoofRegatta", "wei\x72", "(IZZZ)I"⟩ : MethodName) prog_1_method_48_code 6 (some .int) ∈ tb := tb_t5 176 rfl rfl
theorem tw_1239 : Cond.methodLink "RoofRegatta" 320 (⟨"RoofRegatta", "whyNoWei\x72", "(I)I"⟩ : MethodName) ∈ tb := tb_t5 177 (by decide +kernel) (by decide +kernel)
theorem tw_1241 : Cond.instanceMethod (⟨"RoofRegatta", "whyNoWei\x72", "(I)I"⟩ : MethodName) ∈ tb := tb_t5 179 (by decide +kernel) (by decide +kernel)
set_option maxRecDepth 100000 in
theorem tw_1242 : Cond.code (⟨"RoofRegatta", "whyNoWei\x72", "(I)I"⟩ : MethodName) prog_1_method_51_code 2 (some .int) ∈ tb := tb_t5 180 rfl rfl
theorem tw_1243 : Cond.methodLink "RoofRegatta" 323 (⟨"RoofRegatta", "payoff", "(IZZ)I"⟩ : MethodName) ∈ tb := tb_t5 181 (by decide +kernel) (by decide +kernel)
theorem tw_1244 : Cond.static (⟨"RoofRegatta", "payoff", "(IZZ)I"⟩ : MethodName) ∈ tb := tb_t5 182 (by decide +kernel) (by decide +kernel)
set_option maxRecDepth 100000 in
theorem tw_1245 : Cond.code (⟨"RoofRegatta", "payoff", "(IZZ)I"⟩ : MethodName) prog_1_method_52_code 3 (some .int) ∈ tb := tb_t5 183 rfl rfl
theorem tw_1246 : Cond.methodLink "RoofRegattaLaw" 210 (⟨"RoofRegatta", "rests", "(I)I"⟩ : MethodName) ∈ tb := tb_t5 184 (by decide +kernel) (by decide +kernel)
theorem tw_1247 : Cond.instanceMethod (⟨"RoofRegatta", "rests", "(I)I"⟩ : MethodName) ∈ tb := tb_t5 185 (by decide +kernel) (by decide +kernel)
theorem tw_1248 : Cond.selects "RoofRegatta" (⟨"RoofRegatta", "rests", "(I)I"⟩ : MethodName) (⟨"RoofRegatta", "rests", "(I)I"⟩ : MethodName) ∈ tb := tb_t5 186 (by decide +kernel) (by decide +kernel)
set_option maxRecDepth 100000 in
theorem tw_1249 : Cond.code (⟨"RoofRegatta", "rests", "(I)I"⟩ : MethodName) prog_1_method_49_code 5 (some .int) ∈ tb := tb_t5 187 rfl rfl
theorem tw_1250 : Cond.methodLink "RoofRegatta" 327 (⟨"RoofRegatta", "isRest", "(IZZ)Z"⟩ : MethodName) ∈ tb := tb_t5 188 (by decide +kernel) (by decide +kernel)
theorem tw_1251 : Cond.static (⟨"RoofRegatta", "isRest", "(IZZ)Z"⟩ : MethodName) ∈ tb := tb_t5 189 (by decide +kernel) (by decide +kernel)
set_option maxRecDepth 100000 in
theorem tw_1252 : Cond.code (⟨"RoofRegatta", "isRest", "(IZZ)Z"⟩ : MethodName) prog_1_method_53_code 3 (some .boolean) ∈ tb := tb_t5 190 rfl rfl
theorem tw_1253 : Cond.methodLink "RoofRegattaLaw" 214 (⟨"RoofRegatta", "rest", "(I)I"⟩ : MethodName) ∈ tb := tb_t5 191 (by decide +kernel) (by decide +kernel)
theorem tw_1254 : Cond.instanceMethod (⟨"RoofRegatta", "rest", "(I)I"⟩ : MethodName) ∈ tb := tb_t5 192 (by decide +kernel) (by decide +kernel)
theorem tw_1255 : Cond.selects "RoofRegatta" (⟨"RoofRegatta", "rest", "(I)I"⟩ : MethodName) (⟨"RoofRegatta", "rest", "(I)I"⟩ : MethodName) ∈ tb := tb_t5 193 (by decide +kernel) (by decide +kernel)
set_option maxRecDepth 100000 in
theorem tw_1256 : Cond.code (⟨"RoofRegatta", "rest", "(I)I"⟩ : MethodName) prog_1_method_50_code 4 (some .int) ∈ tb := tb_t5 194 rfl rfl
theorem tw_1257 : Cond.methodLink "RoofRegattaLaw" 218 (⟨"RoofRegatta", "board", "(II)I"⟩ : MethodName) ∈ tb := tb_t5 195 (by decide +kernel) (by decide +kernel)
theorem tw_1258 : Cond.instanceMethod (⟨"RoofRegatta", "board", "(II)I"⟩ : MethodName) ∈ tb := tb_t5 196 (by decide +kernel) (by decide +kernel)
theorem tw_1259 : Cond.selects "RoofRegatta" (⟨"RoofRegatta", "board", "(II)I"⟩ : MethodName) (⟨"RoofRegatta", "board", "(II)I"⟩ : MethodName) ∈ tb := tb_t5 197 (by decide +kernel) (by decide +kernel)
set_option maxRecDepth 100000 in
theorem tw_1260 : Cond.code (⟨"RoofRegatta", "board", "(II)I"⟩ : MethodName) prog_1_method_54_code 3 (some .int) ∈ tb := tb_t5 198 rfl rfl
theorem tw_1261 : Cond.methodLink "RoofRegatta" 331 (⟨"RoofRegatta$Kept", "keepAct", "()V"⟩ : MethodName) ∈ tb := tb_t5 199 (by decide +kernel) (by decide +kernel)
theorem tw_1262 : Cond.instanceMethod (⟨"RoofRegatta$Kept", "keepAct", "()V"⟩ : MethodName) ∈ tb := tb_t5 200 (by decide +kernel) (by decide +kernel)
theorem tw_1263 : Cond.selects "RoofRegatta$Kept" (⟨"RoofRegatta$Kept", "keepAct", "()V"⟩ : MethodName) (⟨"RoofRegatta$Kept", "keepAct", "()V"⟩ : MethodName) ∈ tb := tb_t5 201 (by decide +kernel) (by decide +kernel)
set_option maxRecDepth 100000 in
theorem tw_1264 : Cond.code (⟨"RoofRegatta$Kept", "keepAct", "()V"⟩ : MethodName) prog_3_method_3_code 1 (none : Option Jvm.ClassFile.FieldType) ∈ tb := tb_t5 202 rfl rfl
theorem tw_1265 : Cond.methodLink "RoofRegatta$Kept" 29 (⟨"java/lang/System", "arraycopy", "(Ljava/lang/Object;ILjava/lang/Object;II)V"⟩ : MethodName) ∈ tb := tb_t5 203 (by decide +kernel) (by decide +kernel)
theorem tw_1266 : Cond.methodLink "RoofRegatta$Kept" 35 (⟨"RoofRegatta$Race", "packed", "()J"⟩ : MethodName) ∈ tb := tb_t5 204 (by decide +kernel) (by decide +kernel)
theorem tw_1267 : Cond.methodLink "RoofRegatta" 334 (⟨"RoofRegatta$Race", "put", "(II)V"⟩ : MethodName) ∈ tb := tb_t5 205 (by decide +kernel) (by decide +kernel)
theorem tw_1268 : Cond.methodLink "RoofRegatta" 337 (⟨"java/lang/Intege\x72", "bitCount", "(I)I"⟩ : MethodName) ∈ tb := tb_t5 206 (by decide +kernel) (by decide +kernel)
theorem tw_1269 : Cond.methodLink "RoofRegattaLaw" 222 (⟨"RoofRegatta", "ashore", "(I)Z"⟩ : MethodName) ∈ tb := tb_t5 207 (by decide +kernel) (by decide +kernel)
theorem tw_1270 : Cond.instanceMethod (⟨"RoofRegatta", "ashore", "(I)Z"⟩ : MethodName) ∈ tb := tb_t5 208 (by decide +kernel) (by decide +kernel)
theorem tw_1271 : Cond.selects "RoofRegatta" (⟨"RoofRegatta", "ashore", "(I)Z"⟩ : MethodName) (⟨"RoofRegatta", "ashore", "(I)Z"⟩ : MethodName) ∈ tb := tb_t5 209 (by decide +kernel) (by decide +kernel)
set_option maxRecDepth 100000 in
theorem tw_1272 : Cond.code (⟨"RoofRegatta", "ashore", "(I)Z"⟩ : MethodName) prog_1_method_55_code 2 (some .boolean) ∈ tb := tb_t5 210 rfl rfl
theorem tw_1273 : Cond.methodLink "RoofRegatta" 342 (⟨"RoofRegatta", "done", "(I)Z"⟩ : MethodName) ∈ tb := tb_t5 211 (by decide +kernel) (by decide +kernel)
theorem tw_1275 : Cond.instanceMethod (⟨"RoofRegatta", "done", "(I)Z"⟩ : MethodName) ∈ tb := tb_t5 213 (by decide +kernel) (by decide +kernel)
set_option maxRecDepth 100000 in
theorem tw_1276 : Cond.code (⟨"RoofRegatta", "done", "(I)Z"⟩ : MethodName) prog_1_method_67_code 2 (some .boolean) ∈ tb := tb_t5 214 rfl rfl
theorem tw_1277 : Cond.methodLink "RoofRegattaLaw" 227 (⟨"RoofRegatta", "light", "(IZ)Z"⟩ : MethodName) ∈ tb := tb_t5 215 (by decide +kernel) (by decide +kernel)
theorem tw_1278 : Cond.instanceMethod (⟨"RoofRegatta", "light", "(IZ)Z"⟩ : MethodName) ∈ tb := tb_t5 216 (by decide +kernel) (by decide +kernel)
theorem tw_1279 : Cond.selects "RoofRegatta" (⟨"RoofRegatta", "light", "(IZ)Z"⟩ : MethodName) (⟨"RoofRegatta", "light", "(IZ)Z"⟩ : MethodName) ∈ tb := tb_t5 217 (by decide +kernel) (by decide +kernel)
set_option maxRecDepth 100000 in
theorem tw_1280 : Cond.code (⟨"RoofRegatta", "light", "(IZ)Z"⟩ : MethodName) prog_1_method_56_code 3 (some .boolean) ∈ tb := tb_t5 218 rfl rfl
theorem tw_1281 : Cond.methodLink "RoofRegattaLaw" 232 (⟨"RoofRegatta", "cross", "(I)I"⟩ : MethodName) ∈ tb := tb_t5 219 (by decide +kernel) (by decide +kernel)
theorem tw_1282 : Cond.instanceMethod (⟨"RoofRegatta", "cross", "(I)I"⟩ : MethodName) ∈ tb := tb_t5 220 (by decide +kernel) (by decide +kernel)
theorem tw_1283 : Cond.selects "RoofRegatta" (⟨"RoofRegatta", "cross", "(I)I"⟩ : MethodName) (⟨"RoofRegatta", "cross", "(I)I"⟩ : MethodName) ∈ tb := tb_t5 221 (by decide +kernel) (by decide +kernel)
set_option maxRecDepth 100000 in
theorem tw_1284 : Cond.code (⟨"RoofRegatta", "cross", "(I)I"⟩ : MethodName) prog_1_method_57_code 2 (some .int) ∈ tb := tb_t5 222 rfl rfl
theorem tw_1285 : Cond.methodLink "RoofRegattaLaw" 236 (⟨"RoofRegatta", "raise", "(I)Z"⟩ : MethodName) ∈ tb := tb_t5 223 (by decide +kernel) (by decide +kernel)
theorem tw_1286 : Cond.instanceMethod (⟨"RoofRegatta", "raise", "(I)Z"⟩ : MethodName) ∈ tb := tb_t5 224 (by decide +kernel) (by decide +kernel)
theorem tw_1287 : Cond.selects "RoofRegatta" (⟨"RoofRegatta", "raise", "(I)Z"⟩ : MethodName) (⟨"RoofRegatta", "raise", "(I)Z"⟩ : MethodName) ∈ tb := tb_t5 225 (by decide +kernel) (by decide +kernel)
set_option maxRecDepth 100000 in
theorem tw_1288 : Cond.code (⟨"RoofRegatta", "raise", "(I)Z"⟩ : MethodName) prog_1_method_58_code 2 (some .boolean) ∈ tb := tb_t5 226 rfl rfl
theorem tw_1289 : Cond.methodLink "RoofRegattaLaw" 240 (⟨"RoofRegatta", "undo", "()Z"⟩ : MethodName) ∈ tb := tb_t5 227 (by decide +kernel) (by decide +kernel)
theorem tw_1290 : Cond.instanceMethod (⟨"RoofRegatta", "undo", "()Z"⟩ : MethodName) ∈ tb := tb_t5 228 (by decide +kernel) (by decide +kernel)
theorem tw_1291 : Cond.selects "RoofRegatta" (⟨"RoofRegatta", "undo", "()Z"⟩ : MethodName) (⟨"RoofRegatta", "undo", "()Z"⟩ : MethodName) ∈ tb := tb_t5 229 (by decide +kernel) (by decide +kernel)
set_option maxRecDepth 100000 in
theorem tw_1292 : Cond.code (⟨"RoofRegatta", "undo", "()Z"⟩ : MethodName) prog_1_method_59_code 1 (some .boolean) ∈ tb := tb_t5 230 rfl rfl
theorem tw_1293 : Cond.methodLink "RoofRegatta" 354 (⟨"RoofRegatta$Kept", "takeBackAct", "()V"⟩ : MethodName) ∈ tb := tb_t5 231 (by decide +kernel) (by decide +kernel)
theorem tw_1294 : Cond.instanceMethod (⟨"RoofRegatta$Kept", "takeBackAct", "()V"⟩ : MethodName) ∈ tb := tb_t5 232 (by decide +kernel) (by decide +kernel)
theorem tw_1295 : Cond.selects "RoofRegatta$Kept" (⟨"RoofRegatta$Kept", "takeBackAct", "()V"⟩ : MethodName) (⟨"RoofRegatta$Kept", "takeBackAct", "()V"⟩ : MethodName) ∈ tb := tb_t5 233 (by decide +kernel) (by decide +kernel)
set_option maxRecDepth 100000 in
theorem tw_1296 : Cond.code (⟨"RoofRegatta$Kept", "takeBackAct", "()V"⟩ : MethodName) prog_3_method_4_code 1 (none : Option Jvm.ClassFile.FieldType) ∈ tb := tb_t5 234 rfl rfl
theorem tw_1297 : Cond.methodLink "RoofRegatta$Kept" 41 (⟨"RoofRegatta$Race", "unpack", "(J)V"⟩ : MethodName) ∈ tb := tb_t5 235 (by decide +kernel) (by decide +kernel)
theorem tw_1298 : Cond.instanceMethod (⟨"RoofRegatta$Race", "unpack", "(J)V"⟩ : MethodName) ∈ tb := tb_t5 236 (by decide +kernel) (by decide +kernel)
theorem tw_1299 : Cond.selects "RoofRegatta$Race" (⟨"RoofRegatta$Race", "unpack", "(J)V"⟩ : MethodName) (⟨"RoofRegatta$Race", "unpack", "(J)V"⟩ : MethodName) ∈ tb := tb_t5 237 (by decide +kernel) (by decide +kernel)
set_option maxRecDepth 100000 in
theorem tw_1300 : Cond.code (⟨"RoofRegatta$Race", "unpack", "(J)V"⟩ : MethodName) prog_6_method_5_code 6 (none : Option Jvm.ClassFile.FieldType) ∈ tb := tb_t5 238 rfl rfl
theorem tw_1301 : Cond.constantLong "RoofRegatta$Race" 38 (31 : Int64) ∈ tb := tb_t5 239 (by decide +kernel) (by decide +kernel)
theorem tw_1302 : Cond.constantLong "RoofRegatta$Race" 40 (15 : Int64) ∈ tb := tb_t6 0 (by decide +kernel) (by decide +kernel)
theorem tw_1303 : Cond.methodLink "RoofRegattaLaw" 245 (⟨"RoofRegatta", "image", "()I"⟩ : MethodName) ∈ tb := tb_t6 1 (by decide +kernel) (by decide +kernel)
theorem tw_1304 : Cond.instanceMethod (⟨"RoofRegatta", "image", "()I"⟩ : MethodName) ∈ tb := tb_t6 2 (by decide +kernel) (by decide +kernel)
theorem tw_1305 : Cond.selects "RoofRegatta" (⟨"RoofRegatta", "image", "()I"⟩ : MethodName) (⟨"RoofRegatta", "image", "()I"⟩ : MethodName) ∈ tb := tb_t6 3 (by decide +kernel) (by decide +kernel)
set_option maxRecDepth 100000 in
theorem tw_1306 : Cond.code (⟨"RoofRegatta", "image", "()I"⟩ : MethodName) prog_1_method_60_code 1 (some .int) ∈ tb := tb_t6 4 rfl rfl
theorem tw_1307 : Cond.methodLink "RoofRegatta" 360 (⟨"RoofRegatta$Kept", "keepImage", "()I"⟩ : MethodName) ∈ tb := tb_t6 5 (by decide +kernel) (by decide +kernel)
theorem tw_1308 : Cond.instanceMethod (⟨"RoofRegatta$Kept", "keepImage", "()I"⟩ : MethodName) ∈ tb := tb_t6 6 (by decide +kernel) (by decide +kernel)
theorem tw_1309 : Cond.selects "RoofRegatta$Kept" (⟨"RoofRegatta$Kept", "keepImage", "()I"⟩ : MethodName) (⟨"RoofRegatta$Kept", "keepImage", "()I"⟩ : MethodName) ∈ tb := tb_t6 7 (by decide +kernel) (by decide +kernel)
set_option maxRecDepth 100000 in
theorem tw_1310 : Cond.code (⟨"RoofRegatta$Kept", "keepImage", "()I"⟩ : MethodName) prog_3_method_5_code 1 (some .int) ∈ tb := tb_t6 8 rfl rfl
theorem tw_1311 : Cond.methodLink "RoofRegattaLaw" 249 (⟨"RoofRegatta", "back", "(I)Z"⟩ : MethodName) ∈ tb := tb_t6 9 (by decide +kernel) (by decide +kernel)
theorem tw_1312 : Cond.instanceMethod (⟨"RoofRegatta", "back", "(I)Z"⟩ : MethodName) ∈ tb := tb_t6 10 (by decide +kernel) (by decide +kernel)
theorem tw_1313 : Cond.selects "RoofRegatta" (⟨"RoofRegatta", "back", "(I)Z"⟩ : MethodName) (⟨"RoofRegatta", "back", "(I)Z"⟩ : MethodName) ∈ tb := tb_t6 11 (by decide +kernel) (by decide +kernel)
set_option maxRecDepth 100000 in
theorem tw_1314 : Cond.code (⟨"RoofRegatta", "back", "(I)Z"⟩ : MethodName) prog_1_method_61_code 2 (some .boolean) ∈ tb := tb_t6 12 rfl rfl
theorem tw_1315 : Cond.methodLink "RoofRegatta" 363 (⟨"RoofRegatta$Kept", "goBackTo", "(I)V"⟩ : MethodName) ∈ tb := tb_t6 13 (by decide +kernel) (by decide +kernel)
theorem tw_1316 : Cond.instanceMethod (⟨"RoofRegatta$Kept", "goBackTo", "(I)V"⟩ : MethodName) ∈ tb := tb_t6 14 (by decide +kernel) (by decide +kernel)
theorem tw_1317 : Cond.selects "RoofRegatta$Kept" (⟨"RoofRegatta$Kept", "goBackTo", "(I)V"⟩ : MethodName) (⟨"RoofRegatta$Kept", "goBackTo", "(I)V"⟩ : MethodName) ∈ tb := tb_t6 15 (by decide +kernel) (by decide +kernel)
set_option maxRecDepth 100000 in
theorem tw_1318 : Cond.code (⟨"RoofRegatta$Kept", "goBackTo", "(I)V"⟩ : MethodName) prog_3_method_6_code 2 (none : Option Jvm.ClassFile.FieldType) ∈ tb := tb_t6 16 rfl rfl
theorem tw_1319 : Cond.methodLink "RoofRegattaLaw" 262 (⟨"RoofRegatta", "size", "(I)I"⟩ : MethodName) ∈ tb := tb_t6 17 (by decide +kernel) (by decide +kernel)
theorem tw_1320 : Cond.instanceMethod (⟨"RoofRegatta", "size", "(I)I"⟩ : MethodName) ∈ tb := tb_t6 18 (by decide +kernel) (by decide +kernel)
theorem tw_1321 : Cond.selects "RoofRegatta" (⟨"RoofRegatta", "size", "(I)I"⟩ : MethodName) (⟨"RoofRegatta", "size", "(I)I"⟩ : MethodName) ∈ tb := tb_t6 19 (by decide +kernel) (by decide +kernel)
set_option maxRecDepth 100000 in
theorem tw_1322 : Cond.code (⟨"RoofRegatta", "size", "(I)I"⟩ : MethodName) prog_1_method_63_code 2 (some .int) ∈ tb := tb_t6 20 rfl rfl
theorem tw_1323 : Cond.methodLink "RoofRegattaLaw" 266 (⟨"RoofRegatta", "trouble", "()I"⟩ : MethodName) ∈ tb := tb_t6 21 (by decide +kernel) (by decide +kernel)
theorem tw_1324 : Cond.instanceMethod (⟨"RoofRegatta", "trouble", "()I"⟩ : MethodName) ∈ tb := tb_t6 22 (by decide +kernel) (by decide +kernel)
theorem tw_1325 : Cond.selects "RoofRegatta" (⟨"RoofRegatta", "trouble", "()I"⟩ : MethodName) (⟨"RoofRegatta", "trouble", "()I"⟩ : MethodName) ∈ tb := tb_t6 23 (by decide +kernel) (by decide +kernel)
set_option maxRecDepth 100000 in
theorem tw_1326 : Cond.code (⟨"RoofRegatta", "trouble", "()I"⟩ : MethodName) prog_1_method_64_code 1 (some .int) ∈ tb := tb_t6 24 rfl rfl
theorem tw_1327 : Cond.methodLink "RoofRegattaLaw" 253 (⟨"RoofRegattaLaw", "led", "(LRoofRegatta;I[J)I"⟩ : MethodName) ∈ tb := tb_t6 25 (by decide +kernel) (by decide +kernel)
theorem tw_1406 : Cond.fieldLink "RoofRegattaModel" 53 "RoofRegattaModel" "thrown" "I" ∈ tb := tb_t6 104 (by decide +kernel) (by decide +kernel)
theorem tw_1407 : Cond.fieldLink "RoofRegattaModel" 7 "RoofRegattaModel" "tape" "[I" ∈ tb := tb_t6 105 (by decide +kernel) (by decide +kernel)
theorem tw_1408 : Cond.fieldLink "RoofRegattaModel" 59 "RoofRegattaModel" "taped" "I" ∈ tb := tb_t6 106 (by decide +kernel) (by decide +kernel)
theorem tw_1409 : Cond.fieldLink "RoofRegattaModel" 62 "RoofRegattaModel" "size" "I" ∈ tb := tb_t6 107 (by decide +kernel) (by decide +kernel)
theorem tw_1410 : Cond.fieldLink "RoofRegattaModel" 72 "RoofRegattaModel" "at" "I" ∈ tb := tb_t6 108 (by decide +kernel) (by decide +kernel)
theorem tw_1411 : Cond.fieldLink "RoofRegattaModel" 65 "RoofRegattaModel" "end" "I" ∈ tb := tb_t6 109 (by decide +kernel) (by decide +kernel)
theorem tw_1412 : Cond.fieldLink "RoofRegattaModel" 81 "RoofRegattaModel" "token" "I" ∈ tb := tb_t6 110 (by decide +kernel) (by decide +kernel)
theorem tw_1413 : Cond.fieldLink "RoofRegattaModel" 78 "RoofRegattaModel" "whole" "I" ∈ tb := tb_t6 111 (by decide +kernel) (by decide +kernel)
theorem tw_1414 : Cond.fieldLink "RoofRegattaModel" 75 "RoofRegattaModel" "nameSize" "I" ∈ tb := tb_t6 112 (by decide +kernel) (by decide +kernel)
theorem tw_1415 : Cond.fieldLink "RoofRegattaModel" 95 "RoofRegattaModel" "fault" "I" ∈ tb := tb_t6 113 (by decide +kernel) (by decide +kernel)
theorem tw_1416 : Cond.fieldLink "RoofRegattaModel" 13 "RoofRegattaModel" "place" "I" ∈ tb := tb_t6 114 (by decide +kernel) (by decide +kernel)
theorem tw_1417 : Cond.fieldLink "RoofRegattaModel" 56 "RoofRegattaModel" "trouble" "I" ∈ tb := tb_t6 115 (by decide +kernel) (by decide +kernel)
theorem tw_1418 : Cond.fieldLink "RoofRegattaModel" 17 "RoofRegattaModel" "letters" "[I" ∈ tb := tb_t6 116 (by decide +kernel) (by decide +kernel)
theorem tw_1419 : Cond.fieldLink "RoofRegattaModel" 91 "RoofRegattaModel" "failed" "Z" ∈ tb := tb_t6 117 (by decide +kernel) (by decide +kernel)
theorem tw_1420 : Cond.fieldLink "RoofRegattaModel" 176 "RoofRegattaModel" "hasRegatta" "Z" ∈ tb := tb_t6 118 (by decide +kernel) (by decide +kernel)
theorem tw_1421 : Cond.fieldLink "RoofRegattaModel" 20 "RoofRegattaModel" "\x72" "[I" ∈ tb := tb_t6 119 (by decide +kernel) (by decide +kernel)
theorem tw_1422 : Cond.fieldLink "RoofRegattaModel" 23 "RoofRegattaModel" "fresh" "[I" ∈ tb := tb_t6 120 (by decide +kernel) (by decide +kernel)
theorem tw_1423 : Cond.fieldLink "RoofRegattaModel" 26 "RoofRegattaModel" "st" "[I" ∈ tb := tb_t6 121 (by decide +kernel) (by decide +kernel)
theorem tw_1424 : Cond.fieldLink "RoofRegattaModel" 29 "RoofRegattaModel" "undone" "[I" ∈ tb := tb_t6 122 (by decide +kernel) (by decide +kernel)
theorem tw_1425 : Cond.fieldLink "RoofRegattaModel" 32 "RoofRegattaModel" "kept" "[I" ∈ tb := tb_t6 123 (by decide +kernel) (by decide +kernel)
theorem tw_1426 : Cond.fieldLink "RoofRegattaModel" 179 "RoofRegattaModel" "undos" "I" ∈ tb := tb_t6 124 (by decide +kernel) (by decide +kernel)
theorem tw_1427 : Cond.fieldLink "RoofRegattaModel" 182 "RoofRegattaModel" "images" "I" ∈ tb := tb_t6 125 (by decide +kernel) (by decide +kernel)
theorem tw_1428 : Cond.fieldLink "RoofRegattaModel" 281 "RoofRegattaModel" "rainy" "I" ∈ tb := tb_t6 126 (by decide +kernel) (by decide +kernel)
theorem tw_1429 : Cond.fieldLink "RoofRegattaModel" 35 "RoofRegattaModel" "totals" "[I" ∈ tb := tb_t6 127 (by decide +kernel) (by decide +kernel)
theorem tw_1430 : Cond.fieldLink "RoofRegattaModel" 38 "RoofRegattaModel" "ranks" "[I" ∈ tb := tb_t6 128 (by decide +kernel) (by decide +kernel)
theorem tw_1431 : Cond.fieldLink "RoofRegattaModel" 300 "RoofRegattaModel" "outs" "I" ∈ tb := tb_t6 129 (by decide +kernel) (by decide +kernel)
theorem tw_1432 : Cond.fieldLink "RoofRegattaModel" 41 "RoofRegattaModel" "trial" "[I" ∈ tb := tb_t6 130 (by decide +kernel) (by decide +kernel)
theorem tw_1433 : Cond.fieldLink "RoofRegattaModel" 44 "RoofRegattaModel" "bestLoad" "[I" ∈ tb := tb_t6 131 (by decide +kernel) (by decide +kernel)
theorem tw_1434 : Cond.fieldLink "RoofRegattaModel" 336 "RoofRegattaModel" "wanted" "I" ∈ tb := tb_t6 132 (by decide +kernel) (by decide +kernel)
theorem tw_1435 : Cond.fieldLink "RoofRegattaModel" 345 "RoofRegattaModel" "bestKey" "I" ∈ tb := tb_t6 133 (by decide +kernel) (by decide +kernel)
theorem tw_1436 : Cond.fieldLink "RoofRegattaModel" 348 "RoofRegattaModel" "bestMoved" "I" ∈ tb := tb_t6 134 (by decide +kernel) (by decide +kernel)
theorem tw_1437 : Cond.fieldLink "RoofRegattaModel" 339 "RoofRegattaModel" "leastSum" "I" ∈ tb := tb_t6 135 (by decide +kernel) (by decide +kernel)
theorem tw_1438 : Cond.fieldLink "RoofRegattaModel" 47 "RoofRegattaModel" "litMany" "[I" ∈ tb := tb_t6 136 (by decide +kernel) (by decide +kernel)
theorem tw_1439 : Cond.fieldLink "RoofRegattaModel" 368 "RoofRegattaModel" "setMany" "I" ∈ tb := tb_t6 137 (by decide +kernel) (by decide +kernel)
theorem tw_1440 : Cond.fieldLink "RoofRegattaModel" 371 "RoofRegattaModel" "someLit" "I" ∈ tb := tb_t6 138 (by decide +kernel) (by decide +kernel)
theorem tw_1441 : Cond.fieldLink "RoofRegattaModel" 374 "RoofRegattaModel" "allLit" "I" ∈ tb := tb_t6 139 (by decide +kernel) (by decide +kernel)
theorem tw_1442 : Cond.fieldLink "RoofRegattaModel" 389 "RoofRegattaModel" "allWeight" "J" ∈ tb := tb_t6 140 (by decide +kernel) (by decide +kernel)
theorem tw_1443 : Cond.fieldLink "RoofRegattaModel" 393 "RoofRegattaModel" "rankWeight" "J" ∈ tb := tb_t6 141 (by decide +kernel) (by decide +kernel)
theorem tw_1444 : Cond.fieldLink "RoofRegattaModel" 396 "RoofRegattaModel" "totalSum" "J" ∈ tb := tb_t6 142 (by decide +kernel) (by decide +kernel)
theorem tw_1445 : Cond.fieldLink "RoofRegattaModel" 399 "RoofRegattaModel" "prizeSum" "J" ∈ tb := tb_t6 143 (by decide +kernel) (by decide +kernel)
theorem tw_1446 : Cond.fieldLink "RoofRegattaModel" 50 "RoofRegattaModel" "won" "[I" ∈ tb := tb_t6 144 (by decide +kernel) (by decide +kernel)
theorem tw_1447 : Cond.fieldLink "RoofRegattaModel" 412 "RoofRegattaModel" "leastEve\x72" "I" ∈ tb := tb_t6 145 (by decide +kernel) (by decide +kernel)
theorem tw_1448 : Cond.fieldLink "RoofRegattaModel" 424 "RoofRegattaModel" "firstRest" "I" ∈ tb := tb_t6 146 (by decide +kernel) (by decide +kernel)
theorem tw_1449 : Cond.lays "RoofRegattaModel" "RoofRegattaModel" "thrown" "I" ∈ tb := tb_t6 147 (by decide +kernel) (by decide +kernel)
theorem tw_1451 : Cond.laysFinal "RoofRegattaModel" "RoofRegattaModel" "tape" "[I" ∈ tb := tb_t6 149 (by decide +kernel) (by decide +kernel)
theorem tw_1453 : Cond.lays "RoofRegattaModel" "RoofRegattaModel" "taped" "I" ∈ tb := tb_t6 151 (by decide +kernel) (by decide +kernel)
theorem tw_1455 : Cond.lays "RoofRegattaModel" "RoofRegattaModel" "size" "I" ∈ tb := tb_t6 153 (by decide +kernel) (by decide +kernel)
theorem tw_1457 : Cond.lays "RoofRegattaModel" "RoofRegattaModel" "at" "I" ∈ tb := tb_t6 155 (by decide +kernel) (by decide +kernel)
theorem tw_1459 : Cond.lays "RoofRegattaModel" "RoofRegattaModel" "end" "I" ∈ tb := tb_t6 157 (by decide +kernel) (by decide +kernel)
theorem tw_1461 : Cond.lays "RoofRegattaModel" "RoofRegattaModel" "token" "I" ∈ tb := tb_t6 159 (by decide +kernel) (by decide +kernel)
theorem tw_1463 : Cond.lays "RoofRegattaModel" "RoofRegattaModel" "whole" "I" ∈ tb := tb_t6 161 (by decide +kernel) (by decide +kernel)
theorem tw_1465 : Cond.lays "RoofRegattaModel" "RoofRegattaModel" "nameSize" "I" ∈ tb := tb_t6 163 (by decide +kernel) (by decide +kernel)
theorem tw_1467 : Cond.lays "RoofRegattaModel" "RoofRegattaModel" "fault" "I" ∈ tb := tb_t6 165 (by decide +kernel) (by decide +kernel)
theorem tw_1469 : Cond.lays "RoofRegattaModel" "RoofRegattaModel" "place" "I" ∈ tb := tb_t6 167 (by decide +kernel) (by decide +kernel)
theorem tw_1471 : Cond.lays "RoofRegattaModel" "RoofRegattaModel" "trouble" "I" ∈ tb := tb_t6 169 (by decide +kernel) (by decide +kernel)
theorem tw_1473 : Cond.laysFinal "RoofRegattaModel" "RoofRegattaModel" "letters" "[I" ∈ tb := tb_t6 171 (by decide +kernel) (by decide +kernel)
theorem tw_1475 : Cond.lays "RoofRegattaModel" "RoofRegattaModel" "failed" "Z" ∈ tb := tb_t6 173 (by decide +kernel) (by decide +kernel)
theorem tw_1477 : Cond.lays "RoofRegattaModel" "RoofRegattaModel" "hasRegatta" "Z" ∈ tb := tb_t6 175 (by decide +kernel) (by decide +kernel)
theorem tw_1479 : Cond.laysFinal "RoofRegattaModel" "RoofRegattaModel" "\x72" "[I" ∈ tb := tb_t6 177 (by decide +kernel) (by decide +kernel)
theorem tw_1481 : Cond.laysFinal "RoofRegattaModel" "RoofRegattaModel" "fresh" "[I" ∈ tb := tb_t6 179 (by decide +kernel) (by decide +kernel)
theorem tw_1483 : Cond.laysFinal "RoofRegattaModel" "RoofRegattaModel" "st" "[I" ∈ tb := tb_t6 181 (by decide +kernel) (by decide +kernel)
theorem tw_1485 : Cond.laysFinal "RoofRegattaModel" "RoofRegattaModel" "undone" "[I" ∈ tb := tb_t6 183 (by decide +kernel) (by decide +kernel)
theorem tw_1487 : Cond.laysFinal "RoofRegattaModel" "RoofRegattaModel" "kept" "[I" ∈ tb := tb_t6 185 (by decide +kernel) (by decide +kernel)
theorem tw_1489 : Cond.lays "RoofRegattaModel" "RoofRegattaModel" "undos" "I" ∈ tb := tb_t6 187 (by decide +kernel) (by decide +kernel)
theorem tw_1491 : Cond.lays "RoofRegattaModel" "RoofRegattaModel" "images" "I" ∈ tb := tb_t6 189 (by decide +kernel) (by decide +kernel)
theorem tw_1493 : Cond.lays "RoofRegattaModel" "RoofRegattaModel" "rainy" "I" ∈ tb := tb_t6 191 (by decide +kernel) (by decide +kernel)
theorem tw_1495 : Cond.laysFinal "RoofRegattaModel" "RoofRegattaModel" "totals" "[I" ∈ tb := tb_t6 193 (by decide +kernel) (by decide +kernel)
theorem tw_1497 : Cond.laysFinal "RoofRegattaModel" "RoofRegattaModel" "ranks" "[I" ∈ tb := tb_t6 195 (by decide +kernel) (by decide +kernel)
theorem tw_1499 : Cond.lays "RoofRegattaModel" "RoofRegattaModel" "outs" "I" ∈ tb := tb_t6 197 (by decide +kernel) (by decide +kernel)
theorem tw_1501 : Cond.laysFinal "RoofRegattaModel" "RoofRegattaModel" "trial" "[I" ∈ tb := tb_t6 199 (by decide +kernel) (by decide +kernel)
theorem tw_1503 : Cond.laysFinal "RoofRegattaModel" "RoofRegattaModel" "bestLoad" "[I" ∈ tb := tb_t6 201 (by decide +kernel) (by decide +kernel)
theorem tw_1505 : Cond.lays "RoofRegattaModel" "RoofRegattaModel" "wanted" "I" ∈ tb := tb_t6 203 (by decide +kernel) (by decide +kernel)
theorem tw_1507 : Cond.lays "RoofRegattaModel" "RoofRegattaModel" "bestKey" "I" ∈ tb := tb_t6 205 (by decide +kernel) (by decide +kernel)
theorem tw_1509 : Cond.lays "RoofRegattaModel" "RoofRegattaModel" "bestMoved" "I" ∈ tb := tb_t6 207 (by decide +kernel) (by decide +kernel)
theorem tw_1511 : Cond.lays "RoofRegattaModel" "RoofRegattaModel" "leastSum" "I" ∈ tb := tb_t6 209 (by decide +kernel) (by decide +kernel)
theorem tw_1513 : Cond.laysFinal "RoofRegattaModel" "RoofRegattaModel" "litMany" "[I" ∈ tb := tb_t6 211 (by decide +kernel) (by decide +kernel)
theorem tw_1515 : Cond.lays "RoofRegattaModel" "RoofRegattaModel" "setMany" "I" ∈ tb := tb_t6 213 (by decide +kernel) (by decide +kernel)
theorem tw_1517 : Cond.lays "RoofRegattaModel" "RoofRegattaModel" "someLit" "I" ∈ tb := tb_t6 215 (by decide +kernel) (by decide +kernel)
theorem tw_1519 : Cond.lays "RoofRegattaModel" "RoofRegattaModel" "allLit" "I" ∈ tb := tb_t6 217 (by decide +kernel) (by decide +kernel)
theorem tw_1521 : Cond.lays "RoofRegattaModel" "RoofRegattaModel" "allWeight" "J" ∈ tb := tb_t6 219 (by decide +kernel) (by decide +kernel)
theorem tw_1523 : Cond.lays "RoofRegattaModel" "RoofRegattaModel" "rankWeight" "J" ∈ tb := tb_t6 221 (by decide +kernel) (by decide +kernel)
theorem tw_1525 : Cond.lays "RoofRegattaModel" "RoofRegattaModel" "totalSum" "J" ∈ tb := tb_t6 223 (by decide +kernel) (by decide +kernel)
theorem tw_1527 : Cond.lays "RoofRegattaModel" "RoofRegattaModel" "prizeSum" "J" ∈ tb := tb_t6 225 (by decide +kernel) (by decide +kernel)
theorem tw_1529 : Cond.laysFinal "RoofRegattaModel" "RoofRegattaModel" "won" "[I" ∈ tb := tb_t6 227 (by decide +kernel) (by decide +kernel)
theorem tw_1531 : Cond.lays "RoofRegattaModel" "RoofRegattaModel" "leastEve\x72" "I" ∈ tb := tb_t6 229 (by decide +kernel) (by decide +kernel)
theorem tw_1533 : Cond.lays "RoofRegattaModel" "RoofRegattaModel" "firstRest" "I" ∈ tb := tb_t6 231 (by decide +kernel) (by decide +kernel)
theorem tw_1536 : Cond.methodLink "RoofRegattaLaw" 259 (⟨"RoofRegattaModel", "thrown", "()I"⟩ : MethodName) ∈ tb := tb_t6 234 (by decide +kernel) (by decide +kernel)
theorem tw_1537 : Cond.instanceMethod (⟨"RoofRegattaModel", "thrown", "()I"⟩ : MethodName) ∈ tb := tb_t6 235 (by decide +kernel) (by decide +kernel)
theorem tw_1538 : Cond.selects "RoofRegattaModel" (⟨"RoofRegattaModel", "thrown", "()I"⟩ : MethodName) (⟨"RoofRegattaModel", "thrown", "()I"⟩ : MethodName) ∈ tb := tb_t6 236 (by decide +kernel) (by decide +kernel)
set_option maxRecDepth 100000 in
theorem tw_1539 : Cond.code (⟨"RoofRegattaModel", "thrown", "()I"⟩ : MethodName) prog_13_method_2_code 1 (some .int) ∈ tb := tb_t6 237 rfl rfl
theorem tw_1540 : Cond.methodLink "RoofRegattaLaw" 23 (⟨"RoofRegattaModel", "feed", "(IIIII)I"⟩ : MethodName) ∈ tb := tb_t6 238 (by decide +kernel) (by decide +kernel)
theorem tw_1541 : Cond.instanceMethod (⟨"RoofRegattaModel", "feed", "(IIIII)I"⟩ : MethodName) ∈ tb := tb_t6 239 (by decide +kernel) (by decide +kernel)
theorem tw_1542 : Cond.selects "RoofRegattaModel" (⟨"RoofRegattaModel", "feed", "(IIIII)I"⟩ : MethodName) (⟨"RoofRegattaModel", "feed", "(IIIII)I"⟩ : MethodName) ∈ tb := tb_t7 0 (by decide +kernel) (by decide +kernel)
set_option maxRecDepth 100000 in
theorem tw_1543 : Cond.code (⟨"RoofRegattaModel", "feed", "(IIIII)I"⟩ : MethodName) prog_13_method_11_code 8 (some .int) ∈ tb := tb_t7 1 rfl rfl
theorem tw_1544 : Cond.methodLink "RoofRegattaLaw" 27 (⟨"RoofRegattaModel", "regatta", "(I)I"⟩ : MethodName) ∈ tb := tb_t7 2 (by decide +kernel) (by decide +kernel)
theorem tw_1545 : Cond.instanceMethod (⟨"RoofRegattaModel", "regatta", "(I)I"⟩ : MethodName) ∈ tb := tb_t7 3 (by decide +kernel) (by decide +kernel)
theorem tw_1546 : Cond.selects "RoofRegattaModel" (⟨"RoofRegattaModel", "regatta", "(I)I"⟩ : MethodName) (⟨"RoofRegattaModel", "regatta", "(I)I"⟩ : MethodName) ∈ tb := tb_t7 4 (by decide +kernel) (by decide +kernel)
set_option maxRecDepth 100000 in
theorem tw_1547 : Cond.code (⟨"RoofRegattaModel", "regatta", "(I)I"⟩ : MethodName) prog_13_method_30_code 3 (some .int) ∈ tb := tb_t7 5 rfl rfl
theorem tw_1548 : Cond.methodLink "RoofRegattaModel" 163 (⟨"RoofRegattaModel", "good", "()V"⟩ : MethodName) ∈ tb := tb_t7 6 (by decide +kernel) (by decide +kernel)
theorem tw_1550 : Cond.instanceMethod (⟨"RoofRegattaModel", "good", "()V"⟩ : MethodName) ∈ tb := tb_t7 8 (by decide +kernel) (by decide +kernel)
set_option maxRecDepth 100000 in
theorem tw_1551 : Cond.code (⟨"RoofRegattaModel", "good", "()V"⟩ : MethodName) prog_13_method_3_code 1 (none : Option Jvm.ClassFile.FieldType) ∈ tb := tb_t7 9 rfl rfl
theorem tw_1552 : Cond.methodLink "RoofRegattaModel" 144 (⟨"RoofRegattaModel", "in", "(III)Z"⟩ : MethodName) ∈ tb := tb_t7 10 (by decide +kernel) (by decide +kernel)
theorem tw_1553 : Cond.static (⟨"RoofRegattaModel", "in", "(III)Z"⟩ : MethodName) ∈ tb := tb_t7 11 (by decide +kernel) (by decide +kernel)
set_option maxRecDepth 100000 in
theorem tw_1554 : Cond.code (⟨"RoofRegattaModel", "in", "(III)Z"⟩ : MethodName) prog_13_method_6_code 3 (some .boolean) ∈ tb := tb_t7 12 rfl rfl
theorem tw_1555 : Cond.methodLink "RoofRegattaModel" 166 (⟨"RoofRegattaModel", "no", "(I)I"⟩ : MethodName) ∈ tb := tb_t7 13 (by decide +kernel) (by decide +kernel)
theorem tw_1557 : Cond.instanceMethod (⟨"RoofRegattaModel", "no", "(I)I"⟩ : MethodName) ∈ tb := tb_t7 15 (by decide +kernel) (by decide +kernel)
set_option maxRecDepth 100000 in
theorem tw_1558 : Cond.code (⟨"RoofRegattaModel", "no", "(I)I"⟩ : MethodName) prog_13_method_4_code 2 (some .int) ∈ tb := tb_t7 16 rfl rfl
theorem tw_1559 : Cond.methodLink "RoofRegattaModel" 112 (⟨"RoofRegattaModel", "next", "()V"⟩ : MethodName) ∈ tb := tb_t7 17 (by decide +kernel) (by decide +kernel)
theorem tw_1561 : Cond.instanceMethod (⟨"RoofRegattaModel", "next", "()V"⟩ : MethodName) ∈ tb := tb_t7 19 (by decide +kernel) (by decide +kernel)
set_option maxRecDepth 100000 in
theorem tw_1562 : Cond.code (⟨"RoofRegattaModel", "next", "()V"⟩ : MethodName) prog_13_method_15_code 4 (none : Option Jvm.ClassFile.FieldType) ∈ tb := tb_t7 20 rfl rfl
theorem tw_1563 : Cond.methodLink "RoofRegattaModel" 68 (⟨"RoofRegattaModel", "see", "(I)I"⟩ : MethodName) ∈ tb := tb_t7 21 (by decide +kernel) (by decide +kernel)
theorem tw_1565 : Cond.instanceMethod (⟨"RoofRegattaModel", "see", "(I)I"⟩ : MethodName) ∈ tb := tb_t7 23 (by decide +kernel) (by decide +kernel)
set_option maxRecDepth 100000 in
theorem tw_1566 : Cond.code (⟨"RoofRegattaModel", "see", "(I)I"⟩ : MethodName) prog_13_method_12_code 2 (some .int) ∈ tb := tb_t7 24 rfl rfl
theorem tw_1567 : Cond.methodLink "RoofRegattaModel" 84 (⟨"RoofRegattaModel", "isSmall", "(I)Z"⟩ : MethodName) ∈ tb := tb_t7 25 (by decide +kernel) (by decide +kernel)
theorem tw_1568 : Cond.static (⟨"RoofRegattaModel", "isSmall", "(I)Z"⟩ : MethodName) ∈ tb := tb_t7 26 (by decide +kernel) (by decide +kernel)
set_option maxRecDepth 100000 in
theorem tw_1569 : Cond.code (⟨"RoofRegattaModel", "isSmall", "(I)Z"⟩ : MethodName) prog_13_method_13_code 1 (some .boolean) ∈ tb := tb_t7 27 rfl rfl
theorem tw_1570 : Cond.methodLink "RoofRegattaModel" 88 (⟨"RoofRegattaModel", "isDigit", "(I)Z"⟩ : MethodName) ∈ tb := tb_t7 28 (by decide +kernel) (by decide +kernel)
theorem tw_1571 : Cond.static (⟨"RoofRegattaModel", "isDigit", "(I)Z"⟩ : MethodName) ∈ tb := tb_t7 29 (by decide +kernel) (by decide +kernel)
set_option maxRecDepth 100000 in
theorem tw_1572 : Cond.code (⟨"RoofRegattaModel", "isDigit", "(I)Z"⟩ : MethodName) prog_13_method_14_code 1 (some .boolean) ∈ tb := tb_t7 30 rfl rfl
theorem tw_1573 : Cond.methodLink "RoofRegattaModel" 169 (⟨"RoofRegattaModel", "readLine", "()V"⟩ : MethodName) ∈ tb := tb_t7 31 (by decide +kernel) (by decide +kernel)
theorem tw_1575 : Cond.instanceMethod (⟨"RoofRegattaModel", "readLine", "()V"⟩ : MethodName) ∈ tb := tb_t7 33 (by decide +kernel) (by decide +kernel)
set_option maxRecDepth 100000 in
theorem tw_1576 : Cond.code (⟨"RoofRegattaModel", "readLine", "()V"⟩ : MethodName) prog_13_method_32_code 1 (none : Option Jvm.ClassFile.FieldType) ∈ tb := tb_t7 34 rfl rfl
theorem tw_1578 : Cond.methodLink "RoofRegattaModel" 108 (⟨"RoofRegattaModel", "isWord", "(Ljava/lang/String;)Z"⟩ : MethodName) ∈ tb := tb_t7 36 (by decide +kernel) (by decide +kernel)
theorem tw_1580 : Cond.instanceMethod (⟨"RoofRegattaModel", "isWord", "(Ljava/lang/String;)Z"⟩ : MethodName) ∈ tb := tb_t7 38 (by decide +kernel) (by decide +kernel)
set_option maxRecDepth 100000 in
theorem tw_1581 : Cond.code (⟨"RoofRegattaModel", "isWord", "(Ljava/lang/String;)Z"⟩ : MethodName) prog_13_method_17_code 4 (some .boolean) ∈ tb := tb_t7 39 rfl rfl
theorem tw_1582 : Cond.methodLink "RoofRegattaModel" 98 (⟨"java/lang/String", "length", "()I"⟩ : MethodName) ∈ tb := tb_t7 40 (by decide +kernel) (by decide +kernel)
theorem tw_1583 : Cond.methodLink "RoofRegattaModel" 104 (⟨"java/lang/String", "charAt", "(I)C"⟩ : MethodName) ∈ tb := tb_t7 41 (by decide +kernel) (by decide +kernel)
theorem tw_1584 : Cond.methodLink "RoofRegattaModel" 185 (⟨"RoofRegattaModel", "regattaLine", "()V"⟩ : MethodName) ∈ tb := tb_t7 42 (by decide +kernel) (by decide +kernel)
theorem tw_1586 : Cond.instanceMethod (⟨"RoofRegattaModel", "regattaLine", "()V"⟩ : MethodName) ∈ tb := tb_t7 44 (by decide +kernel) (by decide +kernel)
set_option maxRecDepth 100000 in
theorem tw_1587 : Cond.code (⟨"RoofRegattaModel", "regattaLine", "()V"⟩ : MethodName) prog_13_method_33_code 2 (none : Option Jvm.ClassFile.FieldType) ∈ tb := tb_t7 45 rfl rfl
theorem tw_1588 : Cond.methodLink "RoofRegattaModel" 118 (⟨"RoofRegattaModel", "wrong", "(II)V"⟩ : MethodName) ∈ tb := tb_t7 46 (by decide +kernel) (by decide +kernel)
theorem tw_1590 : Cond.instanceMethod (⟨"RoofRegattaModel", "wrong", "(II)V"⟩ : MethodName) ∈ tb := tb_t7 48 (by decide +kernel) (by decide +kernel)
set_option maxRecDepth 100000 in
theorem tw_1591 : Cond.code (⟨"RoofRegattaModel", "wrong", "(II)V"⟩ : MethodName) prog_13_method_16_code 3 (none : Option Jvm.ClassFile.FieldType) ∈ tb := tb_t7 49 rfl rfl
theorem tw_1593 : Cond.methodLink "RoofRegattaModel" 215 (⟨"RoofRegattaModel", "afte\x72", "(Ljava/lang/String;II)I"⟩ : MethodName) ∈ tb := tb_t7 51 (by decide +kernel) (by decide +kernel)
theorem tw_1595 : Cond.instanceMethod (⟨"RoofRegattaModel", "afte\x72", "(Ljava/lang/String;II)I"⟩ : MethodName) ∈ tb := tb_t7 53 (by decide +kernel) (by decide +kernel)
set_option maxRecDepth 100000 in
theorem tw_1596 : Cond.code (⟨"RoofRegattaModel", "afte\x72", "(Ljava/lang/String;II)I"⟩ : MethodName) prog_13_method_28_code 4 (some .int) ∈ tb := tb_t7 54 rfl rfl
theorem tw_1597 : Cond.methodLink "RoofRegattaModel" 152 (⟨"RoofRegattaModel", "must", "(Ljava/lang/String;)V"⟩ : MethodName) ∈ tb := tb_t7 55 (by decide +kernel) (by decide +kernel)
theorem tw_1599 : Cond.instanceMethod (⟨"RoofRegattaModel", "must", "(Ljava/lang/String;)V"⟩ : MethodName) ∈ tb := tb_t7 57 (by decide +kernel) (by decide +kernel)
set_option maxRecDepth 100000 in
theorem tw_1600 : Cond.code (⟨"RoofRegattaModel", "must", "(Ljava/lang/String;)V"⟩ : MethodName) prog_13_method_19_code 2 (none : Option Jvm.ClassFile.FieldType) ∈ tb := tb_t7 58 rfl rfl
theorem tw_1601 : Cond.methodLink "RoofRegattaModel" 115 (⟨"RoofRegattaModel", "takesWord", "(Ljava/lang/String;)Z"⟩ : MethodName) ∈ tb := tb_t7 59 (by decide +kernel) (by decide +kernel)
theorem tw_1603 : Cond.instanceMethod (⟨"RoofRegattaModel", "takesWord", "(Ljava/lang/String;)Z"⟩ : MethodName) ∈ tb := tb_t7 61 (by decide +kernel) (by decide +kernel)
set_option maxRecDepth 100000 in
theorem tw_1604 : Cond.code (⟨"RoofRegattaModel", "takesWord", "(Ljava/lang/String;)Z"⟩ : MethodName) prog_13_method_18_code 2 (some .boolean) ∈ tb := tb_t7 62 rfl rfl
theorem tw_1605 : Cond.methodLink "RoofRegattaModel" 156 (⟨"RoofRegattaModel", "numbe\x72", "(II)I"⟩ : MethodName) ∈ tb := tb_t7 63 (by decide +kernel) (by decide +kernel)
theorem tw_1607 : Cond.instanceMethod (⟨"RoofRegattaModel", "numbe\x72", "(II)I"⟩ : MethodName) ∈ tb := tb_t7 65 (by decide +kernel) (by decide +kernel)
set_option maxRecDepth 100000 in
theorem tw_1608 : Cond.code (⟨"RoofRegattaModel", "numbe\x72", "(II)I"⟩ : MethodName) prog_13_method_27_code 4 (some .int) ∈ tb := tb_t7 66 rfl rfl
theorem tw_1614 : Cond.methodLink "RoofRegattaModel" 188 (⟨"RoofRegattaModel", "begins", "(Ljava/lang/String;Z)Z"⟩ : MethodName) ∈ tb := tb_t7 72 (by decide +kernel) (by decide +kernel)
theorem tw_1616 : Cond.instanceMethod (⟨"RoofRegattaModel", "begins", "(Ljava/lang/String;Z)Z"⟩ : MethodName) ∈ tb := tb_t7 74 (by decide +kernel) (by decide +kernel)
set_option maxRecDepth 100000 in
theorem tw_1617 : Cond.code (⟨"RoofRegattaModel", "begins", "(Ljava/lang/String;Z)Z"⟩ : MethodName) prog_13_method_31_code 3 (some .boolean) ∈ tb := tb_t7 75 rfl rfl
theorem tw_1618 : Cond.methodLink "RoofRegattaModel" 192 (⟨"RoofRegattaModel", "bendLine", "()V"⟩ : MethodName) ∈ tb := tb_t7 76 (by decide +kernel) (by decide +kernel)
theorem tw_1620 : Cond.instanceMethod (⟨"RoofRegattaModel", "bendLine", "()V"⟩ : MethodName) ∈ tb := tb_t7 78 (by decide +kernel) (by decide +kernel)
set_option maxRecDepth 100000 in
theorem tw_1621 : Cond.code (⟨"RoofRegattaModel", "bendLine", "()V"⟩ : MethodName) prog_13_method_34_code 2 (none : Option Jvm.ClassFile.FieldType) ∈ tb := tb_t7 79 rfl rfl
theorem tw_1622 : Cond.methodLink "RoofRegattaModel" 227 (⟨"RoofRegattaModel", "newName", "(I)V"⟩ : MethodName) ∈ tb := tb_t7 80 (by decide +kernel) (by decide +kernel)
theorem tw_1624 : Cond.instanceMethod (⟨"RoofRegattaModel", "newName", "(I)V"⟩ : MethodName) ∈ tb := tb_t7 82 (by decide +kernel) (by decide +kernel)
set_option maxRecDepth 100000 in
theorem tw_1625 : Cond.code (⟨"RoofRegattaModel", "newName", "(I)V"⟩ : MethodName) prog_13_method_22_code 3 (none : Option Jvm.ClassFile.FieldType) ∈ tb := tb_t7 83 rfl rfl
theorem tw_1626 : Cond.methodLink "RoofRegattaModel" 138 (⟨"RoofRegattaModel", "mustName", "()V"⟩ : MethodName) ∈ tb := tb_t7 84 (by decide +kernel) (by decide +kernel)
theorem tw_1628 : Cond.instanceMethod (⟨"RoofRegattaModel", "mustName", "()V"⟩ : MethodName) ∈ tb := tb_t7 86 (by decide +kernel) (by decide +kernel)
set_option maxRecDepth 100000 in
theorem tw_1629 : Cond.code (⟨"RoofRegattaModel", "mustName", "()V"⟩ : MethodName) prog_13_method_20_code 1 (none : Option Jvm.ClassFile.FieldType) ∈ tb := tb_t7 87 rfl rfl
theorem tw_1636 : Cond.methodLink "RoofRegattaModel" 141 (⟨"RoofRegattaModel", "find", "()I"⟩ : MethodName) ∈ tb := tb_t7 94 (by decide +kernel) (by decide +kernel)
theorem tw_1638 : Cond.instanceMethod (⟨"RoofRegattaModel", "find", "()I"⟩ : MethodName) ∈ tb := tb_t7 96 (by decide +kernel) (by decide +kernel)
set_option maxRecDepth 100000 in
theorem tw_1639 : Cond.code (⟨"RoofRegattaModel", "find", "()I"⟩ : MethodName) prog_13_method_21_code 4 (some .int) ∈ tb := tb_t7 97 rfl rfl
theorem tw_1641 : Cond.methodLink "RoofRegattaModel" 233 (⟨"RoofRegattaModel", "side", "()I"⟩ : MethodName) ∈ tb := tb_t7 99 (by decide +kernel) (by decide +kernel)
theorem tw_1643 : Cond.instanceMethod (⟨"RoofRegattaModel", "side", "()I"⟩ : MethodName) ∈ tb := tb_t7 101 (by decide +kernel) (by decide +kernel)
set_option maxRecDepth 100000 in
theorem tw_1644 : Cond.code (⟨"RoofRegattaModel", "side", "()I"⟩ : MethodName) prog_13_method_29_code 1 (some .int) ∈ tb := tb_t7 102 rfl rfl
theorem tw_1647 : Cond.methodLink "RoofRegattaModel" 195 (⟨"RoofRegattaModel", "houseLine", "()V"⟩ : MethodName) ∈ tb := tb_t7 105 (by decide +kernel) (by decide +kernel)
theorem tw_1649 : Cond.instanceMethod (⟨"RoofRegattaModel", "houseLine", "()V"⟩ : MethodName) ∈ tb := tb_t7 107 (by decide +kernel) (by decide +kernel)
set_option maxRecDepth 100000 in
theorem tw_1650 : Cond.code (⟨"RoofRegattaModel", "houseLine", "()V"⟩ : MethodName) prog_13_method_35_code 3 (none : Option Jvm.ClassFile.FieldType) ∈ tb := tb_t7 108 rfl rfl
theorem tw_1657 : Cond.methodLink "RoofRegattaModel" 198 (⟨"RoofRegattaModel", "lodgerLine", "()V"⟩ : MethodName) ∈ tb := tb_t7 115 (by decide +kernel) (by decide +kernel)
theorem tw_1659 : Cond.instanceMethod (⟨"RoofRegattaModel", "lodgerLine", "()V"⟩ : MethodName) ∈ tb := tb_t7 117 (by decide +kernel) (by decide +kernel)
set_option maxRecDepth 100000 in
theorem tw_1660 : Cond.code (⟨"RoofRegattaModel", "lodgerLine", "()V"⟩ : MethodName) prog_13_method_36_code 2 (none : Option Jvm.ClassFile.FieldType) ∈ tb := tb_t7 118 rfl rfl
theorem tw_1663 : Cond.methodLink "RoofRegattaModel" 201 (⟨"RoofRegattaModel", "aboardLine", "()V"⟩ : MethodName) ∈ tb := tb_t7 121 (by decide +kernel) (by decide +kernel)
theorem tw_1665 : Cond.instanceMethod (⟨"RoofRegattaModel", "aboardLine", "()V"⟩ : MethodName) ∈ tb := tb_t7 123 (by decide +kernel) (by decide +kernel)
set_option maxRecDepth 100000 in
theorem tw_1666 : Cond.code (⟨"RoofRegattaModel", "aboardLine", "()V"⟩ : MethodName) prog_13_method_37_code 5 (none : Option Jvm.ClassFile.FieldType) ∈ tb := tb_t7 124 rfl rfl
theorem tw_1667 : Cond.methodLink "RoofRegattaModel" 252 (⟨"RoofRegattaModel", "lodgerHere", "()I"⟩ : MethodName) ∈ tb := tb_t7 125 (by decide +kernel) (by decide +kernel)
theorem tw_1669 : Cond.instanceMethod (⟨"RoofRegattaModel", "lodgerHere", "()I"⟩ : MethodName) ∈ tb := tb_t7 127 (by decide +kernel) (by decide +kernel)
set_option maxRecDepth 100000 in
theorem tw_1670 : Cond.code (⟨"RoofRegattaModel", "lodgerHere", "()I"⟩ : MethodName) prog_13_method_25_code 1 (some .int) ∈ tb := tb_t7 128 rfl rfl
theorem tw_1671 : Cond.methodLink "RoofRegattaModel" 148 (⟨"RoofRegattaModel", "named", "(II)I"⟩ : MethodName) ∈ tb := tb_t7 129 (by decide +kernel) (by decide +kernel)
theorem tw_1673 : Cond.instanceMethod (⟨"RoofRegattaModel", "named", "(II)I"⟩ : MethodName) ∈ tb := tb_t7 131 (by decide +kernel) (by decide +kernel)
set_option maxRecDepth 100000 in
theorem tw_1674 : Cond.code (⟨"RoofRegattaModel", "named", "(II)I"⟩ : MethodName) prog_13_method_23_code 4 (some .int) ∈ tb := tb_t7 132 rfl rfl
theorem tw_1675 : Cond.methodLink "RoofRegattaModel" 255 (⟨"RoofRegattaModel", "pass", "()V"⟩ : MethodName) ∈ tb := tb_t7 133 (by decide +kernel) (by decide +kernel)
theorem tw_1677 : Cond.instanceMethod (⟨"RoofRegattaModel", "pass", "()V"⟩ : MethodName) ∈ tb := tb_t7 135 (by decide +kernel) (by decide +kernel)
set_option maxRecDepth 100000 in
theorem tw_1678 : Cond.code (⟨"RoofRegattaModel", "pass", "()V"⟩ : MethodName) prog_13_method_26_code 1 (none : Option Jvm.ClassFile.FieldType) ∈ tb := tb_t7 136 rfl rfl
theorem tw_1679 : Cond.methodLink "RoofRegattaModel" 258 (⟨"RoofRegattaModel", "houseHere", "()I"⟩ : MethodName) ∈ tb := tb_t7 137 (by decide +kernel) (by decide +kernel)
theorem tw_1681 : Cond.instanceMethod (⟨"RoofRegattaModel", "houseHere", "()I"⟩ : MethodName) ∈ tb := tb_t7 139 (by decide +kernel) (by decide +kernel)
set_option maxRecDepth 100000 in
theorem tw_1682 : Cond.code (⟨"RoofRegattaModel", "houseHere", "()I"⟩ : MethodName) prog_13_method_24_code 1 (some .int) ∈ tb := tb_t7 140 rfl rfl
theorem tw_1683 : Cond.methodLink "RoofRegattaModel" 204 (⟨"RoofRegattaModel", "friendLine", "()V"⟩ : MethodName) ∈ tb := tb_t7 141 (by decide +kernel) (by decide +kernel)
theorem tw_1685 : Cond.instanceMethod (⟨"RoofRegattaModel", "friendLine", "()V"⟩ : MethodName) ∈ tb := tb_t7 143 (by decide +kernel) (by decide +kernel)
set_option maxRecDepth 100000 in
theorem tw_1686 : Cond.code (⟨"RoofRegattaModel", "friendLine", "()V"⟩ : MethodName) prog_13_method_38_code 3 (none : Option Jvm.ClassFile.FieldType) ∈ tb := tb_t7 144 rfl rfl
theorem tw_1687 : Cond.methodLink "RoofRegattaModel" 261 (⟨"RoofRegattaModel", "hasBit", "(II)Z"⟩ : MethodName) ∈ tb := tb_t7 145 (by decide +kernel) (by decide +kernel)
theorem tw_1688 : Cond.static (⟨"RoofRegattaModel", "hasBit", "(II)Z"⟩ : MethodName) ∈ tb := tb_t7 146 (by decide +kernel) (by decide +kernel)
set_option maxRecDepth 100000 in
theorem tw_1689 : Cond.code (⟨"RoofRegattaModel", "hasBit", "(II)Z"⟩ : MethodName) prog_13_method_7_code 2 (some .boolean) ∈ tb := tb_t7 147 rfl rfl
theorem tw_1690 : Cond.methodLink "RoofRegattaModel" 207 (⟨"RoofRegattaModel", "prizeLine", "()V"⟩ : MethodName) ∈ tb := tb_t7 148 (by decide +kernel) (by decide +kernel)
theorem tw_1692 : Cond.instanceMethod (⟨"RoofRegattaModel", "prizeLine", "()V"⟩ : MethodName) ∈ tb := tb_t7 150 (by decide +kernel) (by decide +kernel)
set_option maxRecDepth 100000 in
theorem tw_1693 : Cond.code (⟨"RoofRegattaModel", "prizeLine", "()V"⟩ : MethodName) prog_13_method_39_code 2 (none : Option Jvm.ClassFile.FieldType) ∈ tb := tb_t7 151 rfl rfl
theorem tw_1694 : Cond.methodLink "RoofRegattaModel" 210 (⟨"RoofRegattaModel", "sawLine", "()V"⟩ : MethodName) ∈ tb := tb_t7 152 (by decide +kernel) (by decide +kernel)
theorem tw_1696 : Cond.instanceMethod (⟨"RoofRegattaModel", "sawLine", "()V"⟩ : MethodName) ∈ tb := tb_t7 154 (by decide +kernel) (by decide +kernel)
set_option maxRecDepth 100000 in
theorem tw_1697 : Cond.code (⟨"RoofRegattaModel", "sawLine", "()V"⟩ : MethodName) prog_13_method_40_code 5 (none : Option Jvm.ClassFile.FieldType) ∈ tb := tb_t7 155 rfl rfl
theorem tw_1698 : Cond.methodLink "RoofRegattaModel" 172 (⟨"RoofRegattaModel", "copy", "([II[III)V"⟩ : MethodName) ∈ tb := tb_t7 156 (by decide +kernel) (by decide +kernel)
theorem tw_1699 : Cond.static (⟨"RoofRegattaModel", "copy", "([II[III)V"⟩ : MethodName) ∈ tb := tb_t7 157 (by decide +kernel) (by decide +kernel)
set_option maxRecDepth 100000 in
theorem tw_1700 : Cond.code (⟨"RoofRegattaModel", "copy", "([II[III)V"⟩ : MethodName) prog_13_method_9_code 6 (none : Option Jvm.ClassFile.FieldType) ∈ tb := tb_t7 158 rfl rfl
theorem tw_1701 : Cond.methodLink "RoofRegattaLaw" 32 (⟨"RoofRegattaModel", "fault", "()I"⟩ : MethodName) ∈ tb := tb_t7 159 (by decide +kernel) (by decide +kernel)
theorem tw_1702 : Cond.instanceMethod (⟨"RoofRegattaModel", "fault", "()I"⟩ : MethodName) ∈ tb := tb_t7 160 (by decide +kernel) (by decide +kernel)
theorem tw_1703 : Cond.selects "RoofRegattaModel" (⟨"RoofRegattaModel", "fault", "()I"⟩ : MethodName) (⟨"RoofRegattaModel", "fault", "()I"⟩ : MethodName) ∈ tb := tb_t7 161 (by decide +kernel) (by decide +kernel)
set_option maxRecDepth 100000 in
theorem tw_1704 : Cond.code (⟨"RoofRegattaModel", "fault", "()I"⟩ : MethodName) prog_13_method_41_code 1 (some .int) ∈ tb := tb_t7 162 rfl rfl
theorem tw_1705 : Cond.methodLink "RoofRegattaLaw" 36 (⟨"RoofRegattaModel", "where", "()I"⟩ : MethodName) ∈ tb := tb_t7 163 (by decide +kernel) (by decide +kernel)
theorem tw_1706 : Cond.instanceMethod (⟨"RoofRegattaModel", "where", "()I"⟩ : MethodName) ∈ tb := tb_t7 164 (by decide +kernel) (by decide +kernel)
theorem tw_1707 : Cond.selects "RoofRegattaModel" (⟨"RoofRegattaModel", "where", "()I"⟩ : MethodName) (⟨"RoofRegattaModel", "where", "()I"⟩ : MethodName) ∈ tb := tb_t7 165 (by decide +kernel) (by decide +kernel)
set_option maxRecDepth 100000 in
theorem tw_1708 : Cond.code (⟨"RoofRegattaModel", "where", "()I"⟩ : MethodName) prog_13_method_42_code 1 (some .int) ∈ tb := tb_t7 166 rfl rfl
theorem tw_1709 : Cond.methodLink "RoofRegattaLaw" 41 (⟨"RoofRegattaModel", "house", "(II)I"⟩ : MethodName) ∈ tb := tb_t7 167 (by decide +kernel) (by decide +kernel)
theorem tw_1710 : Cond.instanceMethod (⟨"RoofRegattaModel", "house", "(II)I"⟩ : MethodName) ∈ tb := tb_t7 168 (by decide +kernel) (by decide +kernel)
theorem tw_1711 : Cond.selects "RoofRegattaModel" (⟨"RoofRegattaModel", "house", "(II)I"⟩ : MethodName) (⟨"RoofRegattaModel", "house", "(II)I"⟩ : MethodName) ∈ tb := tb_t7 169 (by decide +kernel) (by decide +kernel)
set_option maxRecDepth 100000 in
theorem tw_1712 : Cond.code (⟨"RoofRegattaModel", "house", "(II)I"⟩ : MethodName) prog_13_method_61_code 3 (some .int) ∈ tb := tb_t7 170 rfl rfl
theorem tw_1713 : Cond.methodLink "RoofRegattaModel" 306 (⟨"RoofRegattaModel", "dry", "()V"⟩ : MethodName) ∈ tb := tb_t7 171 (by decide +kernel) (by decide +kernel)
theorem tw_1715 : Cond.instanceMethod (⟨"RoofRegattaModel", "dry", "()V"⟩ : MethodName) ∈ tb := tb_t7 173 (by decide +kernel) (by decide +kernel)
set_option maxRecDepth 100000 in
theorem tw_1716 : Cond.code (⟨"RoofRegattaModel", "dry", "()V"⟩ : MethodName) prog_13_method_60_code 1 (none : Option Jvm.ClassFile.FieldType) ∈ tb := tb_t7 174 rfl rfl
theorem tw_1717 : Cond.methodLink "RoofRegattaModel" 309 (⟨"RoofRegattaModel", "isHouse", "(I)Z"⟩ : MethodName) ∈ tb := tb_t7 175 (by decide +kernel) (by decide +kernel)
theorem tw_1719 : Cond.instanceMethod (⟨"RoofRegattaModel", "isHouse", "(I)Z"⟩ : MethodName) ∈ tb := tb_t7 177 (by decide +kernel) (by decide +kernel)
set_option maxRecDepth 100000 in
theorem tw_1720 : Cond.code (⟨"RoofRegattaModel", "isHouse", "(I)Z"⟩ : MethodName) prog_13_method_43_code 2 (some .boolean) ∈ tb := tb_t7 178 rfl rfl
theorem tw_1721 : Cond.methodLink "RoofRegattaModel" 265 (⟨"RoofRegattaModel", "kindOf", "(I)I"⟩ : MethodName) ∈ tb := tb_t7 179 (by decide +kernel) (by decide +kernel)
theorem tw_1723 : Cond.instanceMethod (⟨"RoofRegattaModel", "kindOf", "(I)I"⟩ : MethodName) ∈ tb := tb_t7 181 (by decide +kernel) (by decide +kernel)
set_option maxRecDepth 100000 in
theorem tw_1724 : Cond.code (⟨"RoofRegattaModel", "kindOf", "(I)I"⟩ : MethodName) prog_13_method_46_code 2 (some .int) ∈ tb := tb_t7 182 rfl rfl
theorem tw_1725 : Cond.methodLink "RoofRegattaModel" 284 (⟨"RoofRegattaModel", "storeysOf", "(I)I"⟩ : MethodName) ∈ tb := tb_t7 183 (by decide +kernel) (by decide +kernel)
theorem tw_1727 : Cond.instanceMethod (⟨"RoofRegattaModel", "storeysOf", "(I)I"⟩ : MethodName) ∈ tb := tb_t7 185 (by decide +kernel) (by decide +kernel)
set_option maxRecDepth 100000 in
theorem tw_1728 : Cond.code (⟨"RoofRegattaModel", "storeysOf", "(I)I"⟩ : MethodName) prog_13_method_47_code 2 (some .int) ∈ tb := tb_t7 186 rfl rfl
theorem tw_1729 : Cond.methodLink "RoofRegattaModel" 275 (⟨"RoofRegattaModel", "weightOf", "([II)I"⟩ : MethodName) ∈ tb := tb_t7 187 (by decide +kernel) (by decide +kernel)
theorem tw_1731 : Cond.instanceMethod (⟨"RoofRegattaModel", "weightOf", "([II)I"⟩ : MethodName) ∈ tb := tb_t7 189 (by decide +kernel) (by decide +kernel)
set_option maxRecDepth 100000 in
theorem tw_1732 : Cond.code (⟨"RoofRegattaModel", "weightOf", "([II)I"⟩ : MethodName) prog_13_method_49_code 5 (some .int) ∈ tb := tb_t7 190 rfl rfl
theorem tw_1733 : Cond.methodLink "RoofRegattaModel" 278 (⟨"RoofRegattaModel", "powerOf", "([II)I"⟩ : MethodName) ∈ tb := tb_t7 191 (by decide +kernel) (by decide +kernel)
theorem tw_1735 : Cond.instanceMethod (⟨"RoofRegattaModel", "powerOf", "([II)I"⟩ : MethodName) ∈ tb := tb_t7 193 (by decide +kernel) (by decide +kernel)
set_option maxRecDepth 100000 in
theorem tw_1736 : Cond.code (⟨"RoofRegattaModel", "powerOf", "([II)I"⟩ : MethodName) prog_13_method_50_code 5 (some .int) ∈ tb := tb_t7 194 rfl rfl
theorem tw_1737 : Cond.methodLink "RoofRegattaModel" 268 (⟨"RoofRegattaModel", "aboardOf", "([II)I"⟩ : MethodName) ∈ tb := tb_t7 195 (by decide +kernel) (by decide +kernel)
theorem tw_1739 : Cond.instanceMethod (⟨"RoofRegattaModel", "aboardOf", "([II)I"⟩ : MethodName) ∈ tb := tb_t7 197 (by decide +kernel) (by decide +kernel)
set_option maxRecDepth 100000 in
theorem tw_1740 : Cond.code (⟨"RoofRegattaModel", "aboardOf", "([II)I"⟩ : MethodName) prog_13_method_48_code 5 (some .int) ∈ tb := tb_t7 198 rfl rfl
theorem tw_1741 : Cond.methodLink "RoofRegattaModel" 272 (⟨"RoofRegattaModel", "ones", "(I)I"⟩ : MethodName) ∈ tb := tb_t7 199 (by decide +kernel) (by decide +kernel)
theorem tw_1742 : Cond.static (⟨"RoofRegattaModel", "ones", "(I)I"⟩ : MethodName) ∈ tb := tb_t7 200 (by decide +kernel) (by decide +kernel)
set_option maxRecDepth 100000 in
theorem tw_1743 : Cond.code (⟨"RoofRegattaModel", "ones", "(I)I"⟩ : MethodName) prog_13_method_8_code 3 (some .int) ∈ tb := tb_t7 201 rfl rfl
theorem tw_1744 : Cond.methodLink "RoofRegattaLaw" 45 (⟨"RoofRegattaModel", "lodge\x72", "(II)I"⟩ : MethodName) ∈ tb := tb_t7 202 (by decide +kernel) (by decide +kernel)
theorem tw_1745 : Cond.instanceMethod (⟨"RoofRegattaModel", "lodge\x72", "(II)I"⟩ : MethodName) ∈ tb := tb_t7 203 (by decide +kernel) (by decide +kernel)
theorem tw_1746 : Cond.selects "RoofRegattaModel" (⟨"RoofRegattaModel", "lodge\x72", "(II)I"⟩ : MethodName) (⟨"RoofRegattaModel", "lodge\x72", "(II)I"⟩ : MethodName) ∈ tb := tb_t7 204 (by decide +kernel) (by decide +kernel)
set_option maxRecDepth 100000 in
theorem tw_1747 : Cond.code (⟨"RoofRegattaModel", "lodge\x72", "(II)I"⟩ : MethodName) prog_13_method_62_code 3 (some .int) ∈ tb := tb_t7 205 rfl rfl
theorem tw_1748 : Cond.methodLink "RoofRegattaModel" 312 (⟨"RoofRegattaModel", "isLodge\x72", "(I)Z"⟩ : MethodName) ∈ tb := tb_t7 206 (by decide +kernel) (by decide +kernel)
theorem tw_1750 : Cond.instanceMethod (⟨"RoofRegattaModel", "isLodge\x72", "(I)Z"⟩ : MethodName) ∈ tb := tb_t7 208 (by decide +kernel) (by decide +kernel)
set_option maxRecDepth 100000 in
theorem tw_1751 : Cond.code (⟨"RoofRegattaModel", "isLodge\x72", "(I)Z"⟩ : MethodName) prog_13_method_44_code 2 (some .boolean) ∈ tb := tb_t7 209 rfl rfl
theorem tw_1752 : Cond.methodLink "RoofRegattaLaw" 49 (⟨"RoofRegattaModel", "bend", "(II)I"⟩ : MethodName) ∈ tb := tb_t7 210 (by decide +kernel) (by decide +kernel)
theorem tw_1753 : Cond.instanceMethod (⟨"RoofRegattaModel", "bend", "(II)I"⟩ : MethodName) ∈ tb := tb_t7 211 (by decide +kernel) (by decide +kernel)
theorem tw_1754 : Cond.selects "RoofRegattaModel" (⟨"RoofRegattaModel", "bend", "(II)I"⟩ : MethodName) (⟨"RoofRegattaModel", "bend", "(II)I"⟩ : MethodName) ∈ tb := tb_t7 212 (by decide +kernel) (by decide +kernel)
set_option maxRecDepth 100000 in
theorem tw_1755 : Cond.code (⟨"RoofRegattaModel", "bend", "(II)I"⟩ : MethodName) prog_13_method_63_code 3 (some .int) ∈ tb := tb_t7 213 rfl rfl
theorem tw_1756 : Cond.methodLink "RoofRegattaModel" 315 (⟨"RoofRegattaModel", "isBend", "(I)Z"⟩ : MethodName) ∈ tb := tb_t7 214 (by decide +kernel) (by decide +kernel)
theorem tw_1758 : Cond.instanceMethod (⟨"RoofRegattaModel", "isBend", "(I)Z"⟩ : MethodName) ∈ tb := tb_t7 216 (by decide +kernel) (by decide +kernel)
set_option maxRecDepth 100000 in
theorem tw_1759 : Cond.code (⟨"RoofRegattaModel", "isBend", "(I)Z"⟩ : MethodName) prog_13_method_45_code 2 (some .boolean) ∈ tb := tb_t7 217 rfl rfl
theorem tw_1760 : Cond.methodLink "RoofRegattaLaw" 53 (⟨"RoofRegattaModel", "time", "(II)I"⟩ : MethodName) ∈ tb := tb_t7 218 (by decide +kernel) (by decide +kernel)
theorem tw_1761 : Cond.instanceMethod (⟨"RoofRegattaModel", "time", "(II)I"⟩ : MethodName) ∈ tb := tb_t7 219 (by decide +kernel) (by decide +kernel)
theorem tw_1762 : Cond.selects "RoofRegattaModel" (⟨"RoofRegattaModel", "time", "(II)I"⟩ : MethodName) (⟨"RoofRegattaModel", "time", "(II)I"⟩ : MethodName) ∈ tb := tb_t7 220 (by decide +kernel) (by decide +kernel)
set_option maxRecDepth 100000 in
theorem tw_1763 : Cond.code (⟨"RoofRegattaModel", "time", "(II)I"⟩ : MethodName) prog_13_method_64_code 3 (some .int) ∈ tb := tb_t7 221 rfl rfl
theorem tw_1764 : Cond.methodLink "RoofRegattaModel" 290 (⟨"RoofRegattaModel", "timeOf", "([III)I"⟩ : MethodName) ∈ tb := tb_t7 222 (by decide +kernel) (by decide +kernel)
theorem tw_1766 : Cond.instanceMethod (⟨"RoofRegattaModel", "timeOf", "([III)I"⟩ : MethodName) ∈ tb := tb_t7 224 (by decide +kernel) (by decide +kernel)
set_option maxRecDepth 100000 in
theorem tw_1767 : Cond.code (⟨"RoofRegattaModel", "timeOf", "([III)I"⟩ : MethodName) prog_13_method_51_code 8 (some .int) ∈ tb := tb_t7 225 rfl rfl
theorem tw_1768 : Cond.methodLink "RoofRegattaLaw" 57 (⟨"RoofRegattaModel", "soFa\x72", "(II)I"⟩ : MethodName) ∈ tb := tb_t7 226 (by decide +kernel) (by decide +kernel)
theorem tw_1769 : Cond.instanceMethod (⟨"RoofRegattaModel", "soFa\x72", "(II)I"⟩ : MethodName) ∈ tb := tb_t7 227 (by decide +kernel) (by decide +kernel)
theorem tw_1770 : Cond.selects "RoofRegattaModel" (⟨"RoofRegattaModel", "soFa\x72", "(II)I"⟩ : MethodName) (⟨"RoofRegattaModel", "soFa\x72", "(II)I"⟩ : MethodName) ∈ tb := tb_t7 228 (by decide +kernel) (by decide +kernel)
set_option maxRecDepth 100000 in
theorem tw_1771 : Cond.code (⟨"RoofRegattaModel", "soFa\x72", "(II)I"⟩ : MethodName) prog_13_method_65_code 3 (some .int) ∈ tb := tb_t7 229 rfl rfl
theorem tw_1772 : Cond.methodLink "RoofRegattaModel" 294 (⟨"RoofRegattaModel", "soFarOf", "([III)I"⟩ : MethodName) ∈ tb := tb_t7 230 (by decide +kernel) (by decide +kernel)
theorem tw_1774 : Cond.instanceMethod (⟨"RoofRegattaModel", "soFarOf", "([III)I"⟩ : MethodName) ∈ tb := tb_t7 232 (by decide +kernel) (by decide +kernel)
set_option maxRecDepth 100000 in
theorem tw_1775 : Cond.code (⟨"RoofRegattaModel", "soFarOf", "([III)I"⟩ : MethodName) prog_13_method_53_code 6 (some .int) ∈ tb := tb_t7 233 rfl rfl
theorem tw_1776 : Cond.methodLink "RoofRegattaModel" 287 (⟨"RoofRegattaModel", "bridgeOf", "(I)I"⟩ : MethodName) ∈ tb := tb_t7 234 (by decide +kernel) (by decide +kernel)
theorem tw_1778 : Cond.instanceMethod (⟨"RoofRegattaModel", "bridgeOf", "(I)I"⟩ : MethodName) ∈ tb := tb_t7 236 (by decide +kernel) (by decide +kernel)
set_option maxRecDepth 100000 in
theorem tw_1779 : Cond.code (⟨"RoofRegattaModel", "bridgeOf", "(I)I"⟩ : MethodName) prog_13_method_52_code 3 (some .int) ∈ tb := tb_t7 237 rfl rfl
theorem tw_1780 : Cond.methodLink "RoofRegattaLaw" 61 (⟨"RoofRegattaModel", "total", "(I)I"⟩ : MethodName) ∈ tb := tb_t7 238 (by decide +kernel) (by decide +kernel)
theorem tw_1781 : Cond.instanceMethod (⟨"RoofRegattaModel", "total", "(I)I"⟩ : MethodName) ∈ tb := tb_t7 239 (by decide +kernel) (by decide +kernel)
theorem tw_1782 : Cond.selects "RoofRegattaModel" (⟨"RoofRegattaModel", "total", "(I)I"⟩ : MethodName) (⟨"RoofRegattaModel", "total", "(I)I"⟩ : MethodName) ∈ tb := tb_t8 0 (by decide +kernel) (by decide +kernel)
set_option maxRecDepth 100000 in
theorem tw_1783 : Cond.code (⟨"RoofRegattaModel", "total", "(I)I"⟩ : MethodName) prog_13_method_66_code 2 (some .int) ∈ tb := tb_t8 1 rfl rfl
theorem tw_1784 : Cond.methodLink "RoofRegattaModel" 297 (⟨"RoofRegattaModel", "totalOf", "([II)I"⟩ : MethodName) ∈ tb := tb_t8 2 (by decide +kernel) (by decide +kernel)
theorem tw_1786 : Cond.instanceMethod (⟨"RoofRegattaModel", "totalOf", "([II)I"⟩ : MethodName) ∈ tb := tb_t8 4 (by decide +kernel) (by decide +kernel)
set_option maxRecDepth 100000 in
theorem tw_1787 : Cond.code (⟨"RoofRegattaModel", "totalOf", "([II)I"⟩ : MethodName) prog_13_method_54_code 3 (some .int) ∈ tb := tb_t8 5 rfl rfl
theorem tw_1788 : Cond.methodLink "RoofRegattaLaw" 65 (⟨"RoofRegattaModel", "loses", "(I)I"⟩ : MethodName) ∈ tb := tb_t8 6 (by decide +kernel) (by decide +kernel)
theorem tw_1789 : Cond.instanceMethod (⟨"RoofRegattaModel", "loses", "(I)I"⟩ : MethodName) ∈ tb := tb_t8 7 (by decide +kernel) (by decide +kernel)
theorem tw_1790 : Cond.selects "RoofRegattaModel" (⟨"RoofRegattaModel", "loses", "(I)I"⟩ : MethodName) (⟨"RoofRegattaModel", "loses", "(I)I"⟩ : MethodName) ∈ tb := tb_t8 8 (by decide +kernel) (by decide +kernel)
set_option maxRecDepth 100000 in
theorem tw_1791 : Cond.code (⟨"RoofRegattaModel", "loses", "(I)I"⟩ : MethodName) prog_13_method_67_code 3 (some .int) ∈ tb := tb_t8 9 rfl rfl
theorem tw_1792 : Cond.methodLink "RoofRegattaLaw" 69 (⟨"RoofRegattaModel", "rank", "(I)I"⟩ : MethodName) ∈ tb := tb_t8 10 (by decide +kernel) (by decide +kernel)
theorem tw_1793 : Cond.instanceMethod (⟨"RoofRegattaModel", "rank", "(I)I"⟩ : MethodName) ∈ tb := tb_t8 11 (by decide +kernel) (by decide +kernel)
theorem tw_1794 : Cond.selects "RoofRegattaModel" (⟨"RoofRegattaModel", "rank", "(I)I"⟩ : MethodName) (⟨"RoofRegattaModel", "rank", "(I)I"⟩ : MethodName) ∈ tb := tb_t8 12 (by decide +kernel) (by decide +kernel)
set_option maxRecDepth 100000 in
theorem tw_1795 : Cond.code (⟨"RoofRegattaModel", "rank", "(I)I"⟩ : MethodName) prog_13_method_68_code 2 (some .int) ∈ tb := tb_t8 13 rfl rfl
theorem tw_1796 : Cond.methodLink "RoofRegattaModel" 318 (⟨"RoofRegattaModel", "layRanks", "([I)V"⟩ : MethodName) ∈ tb := tb_t8 14 (by decide +kernel) (by decide +kernel)
theorem tw_1798 : Cond.instanceMethod (⟨"RoofRegattaModel", "layRanks", "([I)V"⟩ : MethodName) ∈ tb := tb_t8 16 (by decide +kernel) (by decide +kernel)
set_option maxRecDepth 100000 in
theorem tw_1799 : Cond.code (⟨"RoofRegattaModel", "layRanks", "([I)V"⟩ : MethodName) prog_13_method_55_code 6 (none : Option Jvm.ClassFile.FieldType) ∈ tb := tb_t8 17 rfl rfl
theorem tw_1800 : Cond.methodLink "RoofRegattaModel" 303 (⟨"RoofRegattaModel", "isBette\x72", "(II)Z"⟩ : MethodName) ∈ tb := tb_t8 18 (by decide +kernel) (by decide +kernel)
theorem tw_1802 : Cond.instanceMethod (⟨"RoofRegattaModel", "isBette\x72", "(II)Z"⟩ : MethodName) ∈ tb := tb_t8 20 (by decide +kernel) (by decide +kernel)
set_option maxRecDepth 100000 in
theorem tw_1803 : Cond.code (⟨"RoofRegattaModel", "isBette\x72", "(II)Z"⟩ : MethodName) prog_13_method_56_code 3 (some .boolean) ∈ tb := tb_t8 21 rfl rfl
theorem tw_1804 : Cond.methodLink "RoofRegattaLaw" 73 (⟨"RoofRegattaModel", "ranked", "(I)I"⟩ : MethodName) ∈ tb := tb_t8 22 (by decide +kernel) (by decide +kernel)
theorem tw_1805 : Cond.instanceMethod (⟨"RoofRegattaModel", "ranked", "(I)I"⟩ : MethodName) ∈ tb := tb_t8 23 (by decide +kernel) (by decide +kernel)
theorem tw_1806 : Cond.selects "RoofRegattaModel" (⟨"RoofRegattaModel", "ranked", "(I)I"⟩ : MethodName) (⟨"RoofRegattaModel", "ranked", "(I)I"⟩ : MethodName) ∈ tb := tb_t8 24 (by decide +kernel) (by decide +kernel)
set_option maxRecDepth 100000 in
theorem tw_1807 : Cond.code (⟨"RoofRegattaModel", "ranked", "(I)I"⟩ : MethodName) prog_13_method_69_code 3 (some .int) ∈ tb := tb_t8 25 rfl rfl
theorem tw_1808 : Cond.methodLink "RoofRegattaLaw" 77 (⟨"RoofRegattaModel", "out", "(I)I"⟩ : MethodName) ∈ tb := tb_t8 26 (by decide +kernel) (by decide +kernel)
theorem tw_1809 : Cond.instanceMethod (⟨"RoofRegattaModel", "out", "(I)I"⟩ : MethodName) ∈ tb := tb_t8 27 (by decide +kernel) (by decide +kernel)
theorem tw_1810 : Cond.selects "RoofRegattaModel" (⟨"RoofRegattaModel", "out", "(I)I"⟩ : MethodName) (⟨"RoofRegattaModel", "out", "(I)I"⟩ : MethodName) ∈ tb := tb_t8 28 (by decide +kernel) (by decide +kernel)
set_option maxRecDepth 100000 in
theorem tw_1811 : Cond.code (⟨"RoofRegattaModel", "out", "(I)I"⟩ : MethodName) prog_13_method_70_code 2 (some .int) ∈ tb := tb_t8 29 rfl rfl
theorem tw_1812 : Cond.methodLink "RoofRegattaLaw" 81 (⟨"RoofRegattaModel", "prize", "(I)I"⟩ : MethodName) ∈ tb := tb_t8 30 (by decide +kernel) (by decide +kernel)
theorem tw_1813 : Cond.instanceMethod (⟨"RoofRegattaModel", "prize", "(I)I"⟩ : MethodName) ∈ tb := tb_t8 31 (by decide +kernel) (by decide +kernel)
theorem tw_1814 : Cond.selects "RoofRegattaModel" (⟨"RoofRegattaModel", "prize", "(I)I"⟩ : MethodName) (⟨"RoofRegattaModel", "prize", "(I)I"⟩ : MethodName) ∈ tb := tb_t8 32 (by decide +kernel) (by decide +kernel)
set_option maxRecDepth 100000 in
theorem tw_1815 : Cond.code (⟨"RoofRegattaModel", "prize", "(I)I"⟩ : MethodName) prog_13_method_71_code 2 (some .int) ∈ tb := tb_t8 33 rfl rfl
theorem tw_1816 : Cond.methodLink "RoofRegattaModel" 322 (⟨"RoofRegattaModel", "prizeFo\x72", "(I)I"⟩ : MethodName) ∈ tb := tb_t8 34 (by decide +kernel) (by decide +kernel)
theorem tw_1818 : Cond.instanceMethod (⟨"RoofRegattaModel", "prizeFo\x72", "(I)I"⟩ : MethodName) ∈ tb := tb_t8 36 (by decide +kernel) (by decide +kernel)
set_option maxRecDepth 100000 in
theorem tw_1819 : Cond.code (⟨"RoofRegattaModel", "prizeFo\x72", "(I)I"⟩ : MethodName) prog_13_method_57_code 2 (some .int) ∈ tb := tb_t8 37 rfl rfl
theorem tw_1820 : Cond.methodLink "RoofRegattaLaw" 85 (⟨"RoofRegattaModel", "ahead", "(II)I"⟩ : MethodName) ∈ tb := tb_t8 38 (by decide +kernel) (by decide +kernel)
theorem tw_1821 : Cond.instanceMethod (⟨"RoofRegattaModel", "ahead", "(II)I"⟩ : MethodName) ∈ tb := tb_t8 39 (by decide +kernel) (by decide +kernel)
theorem tw_1822 : Cond.selects "RoofRegattaModel" (⟨"RoofRegattaModel", "ahead", "(II)I"⟩ : MethodName) (⟨"RoofRegattaModel", "ahead", "(II)I"⟩ : MethodName) ∈ tb := tb_t8 40 (by decide +kernel) (by decide +kernel)
set_option maxRecDepth 100000 in
theorem tw_1823 : Cond.code (⟨"RoofRegattaModel", "ahead", "(II)I"⟩ : MethodName) prog_13_method_73_code 4 (some .int) ∈ tb := tb_t8 41 rfl rfl
theorem tw_1824 : Cond.methodLink "RoofRegattaModel" 325 (⟨"RoofRegattaModel", "areTwo", "(II)Z"⟩ : MethodName) ∈ tb := tb_t8 42 (by decide +kernel) (by decide +kernel)
theorem tw_1826 : Cond.instanceMethod (⟨"RoofRegattaModel", "areTwo", "(II)Z"⟩ : MethodName) ∈ tb := tb_t8 44 (by decide +kernel) (by decide +kernel)
set_option maxRecDepth 100000 in
theorem tw_1827 : Cond.code (⟨"RoofRegattaModel", "areTwo", "(II)Z"⟩ : MethodName) prog_13_method_72_code 3 (some .boolean) ∈ tb := tb_t8 45 rfl rfl
theorem tw_1828 : Cond.methodLink "RoofRegattaModel" 328 (⟨"RoofRegattaModel", "isAhead", "([IIII)Z"⟩ : MethodName) ∈ tb := tb_t8 46 (by decide +kernel) (by decide +kernel)
theorem tw_1830 : Cond.instanceMethod (⟨"RoofRegattaModel", "isAhead", "([IIII)Z"⟩ : MethodName) ∈ tb := tb_t8 48 (by decide +kernel) (by decide +kernel)
set_option maxRecDepth 100000 in
theorem tw_1831 : Cond.code (⟨"RoofRegattaModel", "isAhead", "([IIII)Z"⟩ : MethodName) prog_13_method_58_code 5 (some .boolean) ∈ tb := tb_t8 49 rfl rfl
theorem tw_1832 : Cond.methodLink "RoofRegattaLaw" 97 (⟨"RoofRegattaModel", "passes", "()I"⟩ : MethodName) ∈ tb := tb_t8 50 (by decide +kernel) (by decide +kernel)
theorem tw_1833 : Cond.instanceMethod (⟨"RoofRegattaModel", "passes", "()I"⟩ : MethodName) ∈ tb := tb_t8 51 (by decide +kernel) (by decide +kernel)
theorem tw_1834 : Cond.selects "RoofRegattaModel" (⟨"RoofRegattaModel", "passes", "()I"⟩ : MethodName) (⟨"RoofRegattaModel", "passes", "()I"⟩ : MethodName) ∈ tb := tb_t8 52 (by decide +kernel) (by decide +kernel)
set_option maxRecDepth 100000 in
theorem tw_1835 : Cond.code (⟨"RoofRegattaModel", "passes", "()I"⟩ : MethodName) prog_13_method_74_code 5 (some .int) ∈ tb := tb_t8 53 rfl rfl
theorem tw_1836 : Cond.methodLink "RoofRegattaLaw" 101 (⟨"RoofRegattaModel", "fastest", "(I)I"⟩ : MethodName) ∈ tb := tb_t8 54 (by decide +kernel) (by decide +kernel)
theorem tw_1837 : Cond.instanceMethod (⟨"RoofRegattaModel", "fastest", "(I)I"⟩ : MethodName) ∈ tb := tb_t8 55 (by decide +kernel) (by decide +kernel)
theorem tw_1838 : Cond.selects "RoofRegattaModel" (⟨"RoofRegattaModel", "fastest", "(I)I"⟩ : MethodName) (⟨"RoofRegattaModel", "fastest", "(I)I"⟩ : MethodName) ∈ tb := tb_t8 56 (by decide +kernel) (by decide +kernel)
set_option maxRecDepth 100000 in
theorem tw_1839 : Cond.code (⟨"RoofRegattaModel", "fastest", "(I)I"⟩ : MethodName) prog_13_method_75_code 4 (some .int) ∈ tb := tb_t8 57 rfl rfl
theorem tw_1840 : Cond.methodLink "RoofRegattaLaw" 89 (⟨"RoofRegattaModel", "leade\x72", "(I)I"⟩ : MethodName) ∈ tb := tb_t8 58 (by decide +kernel) (by decide +kernel)
theorem tw_1841 : Cond.instanceMethod (⟨"RoofRegattaModel", "leade\x72", "(I)I"⟩ : MethodName) ∈ tb := tb_t8 59 (by decide +kernel) (by decide +kernel)
theorem tw_1842 : Cond.selects "RoofRegattaModel" (⟨"RoofRegattaModel", "leade\x72", "(I)I"⟩ : MethodName) (⟨"RoofRegattaModel", "leade\x72", "(I)I"⟩ : MethodName) ∈ tb := tb_t8 60 (by decide +kernel) (by decide +kernel)
set_option maxRecDepth 100000 in
theorem tw_1843 : Cond.code (⟨"RoofRegattaModel", "leade\x72", "(I)I"⟩ : MethodName) prog_13_method_76_code 4 (some .int) ∈ tb := tb_t8 61 rfl rfl
theorem tw_1844 : Cond.methodLink "RoofRegattaLaw" 105 (⟨"RoofRegattaModel", "storey", "(I)I"⟩ : MethodName) ∈ tb := tb_t8 62 (by decide +kernel) (by decide +kernel)
theorem tw_1845 : Cond.instanceMethod (⟨"RoofRegattaModel", "storey", "(I)I"⟩ : MethodName) ∈ tb := tb_t8 63 (by decide +kernel) (by decide +kernel)
theorem tw_1846 : Cond.selects "RoofRegattaModel" (⟨"RoofRegattaModel", "storey", "(I)I"⟩ : MethodName) (⟨"RoofRegattaModel", "storey", "(I)I"⟩ : MethodName) ∈ tb := tb_t8 64 (by decide +kernel) (by decide +kernel)
set_option maxRecDepth 100000 in
theorem tw_1847 : Cond.code (⟨"RoofRegattaModel", "storey", "(I)I"⟩ : MethodName) prog_13_method_77_code 2 (some .int) ∈ tb := tb_t8 65 rfl rfl
theorem tw_1848 : Cond.methodLink "RoofRegattaLaw" 109 (⟨"RoofRegattaModel", "togethe\x72", "()I"⟩ : MethodName) ∈ tb := tb_t8 66 (by decide +kernel) (by decide +kernel)
theorem tw_1849 : Cond.instanceMethod (⟨"RoofRegattaModel", "togethe\x72", "()I"⟩ : MethodName) ∈ tb := tb_t8 67 (by decide +kernel) (by decide +kernel)
theorem tw_1850 : Cond.selects "RoofRegattaModel" (⟨"RoofRegattaModel", "togethe\x72", "()I"⟩ : MethodName) (⟨"RoofRegattaModel", "togethe\x72", "()I"⟩ : MethodName) ∈ tb := tb_t8 68 (by decide +kernel) (by decide +kernel)
set_option maxRecDepth 100000 in
theorem tw_1851 : Cond.code (⟨"RoofRegattaModel", "togethe\x72", "()I"⟩ : MethodName) prog_13_method_78_code 1 (some .int) ∈ tb := tb_t8 69 rfl rfl
theorem tw_1852 : Cond.methodLink "RoofRegattaModel" 332 (⟨"RoofRegattaModel", "togetherOf", "([I)I"⟩ : MethodName) ∈ tb := tb_t8 70 (by decide +kernel) (by decide +kernel)
theorem tw_1854 : Cond.instanceMethod (⟨"RoofRegattaModel", "togetherOf", "([I)I"⟩ : MethodName) ∈ tb := tb_t8 72 (by decide +kernel) (by decide +kernel)
set_option maxRecDepth 100000 in
theorem tw_1855 : Cond.code (⟨"RoofRegattaModel", "togetherOf", "([I)I"⟩ : MethodName) prog_13_method_59_code 5 (some .int) ∈ tb := tb_t8 73 rfl rfl
theorem tw_1856 : Cond.methodLink "RoofRegattaLaw" 93 (⟨"RoofRegattaModel", "full", "()I"⟩ : MethodName) ∈ tb := tb_t8 74 (by decide +kernel) (by decide +kernel)
theorem tw_1857 : Cond.instanceMethod (⟨"RoofRegattaModel", "full", "()I"⟩ : MethodName) ∈ tb := tb_t8 75 (by decide +kernel) (by decide +kernel)
theorem tw_1858 : Cond.selects "RoofRegattaModel" (⟨"RoofRegattaModel", "full", "()I"⟩ : MethodName) (⟨"RoofRegattaModel", "full", "()I"⟩ : MethodName) ∈ tb := tb_t8 76 (by decide +kernel) (by decide +kernel)
set_option maxRecDepth 100000 in
theorem tw_1859 : Cond.code (⟨"RoofRegattaModel", "full", "()I"⟩ : MethodName) prog_13_method_79_code 3 (some .int) ∈ tb := tb_t8 77 rfl rfl
theorem tw_1860 : Cond.methodLink "RoofRegattaLaw" 113 (⟨"RoofRegattaModel", "bestRank", "(I)I"⟩ : MethodName) ∈ tb := tb_t8 78 (by decide +kernel) (by decide +kernel)
theorem tw_1861 : Cond.instanceMethod (⟨"RoofRegattaModel", "bestRank", "(I)I"⟩ : MethodName) ∈ tb := tb_t8 79 (by decide +kernel) (by decide +kernel)
theorem tw_1862 : Cond.selects "RoofRegattaModel" (⟨"RoofRegattaModel", "bestRank", "(I)I"⟩ : MethodName) (⟨"RoofRegattaModel", "bestRank", "(I)I"⟩ : MethodName) ∈ tb := tb_t8 80 (by decide +kernel) (by decide +kernel)
set_option maxRecDepth 100000 in
theorem tw_1863 : Cond.code (⟨"RoofRegattaModel", "bestRank", "(I)I"⟩ : MethodName) prog_13_method_85_code 2 (some .int) ∈ tb := tb_t8 81 rfl rfl
theorem tw_1864 : Cond.methodLink "RoofRegattaModel" 358 (⟨"RoofRegattaModel", "seekLoads", "(I)V"⟩ : MethodName) ∈ tb := tb_t8 82 (by decide +kernel) (by decide +kernel)
theorem tw_1866 : Cond.instanceMethod (⟨"RoofRegattaModel", "seekLoads", "(I)V"⟩ : MethodName) ∈ tb := tb_t8 84 (by decide +kernel) (by decide +kernel)
set_option maxRecDepth 100000 in
theorem tw_1867 : Cond.code (⟨"RoofRegattaModel", "seekLoads", "(I)V"⟩ : MethodName) prog_13_method_83_code 2 (none : Option Jvm.ClassFile.FieldType) ∈ tb := tb_t8 85 rfl rfl
theorem tw_1868 : Cond.constant "RoofRegattaModel" 357 (1000000 : Int32) ∈ tb := tb_t8 86 (by decide +kernel) (by decide +kernel)
theorem tw_1869 : Cond.methodLink "RoofRegattaModel" 354 (⟨"RoofRegattaModel", "tryLoads", "(II)V"⟩ : MethodName) ∈ tb := tb_t8 87 (by decide +kernel) (by decide +kernel)
theorem tw_1871 : Cond.instanceMethod (⟨"RoofRegattaModel", "tryLoads", "(II)V"⟩ : MethodName) ∈ tb := tb_t8 89 (by decide +kernel) (by decide +kernel)
set_option maxRecDepth 100000 in
theorem tw_1872 : Cond.code (⟨"RoofRegattaModel", "tryLoads", "(II)V"⟩ : MethodName) prog_13_method_81_code 4 (none : Option Jvm.ClassFile.FieldType) ∈ tb := tb_t8 90 rfl rfl
theorem tw_1873 : Cond.methodLink "RoofRegattaModel" 342 (⟨"RoofRegattaModel", "keyOf", "()I"⟩ : MethodName) ∈ tb := tb_t8 91 (by decide +kernel) (by decide +kernel)
theorem tw_1875 : Cond.instanceMethod (⟨"RoofRegattaModel", "keyOf", "()I"⟩ : MethodName) ∈ tb := tb_t8 93 (by decide +kernel) (by decide +kernel)
set_option maxRecDepth 100000 in
theorem tw_1876 : Cond.code (⟨"RoofRegattaModel", "keyOf", "()I"⟩ : MethodName) prog_13_method_80_code 1 (some .int) ∈ tb := tb_t8 94 rfl rfl
theorem tw_1877 : Cond.methodLink "RoofRegattaModel" 351 (⟨"RoofRegattaModel", "aboardAhead", "(II)I"⟩ : MethodName) ∈ tb := tb_t8 95 (by decide +kernel) (by decide +kernel)
theorem tw_1879 : Cond.instanceMethod (⟨"RoofRegattaModel", "aboardAhead", "(II)I"⟩ : MethodName) ∈ tb := tb_t8 97 (by decide +kernel) (by decide +kernel)
set_option maxRecDepth 100000 in
theorem tw_1880 : Cond.code (⟨"RoofRegattaModel", "aboardAhead", "(II)I"⟩ : MethodName) prog_13_method_82_code 5 (some .int) ∈ tb := tb_t8 98 rfl rfl
theorem tw_1881 : Cond.methodLink "RoofRegattaLaw" 117 (⟨"RoofRegattaModel", "loadOf", "(II)I"⟩ : MethodName) ∈ tb := tb_t8 99 (by decide +kernel) (by decide +kernel)
theorem tw_1882 : Cond.instanceMethod (⟨"RoofRegattaModel", "loadOf", "(II)I"⟩ : MethodName) ∈ tb := tb_t8 100 (by decide +kernel) (by decide +kernel)
theorem tw_1883 : Cond.selects "RoofRegattaModel" (⟨"RoofRegattaModel", "loadOf", "(II)I"⟩ : MethodName) (⟨"RoofRegattaModel", "loadOf", "(II)I"⟩ : MethodName) ∈ tb := tb_t8 101 (by decide +kernel) (by decide +kernel)
set_option maxRecDepth 100000 in
theorem tw_1884 : Cond.code (⟨"RoofRegattaModel", "loadOf", "(II)I"⟩ : MethodName) prog_13_method_86_code 3 (some .int) ∈ tb := tb_t8 102 rfl rfl
theorem tw_1885 : Cond.methodLink "RoofRegattaModel" 361 (⟨"RoofRegattaModel", "bestAt", "(I)I"⟩ : MethodName) ∈ tb := tb_t8 103 (by decide +kernel) (by decide +kernel)
theorem tw_1887 : Cond.instanceMethod (⟨"RoofRegattaModel", "bestAt", "(I)I"⟩ : MethodName) ∈ tb := tb_t8 105 (by decide +kernel) (by decide +kernel)
set_option maxRecDepth 100000 in
theorem tw_1888 : Cond.code (⟨"RoofRegattaModel", "bestAt", "(I)I"⟩ : MethodName) prog_13_method_84_code 2 (some .int) ∈ tb := tb_t8 106 rfl rfl
theorem tw_1889 : Cond.methodLink "RoofRegattaLaw" 121 (⟨"RoofRegattaModel", "loadMoves", "(I)I"⟩ : MethodName) ∈ tb := tb_t8 107 (by decide +kernel) (by decide +kernel)
theorem tw_1890 : Cond.instanceMethod (⟨"RoofRegattaModel", "loadMoves", "(I)I"⟩ : MethodName) ∈ tb := tb_t8 108 (by decide +kernel) (by decide +kernel)
theorem tw_1891 : Cond.selects "RoofRegattaModel" (⟨"RoofRegattaModel", "loadMoves", "(I)I"⟩ : MethodName) (⟨"RoofRegattaModel", "loadMoves", "(I)I"⟩ : MethodName) ∈ tb := tb_t8 109 (by decide +kernel) (by decide +kernel)
set_option maxRecDepth 100000 in
theorem tw_1892 : Cond.code (⟨"RoofRegattaModel", "loadMoves", "(I)I"⟩ : MethodName) prog_13_method_87_code 2 (some .int) ∈ tb := tb_t8 110 rfl rfl
theorem tw_1893 : Cond.methodLink "RoofRegattaLaw" 125 (⟨"RoofRegattaModel", "leastTotal", "(I)I"⟩ : MethodName) ∈ tb := tb_t8 111 (by decide +kernel) (by decide +kernel)
theorem tw_1894 : Cond.instanceMethod (⟨"RoofRegattaModel", "leastTotal", "(I)I"⟩ : MethodName) ∈ tb := tb_t8 112 (by decide +kernel) (by decide +kernel)
theorem tw_1895 : Cond.selects "RoofRegattaModel" (⟨"RoofRegattaModel", "leastTotal", "(I)I"⟩ : MethodName) (⟨"RoofRegattaModel", "leastTotal", "(I)I"⟩ : MethodName) ∈ tb := tb_t8 113 (by decide +kernel) (by decide +kernel)
set_option maxRecDepth 100000 in
theorem tw_1896 : Cond.code (⟨"RoofRegattaModel", "leastTotal", "(I)I"⟩ : MethodName) prog_13_method_88_code 2 (some .int) ∈ tb := tb_t8 114 rfl rfl
theorem tw_1897 : Cond.methodLink "RoofRegattaLaw" 129 (⟨"RoofRegattaModel", "friendly", "()I"⟩ : MethodName) ∈ tb := tb_t8 115 (by decide +kernel) (by decide +kernel)
theorem tw_1898 : Cond.instanceMethod (⟨"RoofRegattaModel", "friendly", "()I"⟩ : MethodName) ∈ tb := tb_t8 116 (by decide +kernel) (by decide +kernel)
theorem tw_1899 : Cond.selects "RoofRegattaModel" (⟨"RoofRegattaModel", "friendly", "()I"⟩ : MethodName) (⟨"RoofRegattaModel", "friendly", "()I"⟩ : MethodName) ∈ tb := tb_t8 117 (by decide +kernel) (by decide +kernel)
set_option maxRecDepth 100000 in
theorem tw_1900 : Cond.code (⟨"RoofRegattaModel", "friendly", "()I"⟩ : MethodName) prog_13_method_89_code 1 (some .int) ∈ tb := tb_t8 118 rfl rfl
theorem tw_1901 : Cond.methodLink "RoofRegattaLaw" 133 (⟨"RoofRegattaModel", "friendlyOf", "(I)I"⟩ : MethodName) ∈ tb := tb_t8 119 (by decide +kernel) (by decide +kernel)
theorem tw_1902 : Cond.instanceMethod (⟨"RoofRegattaModel", "friendlyOf", "(I)I"⟩ : MethodName) ∈ tb := tb_t8 120 (by decide +kernel) (by decide +kernel)
theorem tw_1903 : Cond.selects "RoofRegattaModel" (⟨"RoofRegattaModel", "friendlyOf", "(I)I"⟩ : MethodName) (⟨"RoofRegattaModel", "friendlyOf", "(I)I"⟩ : MethodName) ∈ tb := tb_t8 121 (by decide +kernel) (by decide +kernel)
set_option maxRecDepth 100000 in
theorem tw_1904 : Cond.code (⟨"RoofRegattaModel", "friendlyOf", "(I)I"⟩ : MethodName) prog_13_method_90_code 2 (some .int) ∈ tb := tb_t8 122 rfl rfl
theorem tw_1905 : Cond.methodLink "RoofRegattaLaw" 137 (⟨"RoofRegattaModel", "leastFo\x72", "(II)I"⟩ : MethodName) ∈ tb := tb_t8 123 (by decide +kernel) (by decide +kernel)
theorem tw_1906 : Cond.instanceMethod (⟨"RoofRegattaModel", "leastFo\x72", "(II)I"⟩ : MethodName) ∈ tb := tb_t8 124 (by decide +kernel) (by decide +kernel)
theorem tw_1907 : Cond.selects "RoofRegattaModel" (⟨"RoofRegattaModel", "leastFo\x72", "(II)I"⟩ : MethodName) (⟨"RoofRegattaModel", "leastFo\x72", "(II)I"⟩ : MethodName) ∈ tb := tb_t8 125 (by decide +kernel) (by decide +kernel)
set_option maxRecDepth 100000 in
theorem tw_1908 : Cond.code (⟨"RoofRegattaModel", "leastFo\x72", "(II)I"⟩ : MethodName) prog_13_method_92_code 7 (some .int) ∈ tb := tb_t8 126 rfl rfl
theorem tw_1909 : Cond.methodLink "RoofRegattaModel" 364 (⟨"RoofRegattaModel", "why", "(ZZ)I"⟩ : MethodName) ∈ tb := tb_t8 127 (by decide +kernel) (by decide +kernel)
theorem tw_1911 : Cond.instanceMethod (⟨"RoofRegattaModel", "why", "(ZZ)I"⟩ : MethodName) ∈ tb := tb_t8 129 (by decide +kernel) (by decide +kernel)
set_option maxRecDepth 100000 in
theorem tw_1912 : Cond.code (⟨"RoofRegattaModel", "why", "(ZZ)I"⟩ : MethodName) prog_13_method_91_code 3 (some .int) ∈ tb := tb_t8 130 rfl rfl
theorem tw_1913 : Cond.methodLink "RoofRegattaLaw" 141 (⟨"RoofRegattaModel", "toMove", "(I)I"⟩ : MethodName) ∈ tb := tb_t8 131 (by decide +kernel) (by decide +kernel)
theorem tw_1914 : Cond.instanceMethod (⟨"RoofRegattaModel", "toMove", "(I)I"⟩ : MethodName) ∈ tb := tb_t8 132 (by decide +kernel) (by decide +kernel)
theorem tw_1915 : Cond.selects "RoofRegattaModel" (⟨"RoofRegattaModel", "toMove", "(I)I"⟩ : MethodName) (⟨"RoofRegattaModel", "toMove", "(I)I"⟩ : MethodName) ∈ tb := tb_t8 133 (by decide +kernel) (by decide +kernel)
set_option maxRecDepth 100000 in
theorem tw_1916 : Cond.code (⟨"RoofRegattaModel", "toMove", "(I)I"⟩ : MethodName) prog_13_method_93_code 6 (some .int) ∈ tb := tb_t8 134 rfl rfl
theorem tw_1917 : Cond.methodLink "RoofRegattaLaw" 149 (⟨"RoofRegattaModel", "bestSwap", "(I)I"⟩ : MethodName) ∈ tb := tb_t8 135 (by decide +kernel) (by decide +kernel)
theorem tw_1918 : Cond.instanceMethod (⟨"RoofRegattaModel", "bestSwap", "(I)I"⟩ : MethodName) ∈ tb := tb_t8 136 (by decide +kernel) (by decide +kernel)
theorem tw_1919 : Cond.selects "RoofRegattaModel" (⟨"RoofRegattaModel", "bestSwap", "(I)I"⟩ : MethodName) (⟨"RoofRegattaModel", "bestSwap", "(I)I"⟩ : MethodName) ∈ tb := tb_t8 137 (by decide +kernel) (by decide +kernel)
set_option maxRecDepth 100000 in
theorem tw_1920 : Cond.code (⟨"RoofRegattaModel", "bestSwap", "(I)I"⟩ : MethodName) prog_13_method_94_code 6 (some .int) ∈ tb := tb_t8 138 rfl rfl
theorem tw_1921 : Cond.methodLink "RoofRegattaLaw" 153 (⟨"RoofRegattaModel", "bestLane", "(I)I"⟩ : MethodName) ∈ tb := tb_t8 139 (by decide +kernel) (by decide +kernel)
theorem tw_1922 : Cond.instanceMethod (⟨"RoofRegattaModel", "bestLane", "(I)I"⟩ : MethodName) ∈ tb := tb_t8 140 (by decide +kernel) (by decide +kernel)
theorem tw_1923 : Cond.selects "RoofRegattaModel" (⟨"RoofRegattaModel", "bestLane", "(I)I"⟩ : MethodName) (⟨"RoofRegattaModel", "bestLane", "(I)I"⟩ : MethodName) ∈ tb := tb_t8 141 (by decide +kernel) (by decide +kernel)
set_option maxRecDepth 100000 in
theorem tw_1924 : Cond.code (⟨"RoofRegattaModel", "bestLane", "(I)I"⟩ : MethodName) prog_13_method_95_code 3 (some .int) ∈ tb := tb_t8 142 rfl rfl
theorem tw_1925 : Cond.methodLink "RoofRegattaLaw" 145 (⟨"RoofRegattaModel", "waterFo\x72", "(II)I"⟩ : MethodName) ∈ tb := tb_t8 143 (by decide +kernel) (by decide +kernel)
theorem tw_1926 : Cond.instanceMethod (⟨"RoofRegattaModel", "waterFo\x72", "(II)I"⟩ : MethodName) ∈ tb := tb_t8 144 (by decide +kernel) (by decide +kernel)
theorem tw_1927 : Cond.selects "RoofRegattaModel" (⟨"RoofRegattaModel", "waterFo\x72", "(II)I"⟩ : MethodName) (⟨"RoofRegattaModel", "waterFo\x72", "(II)I"⟩ : MethodName) ∈ tb := tb_t8 145 (by decide +kernel) (by decide +kernel)
set_option maxRecDepth 100000 in
theorem tw_1928 : Cond.code (⟨"RoofRegattaModel", "waterFo\x72", "(II)I"⟩ : MethodName) prog_13_method_96_code 5 (some .int) ∈ tb := tb_t8 146 rfl rfl
theorem tw_1929 : Cond.methodLink "RoofRegattaLaw" 157 (⟨"RoofRegattaModel", "fires", "()I"⟩ : MethodName) ∈ tb := tb_t8 147 (by decide +kernel) (by decide +kernel)
theorem tw_1930 : Cond.instanceMethod (⟨"RoofRegattaModel", "fires", "()I"⟩ : MethodName) ∈ tb := tb_t8 148 (by decide +kernel) (by decide +kernel)
theorem tw_1931 : Cond.selects "RoofRegattaModel" (⟨"RoofRegattaModel", "fires", "()I"⟩ : MethodName) (⟨"RoofRegattaModel", "fires", "()I"⟩ : MethodName) ∈ tb := tb_t8 149 (by decide +kernel) (by decide +kernel)
set_option maxRecDepth 100000 in
theorem tw_1932 : Cond.code (⟨"RoofRegattaModel", "fires", "()I"⟩ : MethodName) prog_13_method_99_code 1 (some .int) ∈ tb := tb_t8 150 rfl rfl
theorem tw_1933 : Cond.methodLink "RoofRegattaModel" 380 (⟨"RoofRegattaModel", "seekFires", "(I)I"⟩ : MethodName) ∈ tb := tb_t8 151 (by decide +kernel) (by decide +kernel)
theorem tw_1935 : Cond.instanceMethod (⟨"RoofRegattaModel", "seekFires", "(I)I"⟩ : MethodName) ∈ tb := tb_t8 153 (by decide +kernel) (by decide +kernel)
set_option maxRecDepth 100000 in
theorem tw_1936 : Cond.code (⟨"RoofRegattaModel", "seekFires", "(I)I"⟩ : MethodName) prog_13_method_98_code 5 (some .int) ∈ tb := tb_t8 154 rfl rfl
theorem tw_1937 : Cond.methodLink "RoofRegattaModel" 377 (⟨"RoofRegattaModel", "wrongSeen", "(I)I"⟩ : MethodName) ∈ tb := tb_t8 155 (by decide +kernel) (by decide +kernel)
theorem tw_1939 : Cond.instanceMethod (⟨"RoofRegattaModel", "wrongSeen", "(I)I"⟩ : MethodName) ∈ tb := tb_t8 157 (by decide +kernel) (by decide +kernel)
set_option maxRecDepth 100000 in
theorem tw_1940 : Cond.code (⟨"RoofRegattaModel", "wrongSeen", "(I)I"⟩ : MethodName) prog_13_method_97_code 3 (some .int) ∈ tb := tb_t8 158 rfl rfl
theorem tw_1941 : Cond.methodLink "RoofRegattaLaw" 161 (⟨"RoofRegattaModel", "fireAt", "(I)I"⟩ : MethodName) ∈ tb := tb_t8 159 (by decide +kernel) (by decide +kernel)
theorem tw_1942 : Cond.instanceMethod (⟨"RoofRegattaModel", "fireAt", "(I)I"⟩ : MethodName) ∈ tb := tb_t8 160 (by decide +kernel) (by decide +kernel)
theorem tw_1943 : Cond.selects "RoofRegattaModel" (⟨"RoofRegattaModel", "fireAt", "(I)I"⟩ : MethodName) (⟨"RoofRegattaModel", "fireAt", "(I)I"⟩ : MethodName) ∈ tb := tb_t8 161 (by decide +kernel) (by decide +kernel)
set_option maxRecDepth 100000 in
theorem tw_1944 : Cond.code (⟨"RoofRegattaModel", "fireAt", "(I)I"⟩ : MethodName) prog_13_method_100_code 3 (some .int) ∈ tb := tb_t8 162 rfl rfl
theorem tw_1945 : Cond.methodLink "RoofRegattaLaw" 165 (⟨"RoofRegattaModel", "could", "()I"⟩ : MethodName) ∈ tb := tb_t8 163 (by decide +kernel) (by decide +kernel)
theorem tw_1946 : Cond.instanceMethod (⟨"RoofRegattaModel", "could", "()I"⟩ : MethodName) ∈ tb := tb_t8 164 (by decide +kernel) (by decide +kernel)
theorem tw_1947 : Cond.selects "RoofRegattaModel" (⟨"RoofRegattaModel", "could", "()I"⟩ : MethodName) (⟨"RoofRegattaModel", "could", "()I"⟩ : MethodName) ∈ tb := tb_t8 165 (by decide +kernel) (by decide +kernel)
set_option maxRecDepth 100000 in
theorem tw_1948 : Cond.code (⟨"RoofRegattaModel", "could", "()I"⟩ : MethodName) prog_13_method_101_code 1 (some .int) ∈ tb := tb_t8 166 rfl rfl
theorem tw_1949 : Cond.methodLink "RoofRegattaLaw" 169 (⟨"RoofRegattaModel", "surely", "()I"⟩ : MethodName) ∈ tb := tb_t8 167 (by decide +kernel) (by decide +kernel)
theorem tw_1950 : Cond.instanceMethod (⟨"RoofRegattaModel", "surely", "()I"⟩ : MethodName) ∈ tb := tb_t8 168 (by decide +kernel) (by decide +kernel)
theorem tw_1951 : Cond.selects "RoofRegattaModel" (⟨"RoofRegattaModel", "surely", "()I"⟩ : MethodName) (⟨"RoofRegattaModel", "surely", "()I"⟩ : MethodName) ∈ tb := tb_t8 169 (by decide +kernel) (by decide +kernel)
set_option maxRecDepth 100000 in
theorem tw_1952 : Cond.code (⟨"RoofRegattaModel", "surely", "()I"⟩ : MethodName) prog_13_method_102_code 1 (some .int) ∈ tb := tb_t8 170 rfl rfl
theorem tw_1953 : Cond.methodLink "RoofRegattaLaw" 173 (⟨"RoofRegattaModel", "ask", "()I"⟩ : MethodName) ∈ tb := tb_t8 171 (by decide +kernel) (by decide +kernel)
theorem tw_1954 : Cond.instanceMethod (⟨"RoofRegattaModel", "ask", "()I"⟩ : MethodName) ∈ tb := tb_t8 172 (by decide +kernel) (by decide +kernel)
theorem tw_1955 : Cond.selects "RoofRegattaModel" (⟨"RoofRegattaModel", "ask", "()I"⟩ : MethodName) (⟨"RoofRegattaModel", "ask", "()I"⟩ : MethodName) ∈ tb := tb_t8 173 (by decide +kernel) (by decide +kernel)
set_option maxRecDepth 100000 in
theorem tw_1956 : Cond.code (⟨"RoofRegattaModel", "ask", "()I"⟩ : MethodName) prog_13_method_105_code 1 (some .int) ∈ tb := tb_t8 174 rfl rfl
theorem tw_1957 : Cond.methodLink "RoofRegattaModel" 386 (⟨"RoofRegattaModel", "askOf", "()I"⟩ : MethodName) ∈ tb := tb_t8 175 (by decide +kernel) (by decide +kernel)
theorem tw_1959 : Cond.instanceMethod (⟨"RoofRegattaModel", "askOf", "()I"⟩ : MethodName) ∈ tb := tb_t8 177 (by decide +kernel) (by decide +kernel)
set_option maxRecDepth 100000 in
theorem tw_1960 : Cond.code (⟨"RoofRegattaModel", "askOf", "()I"⟩ : MethodName) prog_13_method_104_code 3 (some .int) ∈ tb := tb_t8 178 rfl rfl
theorem tw_1961 : Cond.methodLink "RoofRegattaModel" 383 (⟨"RoofRegattaModel", "leavesOf", "(I)I"⟩ : MethodName) ∈ tb := tb_t8 179 (by decide +kernel) (by decide +kernel)
theorem tw_1963 : Cond.instanceMethod (⟨"RoofRegattaModel", "leavesOf", "(I)I"⟩ : MethodName) ∈ tb := tb_t8 181 (by decide +kernel) (by decide +kernel)
set_option maxRecDepth 100000 in
theorem tw_1964 : Cond.code (⟨"RoofRegattaModel", "leavesOf", "(I)I"⟩ : MethodName) prog_13_method_103_code 2 (some .int) ∈ tb := tb_t8 182 rfl rfl
theorem tw_1965 : Cond.methodLink "RoofRegattaLaw" 177 (⟨"RoofRegattaModel", "askLeaves", "()I"⟩ : MethodName) ∈ tb := tb_t8 183 (by decide +kernel) (by decide +kernel)
theorem tw_1966 : Cond.instanceMethod (⟨"RoofRegattaModel", "askLeaves", "()I"⟩ : MethodName) ∈ tb := tb_t8 184 (by decide +kernel) (by decide +kernel)
theorem tw_1967 : Cond.selects "RoofRegattaModel" (⟨"RoofRegattaModel", "askLeaves", "()I"⟩ : MethodName) (⟨"RoofRegattaModel", "askLeaves", "()I"⟩ : MethodName) ∈ tb := tb_t8 185 (by decide +kernel) (by decide +kernel)
set_option maxRecDepth 100000 in
theorem tw_1968 : Cond.code (⟨"RoofRegattaModel", "askLeaves", "()I"⟩ : MethodName) prog_13_method_106_code 2 (some .int) ∈ tb := tb_t8 186 rfl rfl
theorem tw_1969 : Cond.methodLink "RoofRegattaLaw" 181 (⟨"RoofRegattaModel", "judge", "()I"⟩ : MethodName) ∈ tb := tb_t8 187 (by decide +kernel) (by decide +kernel)
theorem tw_1970 : Cond.instanceMethod (⟨"RoofRegattaModel", "judge", "()I"⟩ : MethodName) ∈ tb := tb_t8 188 (by decide +kernel) (by decide +kernel)
theorem tw_1971 : Cond.selects "RoofRegattaModel" (⟨"RoofRegattaModel", "judge", "()I"⟩ : MethodName) (⟨"RoofRegattaModel", "judge", "()I"⟩ : MethodName) ∈ tb := tb_t8 189 (by decide +kernel) (by decide +kernel)
set_option maxRecDepth 100000 in
theorem tw_1972 : Cond.code (⟨"RoofRegattaModel", "judge", "()I"⟩ : MethodName) prog_13_method_107_code 1 (some .int) ∈ tb := tb_t8 190 rfl rfl
theorem tw_1973 : Cond.methodLink "RoofRegattaLaw" 186 (⟨"RoofRegattaModel", "odds", "(IIZ)J"⟩ : MethodName) ∈ tb := tb_t8 191 (by decide +kernel) (by decide +kernel)
theorem tw_1974 : Cond.instanceMethod (⟨"RoofRegattaModel", "odds", "(IIZ)J"⟩ : MethodName) ∈ tb := tb_t8 192 (by decide +kernel) (by decide +kernel)
theorem tw_1975 : Cond.selects "RoofRegattaModel" (⟨"RoofRegattaModel", "odds", "(IIZ)J"⟩ : MethodName) (⟨"RoofRegattaModel", "odds", "(IIZ)J"⟩ : MethodName) ∈ tb := tb_t8 193 (by decide +kernel) (by decide +kernel)
set_option maxRecDepth 100000 in
theorem tw_1976 : Cond.code (⟨"RoofRegattaModel", "odds", "(IIZ)J"⟩ : MethodName) prog_13_method_109_code 4 (some .long) ∈ tb := tb_t8 194 rfl rfl
theorem tw_1977 : Cond.methodLink "RoofRegattaModel" 404 (⟨"RoofRegattaModel", "tryRain", "(II)V"⟩ : MethodName) ∈ tb := tb_t8 195 (by decide +kernel) (by decide +kernel)
theorem tw_1979 : Cond.instanceMethod (⟨"RoofRegattaModel", "tryRain", "(II)V"⟩ : MethodName) ∈ tb := tb_t8 197 (by decide +kernel) (by decide +kernel)
set_option maxRecDepth 100000 in
theorem tw_1980 : Cond.code (⟨"RoofRegattaModel", "tryRain", "(II)V"⟩ : MethodName) prog_13_method_108_code 7 (none : Option Jvm.ClassFile.FieldType) ∈ tb := tb_t8 198 rfl rfl
theorem tw_1981 : Cond.constantLong "RoofRegattaModel" 402 (100 : Int64) ∈ tb := tb_t8 199 (by decide +kernel) (by decide +kernel)
theorem tw_1982 : Cond.methodLink "RoofRegattaModel" 407 (⟨"RoofRegattaModel", "lowest", "(JJZ)J"⟩ : MethodName) ∈ tb := tb_t8 200 (by decide +kernel) (by decide +kernel)
theorem tw_1983 : Cond.static (⟨"RoofRegattaModel", "lowest", "(JJZ)J"⟩ : MethodName) ∈ tb := tb_t8 201 (by decide +kernel) (by decide +kernel)
set_option maxRecDepth 100000 in
theorem tw_1984 : Cond.code (⟨"RoofRegattaModel", "lowest", "(JJZ)J"⟩ : MethodName) prog_13_method_10_code 11 (some .long) ∈ tb := tb_t8 202 rfl rfl
theorem tw_1985 : Cond.methodLink "RoofRegattaLaw" 191 (⟨"RoofRegattaModel", "mean", "(IZ)J"⟩ : MethodName) ∈ tb := tb_t8 203 (by decide +kernel) (by decide +kernel)
theorem tw_1986 : Cond.instanceMethod (⟨"RoofRegattaModel", "mean", "(IZ)J"⟩ : MethodName) ∈ tb := tb_t8 204 (by decide +kernel) (by decide +kernel)
theorem tw_1987 : Cond.selects "RoofRegattaModel" (⟨"RoofRegattaModel", "mean", "(IZ)J"⟩ : MethodName) (⟨"RoofRegattaModel", "mean", "(IZ)J"⟩ : MethodName) ∈ tb := tb_t8 205 (by decide +kernel) (by decide +kernel)
set_option maxRecDepth 100000 in
theorem tw_1988 : Cond.code (⟨"RoofRegattaModel", "mean", "(IZ)J"⟩ : MethodName) prog_13_method_110_code 3 (some .long) ∈ tb := tb_t8 206 rfl rfl
theorem tw_1989 : Cond.methodLink "RoofRegattaLaw" 195 (⟨"RoofRegattaModel", "hopes", "(IZ)J"⟩ : MethodName) ∈ tb := tb_t8 207 (by decide +kernel) (by decide +kernel)
theorem tw_1990 : Cond.instanceMethod (⟨"RoofRegattaModel", "hopes", "(IZ)J"⟩ : MethodName) ∈ tb := tb_t8 208 (by decide +kernel) (by decide +kernel)
theorem tw_1991 : Cond.selects "RoofRegattaModel" (⟨"RoofRegattaModel", "hopes", "(IZ)J"⟩ : MethodName) (⟨"RoofRegattaModel", "hopes", "(IZ)J"⟩ : MethodName) ∈ tb := tb_t8 209 (by decide +kernel) (by decide +kernel)
set_option maxRecDepth 100000 in
theorem tw_1992 : Cond.code (⟨"RoofRegattaModel", "hopes", "(IZ)J"⟩ : MethodName) prog_13_method_111_code 3 (some .long) ∈ tb := tb_t8 210 rfl rfl
theorem tw_1993 : Cond.methodLink "RoofRegattaLaw" 200 (⟨"RoofRegattaModel", "wins", "(III)I"⟩ : MethodName) ∈ tb := tb_t8 211 (by decide +kernel) (by decide +kernel)
theorem tw_1994 : Cond.instanceMethod (⟨"RoofRegattaModel", "wins", "(III)I"⟩ : MethodName) ∈ tb := tb_t8 212 (by decide +kernel) (by decide +kernel)
theorem tw_1995 : Cond.selects "RoofRegattaModel" (⟨"RoofRegattaModel", "wins", "(III)I"⟩ : MethodName) (⟨"RoofRegattaModel", "wins", "(III)I"⟩ : MethodName) ∈ tb := tb_t8 213 (by decide +kernel) (by decide +kernel)
set_option maxRecDepth 100000 in
theorem tw_1996 : Cond.code (⟨"RoofRegattaModel", "wins", "(III)I"⟩ : MethodName) prog_13_method_113_code 5 (some .int) ∈ tb := tb_t8 214 rfl rfl
theorem tw_1997 : Cond.methodLink "RoofRegattaModel" 416 (⟨"RoofRegattaModel", "racesWhy", "(ZIII)I"⟩ : MethodName) ∈ tb := tb_t8 215 (by decide +kernel) (by decide +kernel)
theorem tw_1999 : Cond.instanceMethod (⟨"RoofRegattaModel", "racesWhy", "(ZIII)I"⟩ : MethodName) ∈ tb := tb_t8 217 (by decide +kernel) (by decide +kernel)
set_option maxRecDepth 100000 in
theorem tw_2000 : Cond.code (⟨"RoofRegattaModel", "racesWhy", "(ZIII)I"⟩ : MethodName) prog_13_method_112_code 8 (some .int) ∈ tb := tb_t8 218 rfl rfl
theorem tw_2001 : Cond.constant "RoofRegattaModel" 411 (65536 : Int32) ∈ tb := tb_t8 219 (by decide +kernel) (by decide +kernel)
theorem tw_2002 : Cond.constant "RoofRegattaModel" 415 (65537 : Int32) ∈ tb := tb_t8 220 (by decide +kernel) (by decide +kernel)
theorem tw_2003 : Cond.methodLink "RoofRegattaLaw" 204 (⟨"RoofRegattaModel", "record", "(II)I"⟩ : MethodName) ∈ tb := tb_t8 221 (by decide +kernel) (by decide +kernel)
theorem tw_2004 : Cond.instanceMethod (⟨"RoofRegattaModel", "record", "(II)I"⟩ : MethodName) ∈ tb := tb_t8 222 (by decide +kernel) (by decide +kernel)
theorem tw_2005 : Cond.selects "RoofRegattaModel" (⟨"RoofRegattaModel", "record", "(II)I"⟩ : MethodName) (⟨"RoofRegattaModel", "record", "(II)I"⟩ : MethodName) ∈ tb := tb_t8 223 (by decide +kernel) (by decide +kernel)
set_option maxRecDepth 100000 in
theorem tw_2006 : Cond.code (⟨"RoofRegattaModel", "record", "(II)I"⟩ : MethodName) prog_13_method_114_code 4 (some .int) ∈ tb := tb_t8 224 rfl rfl
theorem tw_2007 : Cond.methodLink "RoofRegattaLaw" 209 (⟨"RoofRegattaModel", "wei\x72", "(IZZZ)I"⟩ : MethodName) ∈ tb := tb_t8 225 (by decide +kernel) (by decide +kernel)
theorem tw_2008 : Cond.instanceMethod (⟨"RoofRegattaModel", "wei\x72", "(IZZZ)I"⟩ : MethodName) ∈ tb := tb_t8 226 (by decide +kernel) (by decide +kernel)
theorem tw_2009 : Cond.selects "RoofRegattaModel" (⟨"RoofRegattaModel", "wei\x72", "(IZZZ)I"⟩ : MethodName) (⟨"RoofRegattaModel", "wei\x72", "(IZZZ)I"⟩ : MethodName) ∈ tb := tb_t8 227 (by decide +kernel) (by decide +kernel)
set_option maxRecDepth 100000 in
theorem tw_2010 : Cond.code (⟨"RoofRegattaModel", "wei\x72", "(IZZZ)I"⟩ : MethodName) prog_13_method_116_code 6 (some .int) ∈ tb := tb_t8 228 rfl rfl
theorem tw_2011 : Cond.methodLink "RoofRegattaModel" 420 (⟨"RoofRegattaModel", "weirOf", "(IZZ)I"⟩ : MethodName) ∈ tb := tb_t8 229 (by decide +kernel) (by decide +kernel)
theorem tw_2012 : Cond.static (⟨"RoofRegattaModel", "weirOf", "(IZZ)I"⟩ : MethodName) ∈ tb := tb_t8 230 (by decide +kernel) (by decide +kernel)
set_option maxRecDepth 100000 in
theorem tw_2013 : Cond.code (⟨"RoofRegattaModel", "weirOf", "(IZZ)I"⟩ : MethodName) prog_13_method_115_code 3 (some .int) ∈ tb := tb_t8 231 rfl rfl
theorem tw_2014 : Cond.methodLink "RoofRegattaLaw" 213 (⟨"RoofRegattaModel", "rests", "(I)I"⟩ : MethodName) ∈ tb := tb_t8 232 (by decide +kernel) (by decide +kernel)
theorem tw_2015 : Cond.instanceMethod (⟨"RoofRegattaModel", "rests", "(I)I"⟩ : MethodName) ∈ tb := tb_t8 233 (by decide +kernel) (by decide +kernel)
theorem tw_2016 : Cond.selects "RoofRegattaModel" (⟨"RoofRegattaModel", "rests", "(I)I"⟩ : MethodName) (⟨"RoofRegattaModel", "rests", "(I)I"⟩ : MethodName) ∈ tb := tb_t8 234 (by decide +kernel) (by decide +kernel)
set_option maxRecDepth 100000 in
theorem tw_2017 : Cond.code (⟨"RoofRegattaModel", "rests", "(I)I"⟩ : MethodName) prog_13_method_119_code 3 (some .int) ∈ tb := tb_t8 235 rfl rfl
theorem tw_2018 : Cond.methodLink "RoofRegattaModel" 431 (⟨"RoofRegattaModel", "seekRests", "(I)I"⟩ : MethodName) ∈ tb := tb_t8 236 (by decide +kernel) (by decide +kernel)
theorem tw_2020 : Cond.instanceMethod (⟨"RoofRegattaModel", "seekRests", "(I)I"⟩ : MethodName) ∈ tb := tb_t8 238 (by decide +kernel) (by decide +kernel)
set_option maxRecDepth 100000 in
theorem tw_2021 : Cond.code (⟨"RoofRegattaModel", "seekRests", "(I)I"⟩ : MethodName) prog_13_method_118_code 4 (some .int) ∈ tb := tb_t8 239 rfl rfl
theorem tw_2022 : Cond.methodLink "RoofRegattaModel" 427 (⟨"RoofRegattaModel", "isRest", "(IZZ)Z"⟩ : MethodName) ∈ tb := tb_t9 0 (by decide +kernel) (by decide +kernel)
theorem tw_2023 : Cond.static (⟨"RoofRegattaModel", "isRest", "(IZZ)Z"⟩ : MethodName) ∈ tb := tb_t9 1 (by decide +kernel) (by decide +kernel)
set_option maxRecDepth 100000 in
theorem tw_2024 : Cond.code (⟨"RoofRegattaModel", "isRest", "(IZZ)Z"⟩ : MethodName) prog_13_method_117_code 3 (some .boolean) ∈ tb := tb_t9 2 rfl rfl
theorem tw_2025 : Cond.methodLink "RoofRegattaLaw" 217 (⟨"RoofRegattaModel", "rest", "(I)I"⟩ : MethodName) ∈ tb := tb_t9 3 (by decide +kernel) (by decide +kernel)
theorem tw_2026 : Cond.instanceMethod (⟨"RoofRegattaModel", "rest", "(I)I"⟩ : MethodName) ∈ tb := tb_t9 4 (by decide +kernel) (by decide +kernel)
theorem tw_2027 : Cond.selects "RoofRegattaModel" (⟨"RoofRegattaModel", "rest", "(I)I"⟩ : MethodName) (⟨"RoofRegattaModel", "rest", "(I)I"⟩ : MethodName) ∈ tb := tb_t9 5 (by decide +kernel) (by decide +kernel)
set_option maxRecDepth 100000 in
theorem tw_2028 : Cond.code (⟨"RoofRegattaModel", "rest", "(I)I"⟩ : MethodName) prog_13_method_120_code 3 (some .int) ∈ tb := tb_t9 6 rfl rfl
theorem tw_2029 : Cond.methodLink "RoofRegattaLaw" 221 (⟨"RoofRegattaModel", "board", "(II)I"⟩ : MethodName) ∈ tb := tb_t9 7 (by decide +kernel) (by decide +kernel)
theorem tw_2030 : Cond.instanceMethod (⟨"RoofRegattaModel", "board", "(II)I"⟩ : MethodName) ∈ tb := tb_t9 8 (by decide +kernel) (by decide +kernel)
theorem tw_2031 : Cond.selects "RoofRegattaModel" (⟨"RoofRegattaModel", "board", "(II)I"⟩ : MethodName) (⟨"RoofRegattaModel", "board", "(II)I"⟩ : MethodName) ∈ tb := tb_t9 9 (by decide +kernel) (by decide +kernel)
set_option maxRecDepth 100000 in
theorem tw_2032 : Cond.code (⟨"RoofRegattaModel", "board", "(II)I"⟩ : MethodName) prog_13_method_122_code 3 (some .int) ∈ tb := tb_t9 10 rfl rfl
theorem tw_2033 : Cond.methodLink "RoofRegattaModel" 434 (⟨"RoofRegattaModel", "note", "()V"⟩ : MethodName) ∈ tb := tb_t9 11 (by decide +kernel) (by decide +kernel)
theorem tw_2035 : Cond.instanceMethod (⟨"RoofRegattaModel", "note", "()V"⟩ : MethodName) ∈ tb := tb_t9 13 (by decide +kernel) (by decide +kernel)
set_option maxRecDepth 100000 in
theorem tw_2036 : Cond.code (⟨"RoofRegattaModel", "note", "()V"⟩ : MethodName) prog_13_method_121_code 2 (none : Option Jvm.ClassFile.FieldType) ∈ tb := tb_t9 14 rfl rfl
theorem tw_2037 : Cond.methodLink "RoofRegattaLaw" 226 (⟨"RoofRegattaModel", "ashore", "(I)Z"⟩ : MethodName) ∈ tb := tb_t9 15 (by decide +kernel) (by decide +kernel)
theorem tw_2038 : Cond.instanceMethod (⟨"RoofRegattaModel", "ashore", "(I)Z"⟩ : MethodName) ∈ tb := tb_t9 16 (by decide +kernel) (by decide +kernel)
theorem tw_2039 : Cond.selects "RoofRegattaModel" (⟨"RoofRegattaModel", "ashore", "(I)Z"⟩ : MethodName) (⟨"RoofRegattaModel", "ashore", "(I)Z"⟩ : MethodName) ∈ tb := tb_t9 17 (by decide +kernel) (by decide +kernel)
set_option maxRecDepth 100000 in
theorem tw_2040 : Cond.code (⟨"RoofRegattaModel", "ashore", "(I)Z"⟩ : MethodName) prog_13_method_123_code 2 (some .boolean) ∈ tb := tb_t9 18 rfl rfl
theorem tw_2041 : Cond.methodLink "RoofRegattaModel" 437 (⟨"RoofRegattaModel", "isNot", "(I)Z"⟩ : MethodName) ∈ tb := tb_t9 19 (by decide +kernel) (by decide +kernel)
theorem tw_2043 : Cond.instanceMethod (⟨"RoofRegattaModel", "isNot", "(I)Z"⟩ : MethodName) ∈ tb := tb_t9 21 (by decide +kernel) (by decide +kernel)
set_option maxRecDepth 100000 in
theorem tw_2044 : Cond.code (⟨"RoofRegattaModel", "isNot", "(I)Z"⟩ : MethodName) prog_13_method_5_code 2 (some .boolean) ∈ tb := tb_t9 22 rfl rfl
theorem tw_2045 : Cond.methodLink "RoofRegattaLaw" 231 (⟨"RoofRegattaModel", "light", "(IZ)Z"⟩ : MethodName) ∈ tb := tb_t9 23 (by decide +kernel) (by decide +kernel)
theorem tw_2046 : Cond.instanceMethod (⟨"RoofRegattaModel", "light", "(IZ)Z"⟩ : MethodName) ∈ tb := tb_t9 24 (by decide +kernel) (by decide +kernel)
theorem tw_2047 : Cond.selects "RoofRegattaModel" (⟨"RoofRegattaModel", "light", "(IZ)Z"⟩ : MethodName) (⟨"RoofRegattaModel", "light", "(IZ)Z"⟩ : MethodName) ∈ tb := tb_t9 25 (by decide +kernel) (by decide +kernel)
set_option maxRecDepth 100000 in
theorem tw_2048 : Cond.code (⟨"RoofRegattaModel", "light", "(IZ)Z"⟩ : MethodName) prog_13_method_124_code 3 (some .boolean) ∈ tb := tb_t9 26 rfl rfl
theorem tw_2049 : Cond.methodLink "RoofRegattaLaw" 235 (⟨"RoofRegattaModel", "cross", "(I)I"⟩ : MethodName) ∈ tb := tb_t9 27 (by decide +kernel) (by decide +kernel)
theorem tw_2050 : Cond.instanceMethod (⟨"RoofRegattaModel", "cross", "(I)I"⟩ : MethodName) ∈ tb := tb_t9 28 (by decide +kernel) (by decide +kernel)
theorem tw_2051 : Cond.selects "RoofRegattaModel" (⟨"RoofRegattaModel", "cross", "(I)I"⟩ : MethodName) (⟨"RoofRegattaModel", "cross", "(I)I"⟩ : MethodName) ∈ tb := tb_t9 29 (by decide +kernel) (by decide +kernel)
set_option maxRecDepth 100000 in
theorem tw_2052 : Cond.code (⟨"RoofRegattaModel", "cross", "(I)I"⟩ : MethodName) prog_13_method_125_code 2 (some .int) ∈ tb := tb_t9 30 rfl rfl
theorem tw_2053 : Cond.methodLink "RoofRegattaLaw" 239 (⟨"RoofRegattaModel", "raise", "(I)Z"⟩ : MethodName) ∈ tb := tb_t9 31 (by decide +kernel) (by decide +kernel)
theorem tw_2054 : Cond.instanceMethod (⟨"RoofRegattaModel", "raise", "(I)Z"⟩ : MethodName) ∈ tb := tb_t9 32 (by decide +kernel) (by decide +kernel)
theorem tw_2055 : Cond.selects "RoofRegattaModel" (⟨"RoofRegattaModel", "raise", "(I)Z"⟩ : MethodName) (⟨"RoofRegattaModel", "raise", "(I)Z"⟩ : MethodName) ∈ tb := tb_t9 33 (by decide +kernel) (by decide +kernel)
set_option maxRecDepth 100000 in
theorem tw_2056 : Cond.code (⟨"RoofRegattaModel", "raise", "(I)Z"⟩ : MethodName) prog_13_method_126_code 3 (some .boolean) ∈ tb := tb_t9 34 rfl rfl
theorem tw_2057 : Cond.methodLink "RoofRegattaLaw" 244 (⟨"RoofRegattaModel", "undo", "()Z"⟩ : MethodName) ∈ tb := tb_t9 35 (by decide +kernel) (by decide +kernel)
theorem tw_2058 : Cond.instanceMethod (⟨"RoofRegattaModel", "undo", "()Z"⟩ : MethodName) ∈ tb := tb_t9 36 (by decide +kernel) (by decide +kernel)
theorem tw_2059 : Cond.selects "RoofRegattaModel" (⟨"RoofRegattaModel", "undo", "()Z"⟩ : MethodName) (⟨"RoofRegattaModel", "undo", "()Z"⟩ : MethodName) ∈ tb := tb_t9 37 (by decide +kernel) (by decide +kernel)
set_option maxRecDepth 100000 in
theorem tw_2060 : Cond.code (⟨"RoofRegattaModel", "undo", "()Z"⟩ : MethodName) prog_13_method_127_code 1 (some .boolean) ∈ tb := tb_t9 38 rfl rfl
theorem tw_2061 : Cond.methodLink "RoofRegattaLaw" 248 (⟨"RoofRegattaModel", "image", "()I"⟩ : MethodName) ∈ tb := tb_t9 39 (by decide +kernel) (by decide +kernel)
theorem tw_2062 : Cond.instanceMethod (⟨"RoofRegattaModel", "image", "()I"⟩ : MethodName) ∈ tb := tb_t9 40 (by decide +kernel) (by decide +kernel)
theorem tw_2063 : Cond.selects "RoofRegattaModel" (⟨"RoofRegattaModel", "image", "()I"⟩ : MethodName) (⟨"RoofRegattaModel", "image", "()I"⟩ : MethodName) ∈ tb := tb_t9 41 (by decide +kernel) (by decide +kernel)
set_option maxRecDepth 100000 in
theorem tw_2064 : Cond.code (⟨"RoofRegattaModel", "image", "()I"⟩ : MethodName) prog_13_method_128_code 1 (some .int) ∈ tb := tb_t9 42 rfl rfl
theorem tw_2065 : Cond.methodLink "RoofRegattaLaw" 252 (⟨"RoofRegattaModel", "back", "(I)Z"⟩ : MethodName) ∈ tb := tb_t9 43 (by decide +kernel) (by decide +kernel)
theorem tw_2066 : Cond.instanceMethod (⟨"RoofRegattaModel", "back", "(I)Z"⟩ : MethodName) ∈ tb := tb_t9 44 (by decide +kernel) (by decide +kernel)
theorem tw_2067 : Cond.selects "RoofRegattaModel" (⟨"RoofRegattaModel", "back", "(I)Z"⟩ : MethodName) (⟨"RoofRegattaModel", "back", "(I)Z"⟩ : MethodName) ∈ tb := tb_t9 45 (by decide +kernel) (by decide +kernel)
set_option maxRecDepth 100000 in
theorem tw_2068 : Cond.code (⟨"RoofRegattaModel", "back", "(I)Z"⟩ : MethodName) prog_13_method_129_code 2 (some .boolean) ∈ tb := tb_t9 46 rfl rfl
theorem tw_2069 : Cond.methodLink "RoofRegattaLaw" 258 (⟨"RoofRegattaModel", "led", "(I)I"⟩ : MethodName) ∈ tb := tb_t9 47 (by decide +kernel) (by decide +kernel)
theorem tw_2070 : Cond.instanceMethod (⟨"RoofRegattaModel", "led", "(I)I"⟩ : MethodName) ∈ tb := tb_t9 48 (by decide +kernel) (by decide +kernel)
theorem tw_2071 : Cond.selects "RoofRegattaModel" (⟨"RoofRegattaModel", "led", "(I)I"⟩ : MethodName) (⟨"RoofRegattaModel", "led", "(I)I"⟩ : MethodName) ∈ tb := tb_t9 49 (by decide +kernel) (by decide +kernel)
set_option maxRecDepth 100000 in
theorem tw_2072 : Cond.code (⟨"RoofRegattaModel", "led", "(I)I"⟩ : MethodName) prog_13_method_130_code 4 (some .int) ∈ tb := tb_t9 50 rfl rfl
theorem tw_2073 : Cond.methodLink "RoofRegattaLaw" 265 (⟨"RoofRegattaModel", "size", "(I)I"⟩ : MethodName) ∈ tb := tb_t9 51 (by decide +kernel) (by decide +kernel)
theorem tw_2074 : Cond.instanceMethod (⟨"RoofRegattaModel", "size", "(I)I"⟩ : MethodName) ∈ tb := tb_t9 52 (by decide +kernel) (by decide +kernel)
theorem tw_2075 : Cond.selects "RoofRegattaModel" (⟨"RoofRegattaModel", "size", "(I)I"⟩ : MethodName) (⟨"RoofRegattaModel", "size", "(I)I"⟩ : MethodName) ∈ tb := tb_t9 53 (by decide +kernel) (by decide +kernel)
set_option maxRecDepth 100000 in
theorem tw_2076 : Cond.code (⟨"RoofRegattaModel", "size", "(I)I"⟩ : MethodName) prog_13_method_131_code 2 (some .int) ∈ tb := tb_t9 54 rfl rfl
theorem tw_2077 : Cond.methodLink "RoofRegattaLaw" 269 (⟨"RoofRegattaModel", "trouble", "()I"⟩ : MethodName) ∈ tb := tb_t9 55 (by decide +kernel) (by decide +kernel)
theorem tw_2078 : Cond.instanceMethod (⟨"RoofRegattaModel", "trouble", "()I"⟩ : MethodName) ∈ tb := tb_t9 56 (by decide +kernel) (by decide +kernel)
theorem tw_2079 : Cond.selects "RoofRegattaModel" (⟨"RoofRegattaModel", "trouble", "()I"⟩ : MethodName) (⟨"RoofRegattaModel", "trouble", "()I"⟩ : MethodName) ∈ tb := tb_t9 57 (by decide +kernel) (by decide +kernel)
set_option maxRecDepth 100000 in
theorem tw_2080 : Cond.code (⟨"RoofRegattaModel", "trouble", "()I"⟩ : MethodName) prog_13_method_132_code 1 (some .int) ∈ tb := tb_t9 58 rfl rfl
theorem tw_2097 : Cond.fieldLink "java/lang/String" 9 "java/lang/String" "value" "[B" ∈ tb := tb_t9 75 (by decide +kernel) (by decide +kernel)
theorem tw_2098 : Cond.fieldLink "java/lang/String" 15 "java/lang/String" "code\x72" "B" ∈ tb := tb_t9 76 (by decide +kernel) (by decide +kernel)
theorem cluw_0 : ∀ k, k < 4 → u_lay RX0 TX0 k ∈ tb := by
  intro k hk
  match k, hk with
  | 0, _ => exact tw_425
  | 1, _ => exact tw_427
  | 2, _ => exact tw_429
  | 3, _ => exact tw_431
  | n + 4, hk => omega
theorem clok_0 : CLok 0 := ⟨RX0, TX0, 4, tyX0, rfl, (fun w hw => by obtain ⟨k, hk, rfl⟩ := List.mem_map.mp hw; exact cluw_0 k (List.mem_range.mp hk)), tyX0_ok, nmX0⟩
theorem cluw_1 : ∀ k, k < 5 → u_lay RX1 TX1 k ∈ tb := by
  intro k hk
  match k, hk with
  | 0, _ => exact tw_475
  | 1, _ => exact tw_477
  | 2, _ => exact tw_479
  | 3, _ => exact tw_481
  | 4, _ => exact tw_483
  | n + 5, hk => omega
theorem clok_1 : CLok 1 := ⟨RX1, TX1, 5, tyX1, rfl, (fun w hw => by obtain ⟨k, hk, rfl⟩ := List.mem_map.mp hw; exact cluw_1 k (List.mem_range.mp hk)), tyX1_ok, nmX1⟩
theorem cluw_2 : ∀ k, k < 11 → u_lay RX2 TX2 k ∈ tb := by
  intro k hk
  match k, hk with
  | 0, _ => exact tw_390
  | 1, _ => exact tw_392
  | 2, _ => exact tw_394
  | 3, _ => exact tw_396
  | 4, _ => exact tw_398
  | 5, _ => exact tw_400
  | 6, _ => exact tw_402
  | 7, _ => exact tw_404
  | 8, _ => exact tw_406
  | 9, _ => exact tw_408
  | 10, _ => exact tw_410
  | n + 11, hk => omega
theorem clok_2 : CLok 2 := ⟨RX2, TX2, 11, tyX2, rfl, (fun w hw => by obtain ⟨k, hk, rfl⟩ := List.mem_map.mp hw; exact cluw_2 k (List.mem_range.mp hk)), tyX2_ok, nmX2⟩
theorem cluw_3 : ∀ k, k < 5 → u_lay RX3 TX3 k ∈ tb := by
  intro k hk
  match k, hk with
  | 0, _ => exact tw_300
  | 1, _ => exact tw_302
  | 2, _ => exact tw_304
  | 3, _ => exact tw_306
  | 4, _ => exact tw_308
  | n + 5, hk => omega
theorem clok_3 : CLok 3 := ⟨RX3, TX3, 5, tyX3, rfl, (fun w hw => by obtain ⟨k, hk, rfl⟩ := List.mem_map.mp hw; exact cluw_3 k (List.mem_range.mp hk)), tyX3_ok, nmX3⟩
theorem cluw_4 : ∀ k, k < 6 → u_lay RX4 TX4 k ∈ tb := by
  intro k hk
  match k, hk with
  | 0, _ => exact tw_245
  | 1, _ => exact tw_247
  | 2, _ => exact tw_249
  | 3, _ => exact tw_251
  | 4, _ => exact tw_253
  | 5, _ => exact tw_255
  | n + 6, hk => omega
theorem clok_4 : CLok 4 := ⟨RX4, TX4, 6, tyX4, rfl, (fun w hw => by obtain ⟨k, hk, rfl⟩ := List.mem_map.mp hw; exact cluw_4 k (List.mem_range.mp hk)), tyX4_ok, nmX4⟩
theorem cluw_5 : ∀ k, k < 7 → u_lay RX5 TX5 k ∈ tb := by
  intro k hk
  match k, hk with
  | 0, _ => exact tw_447
  | 1, _ => exact tw_449
  | 2, _ => exact tw_451
  | 3, _ => exact tw_453
  | 4, _ => exact tw_455
  | 5, _ => exact tw_457
  | 6, _ => exact tw_459
  | n + 7, hk => omega
theorem clok_5 : CLok 5 := ⟨RX5, TX5, 7, tyX5, rfl, (fun w hw => by obtain ⟨k, hk, rfl⟩ := List.mem_map.mp hw; exact cluw_5 k (List.mem_range.mp hk)), tyX5_ok, nmX5⟩
theorem cluw_6 : ∀ k, k < 5 → u_lay RX6 TX6 k ∈ tb := by
  intro k hk
  match k, hk with
  | 0, _ => exact tw_357
  | 1, _ => exact tw_359
  | 2, _ => exact tw_361
  | 3, _ => exact tw_363
  | 4, _ => exact tw_365
  | n + 5, hk => omega
theorem clok_6 : CLok 6 := ⟨RX6, TX6, 5, tyX6, rfl, (fun w hw => by obtain ⟨k, hk, rfl⟩ := List.mem_map.mp hw; exact cluw_6 k (List.mem_range.mp hk)), tyX6_ok, nmX6⟩
theorem cluw_7 : ∀ k, k < 4 → u_lay RX7 TX7 k ∈ tb := by
  intro k hk
  match k, hk with
  | 0, _ => exact tw_271
  | 1, _ => exact tw_273
  | 2, _ => exact tw_275
  | 3, _ => exact tw_277
  | n + 4, hk => omega
theorem clok_7 : CLok 7 := ⟨RX7, TX7, 4, tyX7, rfl, (fun w hw => by obtain ⟨k, hk, rfl⟩ := List.mem_map.mp hw; exact cluw_7 k (List.mem_range.mp hk)), tyX7_ok, nmX7⟩
theorem cluw_8 : ∀ k, k < 7 → u_lay RX8 TX8 k ∈ tb := by
  intro k hk
  match k, hk with
  | 0, _ => exact tw_334
  | 1, _ => exact tw_336
  | 2, _ => exact tw_338
  | 3, _ => exact tw_340
  | 4, _ => exact tw_342
  | 5, _ => exact tw_344
  | 6, _ => exact tw_346
  | n + 7, hk => omega
theorem clok_8 : CLok 8 := ⟨RX8, TX8, 7, tyX8, rfl, (fun w hw => by obtain ⟨k, hk, rfl⟩ := List.mem_map.mp hw; exact cluw_8 k (List.mem_range.mp hk)), tyX8_ok, nmX8⟩
theorem cluw_9 : ∀ k, k < 13 → u_lay RX9 TX9 k ∈ tb := by
  intro k hk
  match k, hk with
  | 0, _ => exact tw_191
  | 1, _ => exact tw_193
  | 2, _ => exact tw_195
  | 3, _ => exact tw_197
  | 4, _ => exact tw_199
  | 5, _ => exact tw_201
  | 6, _ => exact tw_203
  | 7, _ => exact tw_205
  | 8, _ => exact tw_207
  | 9, _ => exact tw_209
  | 10, _ => exact tw_211
  | 11, _ => exact tw_213
  | 12, _ => exact tw_215
  | n + 13, hk => omega
theorem clok_9 : CLok 9 := ⟨RX9, TX9, 13, tyX9, rfl, (fun w hw => by obtain ⟨k, hk, rfl⟩ := List.mem_map.mp hw; exact cluw_9 k (List.mem_range.mp hk)), tyX9_ok, nmX9⟩
theorem cluw_10 : ∀ k, k < 14 → u_lay RX10 TX10 k ∈ tb := by
  intro k hk
  match k, hk with
  | 0, _ => exact tw_501
  | 1, _ => exact tw_503
  | 2, _ => exact tw_505
  | 3, _ => exact tw_507
  | 4, _ => exact tw_509
  | 5, _ => exact tw_511
  | 6, _ => exact tw_513
  | 7, _ => exact tw_515
  | 8, _ => exact tw_517
  | 9, _ => exact tw_519
  | 10, _ => exact tw_521
  | 11, _ => exact tw_523
  | 12, _ => exact tw_525
  | 13, _ => exact tw_527
  | n + 14, hk => omega
theorem clok_10 : CLok 10 := ⟨RX10, TX10, 14, tyX10, rfl, (fun w hw => by obtain ⟨k, hk, rfl⟩ := List.mem_map.mp hw; exact cluw_10 k (List.mem_range.mp hk)), tyX10_ok, nmX10⟩
theorem cluw_11 : ∀ k, k < 43 → u_lay RX11 TX11 k ∈ tb := by
  intro k hk
  match k, hk with
  | 0, _ => exact tw_1449
  | 1, _ => exact tw_1451
  | 2, _ => exact tw_1453
  | 3, _ => exact tw_1455
  | 4, _ => exact tw_1457
  | 5, _ => exact tw_1459
  | 6, _ => exact tw_1461
  | 7, _ => exact tw_1463
  | 8, _ => exact tw_1465
  | 9, _ => exact tw_1467
  | 10, _ => exact tw_1469
  | 11, _ => exact tw_1471
  | 12, _ => exact tw_1473
  | 13, _ => exact tw_1475
  | 14, _ => exact tw_1477
  | 15, _ => exact tw_1479
  | 16, _ => exact tw_1481
  | 17, _ => exact tw_1483
  | 18, _ => exact tw_1485
  | 19, _ => exact tw_1487
  | 20, _ => exact tw_1489
  | 21, _ => exact tw_1491
  | 22, _ => exact tw_1493
  | 23, _ => exact tw_1495
  | 24, _ => exact tw_1497
  | 25, _ => exact tw_1499
  | 26, _ => exact tw_1501
  | 27, _ => exact tw_1503
  | 28, _ => exact tw_1505
  | 29, _ => exact tw_1507
  | 30, _ => exact tw_1509
  | 31, _ => exact tw_1511
  | 32, _ => exact tw_1513
  | 33, _ => exact tw_1515
  | 34, _ => exact tw_1517
  | 35, _ => exact tw_1519
  | 36, _ => exact tw_1521
  | 37, _ => exact tw_1523
  | 38, _ => exact tw_1525
  | 39, _ => exact tw_1527
  | 40, _ => exact tw_1529
  | 41, _ => exact tw_1531
  | 42, _ => exact tw_1533
  | n + 43, hk => omega
theorem clok_11 : CLok 11 := ⟨RX11, TX11, 43, tyX11, rfl, (fun w hw => by obtain ⟨k, hk, rfl⟩ := List.mem_map.mp hw; exact cluw_11 k (List.mem_range.mp hk)), tyX11_ok, nmX11⟩
theorem kd_0_0 : kdO 0 0 2 := by unfold kdO; decide +kernel
theorem kd_0_1 : kdO 0 1 2 := by unfold kdO; decide +kernel
theorem kd_0_2 : kdO 0 2 2 := by unfold kdO; decide +kernel
theorem kd_0_3 : kdO 0 3 0 := by unfold kdO; decide +kernel
theorem kd_1_0 : kdO 1 0 2 := by unfold kdO; decide +kernel
theorem kd_1_1 : kdO 1 1 2 := by unfold kdO; decide +kernel
theorem kd_1_2 : kdO 1 2 2 := by unfold kdO; decide +kernel
theorem kd_1_3 : kdO 1 3 0 := by unfold kdO; decide +kernel
theorem kd_1_4 : kdO 1 4 0 := by unfold kdO; decide +kernel
theorem kd_2_0 : kdO 2 0 2 := by unfold kdO; decide +kernel
theorem kd_2_1 : kdO 2 1 2 := by unfold kdO; decide +kernel
theorem kd_2_2 : kdO 2 2 2 := by unfold kdO; decide +kernel
theorem kd_2_3 : kdO 2 3 2 := by unfold kdO; decide +kernel
theorem kd_2_4 : kdO 2 4 2 := by unfold kdO; decide +kernel
theorem kd_2_5 : kdO 2 5 2 := by unfold kdO; decide +kernel
theorem kd_2_6 : kdO 2 6 2 := by unfold kdO; decide +kernel
theorem kd_2_7 : kdO 2 7 0 := by unfold kdO; decide +kernel
theorem kd_2_8 : kdO 2 8 0 := by unfold kdO; decide +kernel
theorem kd_2_9 : kdO 2 9 0 := by unfold kdO; decide +kernel
theorem kd_2_10 : kdO 2 10 1 := by unfold kdO; decide +kernel
theorem kd_3_0 : kdO 3 0 2 := by unfold kdO; decide +kernel
theorem kd_3_1 : kdO 3 1 2 := by unfold kdO; decide +kernel
theorem kd_3_2 : kdO 3 2 2 := by unfold kdO; decide +kernel
theorem kd_3_3 : kdO 3 3 2 := by unfold kdO; decide +kernel
theorem kd_3_4 : kdO 3 4 0 := by unfold kdO; decide +kernel
theorem kd_4_0 : kdO 4 0 2 := by unfold kdO; decide +kernel
theorem kd_4_1 : kdO 4 1 2 := by unfold kdO; decide +kernel
theorem kd_4_2 : kdO 4 2 0 := by unfold kdO; decide +kernel
theorem kd_4_3 : kdO 4 3 0 := by unfold kdO; decide +kernel
theorem kd_4_4 : kdO 4 4 0 := by unfold kdO; decide +kernel
theorem kd_4_5 : kdO 4 5 0 := by unfold kdO; decide +kernel
theorem kd_5_0 : kdO 5 0 2 := by unfold kdO; decide +kernel
theorem kd_5_1 : kdO 5 1 2 := by unfold kdO; decide +kernel
theorem kd_5_2 : kdO 5 2 2 := by unfold kdO; decide +kernel
theorem kd_5_3 : kdO 5 3 2 := by unfold kdO; decide +kernel
theorem kd_5_4 : kdO 5 4 1 := by unfold kdO; decide +kernel
theorem kd_5_5 : kdO 5 5 1 := by unfold kdO; decide +kernel
theorem kd_5_6 : kdO 5 6 0 := by unfold kdO; decide +kernel
theorem kd_6_0 : kdO 6 0 2 := by unfold kdO; decide +kernel
theorem kd_6_1 : kdO 6 1 2 := by unfold kdO; decide +kernel
theorem kd_6_2 : kdO 6 2 2 := by unfold kdO; decide +kernel
theorem kd_6_3 : kdO 6 3 2 := by unfold kdO; decide +kernel
theorem kd_6_4 : kdO 6 4 0 := by unfold kdO; decide +kernel
theorem kd_7_0 : kdO 7 0 2 := by unfold kdO; decide +kernel
theorem kd_7_1 : kdO 7 1 0 := by unfold kdO; decide +kernel
theorem kd_7_2 : kdO 7 2 0 := by unfold kdO; decide +kernel
theorem kd_7_3 : kdO 7 3 0 := by unfold kdO; decide +kernel
theorem kd_8_0 : kdO 8 0 2 := by unfold kdO; decide +kernel
theorem kd_8_1 : kdO 8 1 0 := by unfold kdO; decide +kernel
theorem kd_8_2 : kdO 8 2 0 := by unfold kdO; decide +kernel
theorem kd_8_3 : kdO 8 3 0 := by unfold kdO; decide +kernel
theorem kd_8_4 : kdO 8 4 0 := by unfold kdO; decide +kernel
theorem kd_8_5 : kdO 8 5 0 := by unfold kdO; decide +kernel
theorem kd_8_6 : kdO 8 6 0 := by unfold kdO; decide +kernel
theorem kd_9_0 : kdO 9 0 2 := by unfold kdO; decide +kernel
theorem kd_9_1 : kdO 9 1 2 := by unfold kdO; decide +kernel
theorem kd_9_2 : kdO 9 2 2 := by unfold kdO; decide +kernel
theorem kd_9_3 : kdO 9 3 2 := by unfold kdO; decide +kernel
theorem kd_9_4 : kdO 9 4 2 := by unfold kdO; decide +kernel
theorem kd_9_5 : kdO 9 5 2 := by unfold kdO; decide +kernel
theorem kd_9_6 : kdO 9 6 2 := by unfold kdO; decide +kernel
theorem kd_9_7 : kdO 9 7 2 := by unfold kdO; decide +kernel
theorem kd_9_8 : kdO 9 8 2 := by unfold kdO; decide +kernel
theorem kd_9_9 : kdO 9 9 2 := by unfold kdO; decide +kernel
theorem kd_9_10 : kdO 9 10 2 := by unfold kdO; decide +kernel
theorem kd_9_11 : kdO 9 11 2 := by unfold kdO; decide +kernel
theorem kd_9_12 : kdO 9 12 2 := by unfold kdO; decide +kernel
theorem kd_10_0 : kdO 10 0 2 := by unfold kdO; decide +kernel
theorem kd_10_1 : kdO 10 1 0 := by unfold kdO; decide +kernel
theorem kd_10_2 : kdO 10 2 2 := by unfold kdO; decide +kernel
theorem kd_10_3 : kdO 10 3 2 := by unfold kdO; decide +kernel
theorem kd_10_4 : kdO 10 4 2 := by unfold kdO; decide +kernel
theorem kd_10_5 : kdO 10 5 2 := by unfold kdO; decide +kernel
theorem kd_10_6 : kdO 10 6 2 := by unfold kdO; decide +kernel
theorem kd_10_7 : kdO 10 7 2 := by unfold kdO; decide +kernel
theorem kd_10_8 : kdO 10 8 2 := by unfold kdO; decide +kernel
theorem kd_10_9 : kdO 10 9 2 := by unfold kdO; decide +kernel
theorem kd_10_10 : kdO 10 10 2 := by unfold kdO; decide +kernel
theorem kd_10_11 : kdO 10 11 0 := by unfold kdO; decide +kernel
theorem kd_10_12 : kdO 10 12 0 := by unfold kdO; decide +kernel
theorem kd_10_13 : kdO 10 13 0 := by unfold kdO; decide +kernel
theorem kd_11_0 : kdO 11 0 0 := by unfold kdO; decide +kernel
theorem kd_11_1 : kdO 11 1 2 := by unfold kdO; decide +kernel
theorem kd_11_2 : kdO 11 2 0 := by unfold kdO; decide +kernel
theorem kd_11_3 : kdO 11 3 0 := by unfold kdO; decide +kernel
theorem kd_11_4 : kdO 11 4 0 := by unfold kdO; decide +kernel
theorem kd_11_5 : kdO 11 5 0 := by unfold kdO; decide +kernel
theorem kd_11_6 : kdO 11 6 0 := by unfold kdO; decide +kernel
theorem kd_11_7 : kdO 11 7 0 := by unfold kdO; decide +kernel
theorem kd_11_8 : kdO 11 8 0 := by unfold kdO; decide +kernel
theorem kd_11_9 : kdO 11 9 0 := by unfold kdO; decide +kernel
theorem kd_11_10 : kdO 11 10 0 := by unfold kdO; decide +kernel
theorem kd_11_11 : kdO 11 11 0 := by unfold kdO; decide +kernel
theorem kd_11_12 : kdO 11 12 2 := by unfold kdO; decide +kernel
theorem kd_11_13 : kdO 11 13 0 := by unfold kdO; decide +kernel
theorem kd_11_14 : kdO 11 14 0 := by unfold kdO; decide +kernel
theorem kd_11_15 : kdO 11 15 2 := by unfold kdO; decide +kernel
theorem kd_11_16 : kdO 11 16 2 := by unfold kdO; decide +kernel
theorem kd_11_17 : kdO 11 17 2 := by unfold kdO; decide +kernel
theorem kd_11_18 : kdO 11 18 2 := by unfold kdO; decide +kernel
theorem kd_11_19 : kdO 11 19 2 := by unfold kdO; decide +kernel
theorem kd_11_20 : kdO 11 20 0 := by unfold kdO; decide +kernel
theorem kd_11_21 : kdO 11 21 0 := by unfold kdO; decide +kernel
theorem kd_11_22 : kdO 11 22 0 := by unfold kdO; decide +kernel
theorem kd_11_23 : kdO 11 23 2 := by unfold kdO; decide +kernel
theorem kd_11_24 : kdO 11 24 2 := by unfold kdO; decide +kernel
theorem kd_11_25 : kdO 11 25 0 := by unfold kdO; decide +kernel
theorem kd_11_26 : kdO 11 26 2 := by unfold kdO; decide +kernel
theorem kd_11_27 : kdO 11 27 2 := by unfold kdO; decide +kernel
theorem kd_11_28 : kdO 11 28 0 := by unfold kdO; decide +kernel
theorem kd_11_29 : kdO 11 29 0 := by unfold kdO; decide +kernel
theorem kd_11_30 : kdO 11 30 0 := by unfold kdO; decide +kernel
theorem kd_11_31 : kdO 11 31 0 := by unfold kdO; decide +kernel
theorem kd_11_32 : kdO 11 32 2 := by unfold kdO; decide +kernel
theorem kd_11_33 : kdO 11 33 0 := by unfold kdO; decide +kernel
theorem kd_11_34 : kdO 11 34 0 := by unfold kdO; decide +kernel
theorem kd_11_35 : kdO 11 35 0 := by unfold kdO; decide +kernel
theorem kd_11_36 : kdO 11 36 1 := by unfold kdO; decide +kernel
theorem kd_11_37 : kdO 11 37 1 := by unfold kdO; decide +kernel
theorem kd_11_38 : kdO 11 38 1 := by unfold kdO; decide +kernel
theorem kd_11_39 : kdO 11 39 1 := by unfold kdO; decide +kernel
theorem kd_11_40 : kdO 11 40 2 := by unfold kdO; decide +kernel
theorem kd_11_41 : kdO 11 41 0 := by unfold kdO; decide +kernel
theorem kd_11_42 : kdO 11 42 0 := by unfold kdO; decide +kernel
def m_X0_find : MD := (yX0_find, cX0_find, 2, none, 0, fun _ => True, none)
def m_X0_inSome : MD := (yX0_inSome, cX0_inSome, 3, some .int, 0, fun _ => True, none)
def m_X0_inAll : MD := (yX0_inAll, cX0_inAll, 3, some .int, 0, fun _ => True, none)
def m_X0_leftBy : MD := (yX0_leftBy, cX0_leftBy, 4, some .int, 0, fun _ => True, none)
def m_X0_bestToAsk : MD := (yX0_bestToAsk, cX0_bestToAsk, 3, some .int, 0, fun _ => True, none)
def m_X1_clear : MD := (yX1_clear, cX1_clear, 1, none, 1, fun _ => True, none)
def m_X1_keepAct : MD := (yX1_keepAct, cX1_keepAct, 1, none, 1, fun _ => True, none)
def m_X1_takeBackAct : MD := (yX1_takeBackAct, cX1_takeBackAct, 1, none, 1, fun _ => True, none)
def m_X1_keepImage : MD := (yX1_keepImage, cX1_keepImage, 1, some .int, 1, fun _ => True, none)
def m_X1_goBackTo : MD := (yX1_goBackTo, cX1_goBackTo, 2, none, 1, fun _ => True, none)
def m_X2_forget : MD := (yX2_forget, cX2_forget, 1, none, 2, fun _ => True, none)
def m_X2_findBest : MD := (yX2_findBest, cX2_findBest, 3, none, 2, fun _ => True, none)
def m_X2_findFriendly : MD := (yX2_findFriendly, cX2_findFriendly, 1, none, 2, fun _ => True, none)
def m_X2_measure : MD := (yX2_measure, cX2_measure, 3, none, 2, fun _ => True, none)
def m_X2_search : MD := (yX2_search, cX2_search, 4, none, 2, fun _ => True, none)
def m_X2_allAshore : MD := (yX2_allAshore, cX2_allAshore, 2, none, 2, fun _ => True, none)
def m_X2_nextLoad : MD := (yX2_nextLoad, cX2_nextLoad, 4, none, 2, fun _ => True, none)
def m_X2_rankByLoad : MD := (yX2_rankByLoad, cX2_rankByLoad, 3, some .int, 2, fun _ => True, none)
def m_X2_compare : MD := (yX2_compare, cX2_compare, 3, none, 2, fun _ => True, none)
def m_X2_leastTime : MD := (yX2_leastTime, cX2_leastTime, 4, some .int, 2, fun _ => True, none)
def m_X2_fewestFor : MD := (yX2_fewestFor, cX2_fewestFor, 6, some .int, 2, fun _ => True, none)
def m_X2_oneToMove : MD := (yX2_oneToMove, cX2_oneToMove, 6, some .int, 2, fun _ => True, none)
def m_X2_twoToSwap : MD := (yX2_twoToSwap, cX2_twoToSwap, 6, some .int, 2, fun _ => True, none)
def m_X3_add : MD := (yX3_add, cX3_add, 4, none, 3, fun _ => True, none)
def m_X3_find : MD := (yX3_find, cX3_find, 3, some .int, 3, fun _ => True, none)
def m_X4_clear : MD := (yX4_clear, cX4_clear, 2, none, 4, fun _ => True, none)
def m_X4_become : MD := (yX4_become, cX4_become, 2, none, 4, fun _ => True, none)
def m_X4_packed : MD := (yX4_packed, cX4_packed, 4, some .long, 4, fun _ => True, none)
def m_X4_unpack : MD := (yX4_unpack, cX4_unpack, 6, none, 4, fun _ => True, none)
def m_X4_isLit : MD := (yX4_isLit, cX4_isLit, 2, some .boolean, 4, fun _ => True, none)
def m_X4_laneOf : MD := (yX4_laneOf, cX4_laneOf, 2, some .int, 4, fun _ => True, none)
def m_X4_takeLane : MD := (yX4_takeLane, cX4_takeLane, 3, none, 4, fun _ => True, none)
def m_X4_hasRoom : MD := (yX4_hasRoom, cX4_hasRoom, 2, some .boolean, 4, fun _ => True, none)
def m_X4_placeOf : MD := (yX4_placeOf, cX4_placeOf, 3, some .int, 4, fun _ => True, none)
def m_X4_put : MD := (yX4_put, cX4_put, 4, none, 4, fun _ => True, none)
def m_X4_weightOf : MD := (yX4_weightOf, cX4_weightOf, 4, some .int, 4, fun _ => True, none)
def m_X4_powerOf : MD := (yX4_powerOf, cX4_powerOf, 5, some .int, 4, fun _ => True, none)
def m_X4_timeOn : MD := (yX4_timeOn, cX4_timeOn, 3, some .int, 4, fun _ => True, none)
def m_X4_timeBy : MD := (yX4_timeBy, cX4_timeBy, 9, some .int, 4, fun _ => True, none)
def m_X4_timeBehind : MD := (yX4_timeBehind, cX4_timeBehind, 7, some .int, 4, fun _ => True, none)
def m_X4_wholeTime : MD := (yX4_wholeTime, cX4_wholeTime, 2, some .int, 4, fun _ => True, none)
def m_X4_isAhead : MD := (yX4_isAhead, cX4_isAhead, 4, some .boolean, 4, fun _ => True, none)
def m_X4_passedBy : MD := (yX4_passedBy, cX4_passedBy, 5, some .int, 4, fun _ => True, none)
def m_X4_firstNotSo : MD := (yX4_firstNotSo, cX4_firstNotSo, 2, some .int, 4, fun _ => True, none)
def m_X4_friendsTogether : MD := (yX4_friendsTogether, cX4_friendsTogether, 4, some .int, 4, fun _ => True, none)
def m_X4_fits : MD := (yX4_fits, cX4_fits, 2, some .boolean, 4, fun _ => True, none)
def m_X4_movesFrom : MD := (yX4_movesFrom, cX4_movesFrom, 4, some .int, 4, fun _ => True, none)
def m_X5_part : MD := (yX5_part, cX5_part, 2, some .long, 5, fun _ => True, none)
def m_X5_findOdds : MD := (yX5_findOdds, cX5_findOdds, 4, none, 5, fun _ => True, none)
def m_X5_findMean : MD := (yX5_findMean, cX5_findMean, 3, none, 5, fun _ => True, none)
def m_X5_findHopes : MD := (yX5_findHopes, cX5_findHopes, 3, none, 5, fun _ => True, none)
def m_X5_begin : MD := (yX5_begin, cX5_begin, 2, none, 5, fun _ => True, none)
def m_X5_weightOfRain : MD := (yX5_weightOfRain, cX5_weightOfRain, 5, some .long, 5, fun _ => True, none)
def m_X5_reduce : MD := (yX5_reduce, cX5_reduce, 8, none, 5, fun _ => True, none)
def m_X5_racesWon : MD := (yX5_racesWon, cX5_racesWon, 6, some .int, 5, fun _ => True, none)
def m_X5_leastOfRaces : MD := (yX5_leastOfRaces, cX5_leastOfRaces, 5, some .int, 5, fun _ => True, none)
def m_X5_beginRaces : MD := (yX5_beginRaces, cX5_beginRaces, 2, none, 5, fun _ => True, none)
def m_X5_drawRain : MD := (yX5_drawRain, cX5_drawRain, 2, none, 5, fun _ => True, none)
def m_X6_read : MD := (yX6_read, cX6_read, 3, none, 6, fun _ => True, none)
def m_X6_readLine : MD := (yX6_readLine, cX6_readLine, 3, none, 6, fun _ => True, none)
def m_X6_sortOfLine : MD := (yX6_sortOfLine, cX6_sortOfLine, 1, some .int, 6, fun _ => True, none)
def m_X6_faultOfLine : MD := (yX6_faultOfLine, cX6_faultOfLine, 2, some .int, 6, fun _ => True, none)
def m_X6_roomFor : MD := (yX6_roomFor, cX6_roomFor, 1, some .int, 6, fun _ => True, none)
def m_X6_readRegatta : MD := (yX6_readRegatta, cX6_readRegatta, 1, none, 6, fun _ => True, none)
def m_X6_readBend : MD := (yX6_readBend, cX6_readBend, 4, none, 6, fun _ => True, none)
def m_X6_readHouse : MD := (yX6_readHouse, cX6_readHouse, 6, none, 6, fun _ => True, none)
def m_X6_readLodger : MD := (yX6_readLodger, cX6_readLodger, 4, none, 6, fun _ => True, none)
def m_X6_readAboard : MD := (yX6_readAboard, cX6_readAboard, 3, none, 6, fun _ => True, none)
def m_X6_readFriend : MD := (yX6_readFriend, cX6_readFriend, 4, none, 6, fun _ => True, none)
def m_X6_readPrize : MD := (yX6_readPrize, cX6_readPrize, 3, none, 6, fun _ => True, none)
def m_X6_readSaw : MD := (yX6_readSaw, cX6_readSaw, 5, none, 6, fun _ => True, none)
def m_X6_readWord : MD := (yX6_readWord, cX6_readWord, 2, none, 6, fun _ => True, none)
def m_X6_readWhole : MD := (yX6_readWhole, cX6_readWhole, 4, some .int, 6, fun _ => True, none)
def m_X6_readSide : MD := (yX6_readSide, cX6_readSide, 2, some .int, 6, fun _ => True, none)
def m_X6_readKind : MD := (yX6_readKind, cX6_readKind, 2, some .int, 6, fun _ => True, none)
def m_X6_tellName : MD := (yX6_tellName, cX6_tellName, 2, none, 6, fun _ => True, none)
def m_X6_numberOfName : MD := (yX6_numberOfName, cX6_numberOfName, 3, some .int, 6, fun _ => True, none)
def m_X7_take : MD := (yX7_take, cX7_take, 3, none, 7, fun _ => True, none)
def m_X7_begin : MD := (yX7_begin, cX7_begin, 2, none, 7, fun _ => True, none)
def m_X7_settle : MD := (yX7_settle, cX7_settle, 2, none, 7, fun _ => True, none)
def m_X7_isOut : MD := (yX7_isOut, cX7_isOut, 2, some .boolean, 7, fun _ => True, none)
def m_X7_rankOf : MD := (yX7_rankOf, cX7_rankOf, 4, some .int, 7, fun _ => True, none)
def m_X7_isBefore : MD := (yX7_isBefore, cX7_isBefore, 4, some .boolean, 7, fun _ => True, none)
def m_X7_houseAt : MD := (yX7_houseAt, cX7_houseAt, 3, some .int, 7, fun _ => True, none)
def m_X8_begin : MD := (yX8_begin, cX8_begin, 2, none, 8, fun _ => True, none)
def m_X8_blame : MD := (yX8_blame, cX8_blame, 2, none, 8, fun _ => True, none)
def m_X8_step : MD := (yX8_step, cX8_step, 1, none, 8, fun _ => True, none)
def m_X8_sortOf : MD := (yX8_sortOf, cX8_sortOf, 1, some .int, 8, fun _ => True, none)
def m_X8_is : MD := (yX8_is, cX8_is, 3, some .boolean, 8, fun _ => True, none)
def m_X8_value : MD := (yX8_value, cX8_value, 3, some .int, 8, fun _ => True, none)
def m_X8_isSameAs : MD := (yX8_isSameAs, cX8_isSameAs, 4, some .boolean, 8, fun _ => True, none)
def m_X9_clear : MD := (yX9_clear, cX9_clear, 2, none, 9, fun _ => True, none)
def m_X9_become : MD := (yX9_become, cX9_become, 2, none, 9, fun _ => True, none)
def m_X9_friendsOf : MD := (yX9_friendsOf, cX9_friendsOf, 4, some .int, 9, fun _ => True, none)
def m_X9_storeysLost : MD := (yX9_storeysLost, cX9_storeysLost, 2, some .int, 9, fun _ => True, none)
def m_X9_prizeFor : MD := (yX9_prizeFor, cX9_prizeFor, 2, some .int, 9, fun _ => True, none)
def m_X9_countOfLoads : MD := (yX9_countOfLoads, cX9_countOfLoads, 3, some .int, 9, fun _ => True, none)
def m_X10_feed : MD := (yX10_feed, cX10_feed, 6, some .int, 10, fun _ => True, none)
def m_X10_tapeNumber : MD := (yX10_tapeNumber, cX10_tapeNumber, 3, none, 10, fun _ => True, none)
def m_X10_regatta : MD := (yX10_regatta, cX10_regatta, 2, some .int, 10, fun _ => True, none)
def m_X10_fault : MD := (yX10_fault, cX10_fault, 1, some .int, 10, fun _ => True, none)
def m_X10_where : MD := (yX10_where, cX10_where, 1, some .int, 10, fun _ => True, none)
def m_X10_house : MD := (yX10_house, cX10_house, 3, some .int, 10, fun _ => True, none)
def m_X10_lodger : MD := (yX10_lodger, cX10_lodger, 3, some .int, 10, fun _ => True, none)
def m_X10_bend : MD := (yX10_bend, cX10_bend, 3, some .int, 10, fun _ => True, none)
def m_X10_time : MD := (yX10_time, cX10_time, 3, some .int, 10, fun _ => True, none)
def m_X10_soFar : MD := (yX10_soFar, cX10_soFar, 3, some .int, 10, fun _ => True, none)
def m_X10_total : MD := (yX10_total, cX10_total, 2, some .int, 10, fun _ => True, none)
def m_X10_loses : MD := (yX10_loses, cX10_loses, 2, some .int, 10, fun _ => True, none)
def m_X10_rank : MD := (yX10_rank, cX10_rank, 2, some .int, 10, fun _ => True, none)
def m_X10_ranked : MD := (yX10_ranked, cX10_ranked, 2, some .int, 10, fun _ => True, none)
def m_X10_out : MD := (yX10_out, cX10_out, 2, some .int, 10, fun _ => True, none)
def m_X10_prize : MD := (yX10_prize, cX10_prize, 2, some .int, 10, fun _ => True, none)
def m_X10_ahead : MD := (yX10_ahead, cX10_ahead, 4, some .int, 10, fun _ => True, none)
def m_X10_leader : MD := (yX10_leader, cX10_leader, 4, some .int, 10, fun _ => True, none)
def m_X10_full : MD := (yX10_full, cX10_full, 3, some .int, 10, fun _ => True, none)
def m_X10_passes : MD := (yX10_passes, cX10_passes, 4, some .int, 10, fun _ => True, none)
def m_X10_fastest : MD := (yX10_fastest, cX10_fastest, 4, some .int, 10, fun _ => True, none)
def m_X10_storey : MD := (yX10_storey, cX10_storey, 2, some .int, 10, fun _ => True, none)
def m_X10_together : MD := (yX10_together, cX10_together, 1, some .int, 10, fun _ => True, none)
def m_X10_bestRank : MD := (yX10_bestRank, cX10_bestRank, 2, some .int, 10, fun _ => True, none)
def m_X10_loadOf : MD := (yX10_loadOf, cX10_loadOf, 3, some .int, 10, fun _ => True, none)
def m_X10_loadMoves : MD := (yX10_loadMoves, cX10_loadMoves, 2, some .int, 10, fun _ => True, none)
def m_X10_leastTotal : MD := (yX10_leastTotal, cX10_leastTotal, 2, some .int, 10, fun _ => True, none)
def m_X10_friendly : MD := (yX10_friendly, cX10_friendly, 1, some .int, 10, fun _ => True, none)
def m_X10_friendlyOf : MD := (yX10_friendlyOf, cX10_friendlyOf, 2, some .int, 10, fun _ => True, none)
def m_X10_leastFor : MD := (yX10_leastFor, cX10_leastFor, 3, some .int, 10, fun _ => True, none)
def m_X10_toMove : MD := (yX10_toMove, cX10_toMove, 2, some .int, 10, fun _ => True, none)
def m_X10_waterFor : MD := (yX10_waterFor, cX10_waterFor, 4, some .int, 10, fun _ => True, none)
def m_X10_bestSwap : MD := (yX10_bestSwap, cX10_bestSwap, 2, some .int, 10, fun _ => True, none)
def m_X10_bestLane : MD := (yX10_bestLane, cX10_bestLane, 3, some .int, 10, fun _ => True, none)
def m_X10_fires : MD := (yX10_fires, cX10_fires, 1, some .int, 10, fun _ => True, none)
def m_X10_fireAt : MD := (yX10_fireAt, cX10_fireAt, 2, some .int, 10, fun _ => True, none)
def m_X10_could : MD := (yX10_could, cX10_could, 1, some .int, 10, fun _ => True, none)
def m_X10_surely : MD := (yX10_surely, cX10_surely, 1, some .int, 10, fun _ => True, none)
def m_X10_ask : MD := (yX10_ask, cX10_ask, 1, some .int, 10, fun _ => True, none)
def m_X10_askLeaves : MD := (yX10_askLeaves, cX10_askLeaves, 1, some .int, 10, fun _ => True, none)
def m_X10_judge : MD := (yX10_judge, cX10_judge, 1, some .int, 10, fun _ => True, none)
def m_X10_odds : MD := (yX10_odds, cX10_odds, 4, some .long, 10, fun _ => True, none)
def m_X10_mean : MD := (yX10_mean, cX10_mean, 3, some .long, 10, fun _ => True, none)
def m_X10_hopes : MD := (yX10_hopes, cX10_hopes, 3, some .long, 10, fun _ => True, none)
def m_X10_wins : MD := (yX10_wins, cX10_wins, 4, some .int, 10, fun _ => True, none)
def m_X10_record : MD := (yX10_record, cX10_record, 3, some .int, 10, fun _ => True, none)
def m_X10_weir : MD := (yX10_weir, cX10_weir, 6, some .int, 10, fun _ => True, none)
def m_X10_rests : MD := (yX10_rests, cX10_rests, 5, some .int, 10, fun _ => True, none)
def m_X10_rest : MD := (yX10_rest, cX10_rest, 4, some .int, 10, fun _ => True, none)
def m_X10_whyNoWeir : MD := (yX10_whyNoWeir, cX10_whyNoWeir, 2, some .int, 10, fun _ => True, none)
def m_X10_payoff : MD := (yX10_payoff, cX10_payoff, 3, some .int, 10, fun _ => True, none)
def m_X10_isRest : MD := (yX10_isRest, cX10_isRest, 3, some .boolean, 10, fun _ => True, none)
def m_X10_board : MD := (yX10_board, cX10_board, 3, some .int, 10, fun _ => True, none)
def m_X10_ashore : MD := (yX10_ashore, cX10_ashore, 2, some .boolean, 10, fun _ => True, none)
def m_X10_light : MD := (yX10_light, cX10_light, 3, some .boolean, 10, fun _ => True, none)
def m_X10_cross : MD := (yX10_cross, cX10_cross, 2, some .int, 10, fun _ => True, none)
def m_X10_raise : MD := (yX10_raise, cX10_raise, 2, some .boolean, 10, fun _ => True, none)
def m_X10_undo : MD := (yX10_undo, cX10_undo, 1, some .boolean, 10, fun _ => True, none)
def m_X10_image : MD := (yX10_image, cX10_image, 1, some .int, 10, fun _ => True, none)
def m_X10_back : MD := (yX10_back, cX10_back, 2, some .boolean, 10, fun _ => True, none)
def m_X10_size : MD := (yX10_size, cX10_size, 2, some .int, 10, fun _ => True, none)
def m_X10_trouble : MD := (yX10_trouble, cX10_trouble, 1, some .int, 10, fun _ => True, none)
def m_X10_granted : MD := (yX10_granted, cX10_granted, 2, some .int, 10, fun _ => True, none)
def m_X10_refused : MD := (yX10_refused, cX10_refused, 2, some .int, 10, fun _ => True, none)
def m_X10_done : MD := (yX10_done, cX10_done, 2, some .boolean, 10, fun _ => True, none)
def m_X10_isTold : MD := (yX10_isTold, cX10_isTold, 1, some .boolean, 10, fun _ => True, none)
def m_X10_isHouse : MD := (yX10_isHouse, cX10_isHouse, 2, some .boolean, 10, fun _ => True, none)
def m_X10_isLodger : MD := (yX10_isLodger, cX10_isLodger, 2, some .boolean, 10, fun _ => True, none)
def m_X10_isBend : MD := (yX10_isBend, cX10_isBend, 2, some .boolean, 10, fun _ => True, none)
def m_X10_isWithin : MD := (yX10_isWithin, cX10_isWithin, 3, some .boolean, 10, fun _ => True, none)
def m_X11_thrown : MD := (yX11_thrown, cX11_thrown, 1, some .int, 11, fun _ => True, none)
def m_X11_good : MD := (yX11_good, cX11_good, 1, none, 11, fun _ => True, none)
def m_X11_no : MD := (yX11_no, cX11_no, 2, some .int, 11, fun _ => True, none)
def m_X11_isNot : MD := (yX11_isNot, cX11_isNot, 2, some .boolean, 11, fun _ => True, none)
def m_X11_in : MD := (yX11_in, cX11_in, 3, some .boolean, 11, fun _ => True, none)
def m_X11_hasBit : MD := (yX11_hasBit, cX11_hasBit, 2, some .boolean, 11, fun _ => True, none)
def m_X11_ones : MD := (yX11_ones, cX11_ones, 3, some .int, 11, fun _ => True, none)
def m_X11_copy : MD := (yX11_copy, cX11_copy, 6, none, 11, fun _ => True, none)
def m_X11_lowest : MD := (yX11_lowest, cX11_lowest, 11, some .long, 11, fun _ => True, none)
def m_X11_feed : MD := (yX11_feed, cX11_feed, 8, some .int, 11, fun _ => True, none)
def m_X11_see : MD := (yX11_see, cX11_see, 2, some .int, 11, fun _ => True, none)
def m_X11_isSmall : MD := (yX11_isSmall, cX11_isSmall, 1, some .boolean, 11, fun _ => True, none)
def m_X11_isDigit : MD := (yX11_isDigit, cX11_isDigit, 1, some .boolean, 11, fun _ => True, none)
def m_X11_next : MD := (yX11_next, cX11_next, 4, none, 11, fun _ => True, none)
def m_X11_wrong : MD := (yX11_wrong, cX11_wrong, 3, none, 11, fun _ => True, none)
def m_X11_isWord : MD := (yX11_isWord, cX11_isWord, 4, some .boolean, 11, fun _ => True, none)
def m_X11_takesWord : MD := (yX11_takesWord, cX11_takesWord, 2, some .boolean, 11, fun _ => True, none)
def m_X11_must : MD := (yX11_must, cX11_must, 2, none, 11, fun _ => True, none)
def m_X11_mustName : MD := (yX11_mustName, cX11_mustName, 1, none, 11, fun _ => True, none)
def m_X11_find : MD := (yX11_find, cX11_find, 4, some .int, 11, fun _ => True, none)
def m_X11_newName : MD := (yX11_newName, cX11_newName, 3, none, 11, fun _ => True, none)
def m_X11_named : MD := (yX11_named, cX11_named, 4, some .int, 11, fun _ => True, none)
def m_X11_houseHere : MD := (yX11_houseHere, cX11_houseHere, 1, some .int, 11, fun _ => True, none)
def m_X11_lodgerHere : MD := (yX11_lodgerHere, cX11_lodgerHere, 1, some .int, 11, fun _ => True, none)
def m_X11_pass : MD := (yX11_pass, cX11_pass, 1, none, 11, fun _ => True, none)
def m_X11_number : MD := (yX11_number, cX11_number, 4, some .int, 11, fun _ => True, none)
def m_X11_after : MD := (yX11_after, cX11_after, 4, some .int, 11, fun _ => True, none)
def m_X11_side : MD := (yX11_side, cX11_side, 1, some .int, 11, fun _ => True, none)
def m_X11_regatta : MD := (yX11_regatta, cX11_regatta, 3, some .int, 11, fun _ => True, none)
def m_X11_begins : MD := (yX11_begins, cX11_begins, 3, some .boolean, 11, fun _ => True, none)
def m_X11_readLine : MD := (yX11_readLine, cX11_readLine, 1, none, 11, fun _ => True, none)
def m_X11_regattaLine : MD := (yX11_regattaLine, cX11_regattaLine, 2, none, 11, fun _ => True, none)
def m_X11_bendLine : MD := (yX11_bendLine, cX11_bendLine, 2, none, 11, fun _ => True, none)
def m_X11_houseLine : MD := (yX11_houseLine, cX11_houseLine, 3, none, 11, fun _ => True, none)
def m_X11_lodgerLine : MD := (yX11_lodgerLine, cX11_lodgerLine, 2, none, 11, fun _ => True, none)
def m_X11_aboardLine : MD := (yX11_aboardLine, cX11_aboardLine, 5, none, 11, fun _ => True, none)
def m_X11_friendLine : MD := (yX11_friendLine, cX11_friendLine, 3, none, 11, fun _ => True, none)
def m_X11_prizeLine : MD := (yX11_prizeLine, cX11_prizeLine, 2, none, 11, fun _ => True, none)
def m_X11_sawLine : MD := (yX11_sawLine, cX11_sawLine, 5, none, 11, fun _ => True, none)
def m_X11_fault : MD := (yX11_fault, cX11_fault, 1, some .int, 11, fun _ => True, none)
def m_X11_where : MD := (yX11_where, cX11_where, 1, some .int, 11, fun _ => True, none)
def m_X11_isHouse : MD := (yX11_isHouse, cX11_isHouse, 2, some .boolean, 11, fun _ => True, none)
def m_X11_isLodger : MD := (yX11_isLodger, cX11_isLodger, 2, some .boolean, 11, fun _ => True, none)
def m_X11_isBend : MD := (yX11_isBend, cX11_isBend, 2, some .boolean, 11, fun _ => True, none)
def m_X11_kindOf : MD := (yX11_kindOf, cX11_kindOf, 2, some .int, 11, fun _ => True, none)
def m_X11_storeysOf : MD := (yX11_storeysOf, cX11_storeysOf, 2, some .int, 11, fun _ => True, none)
def m_X11_aboardOf : MD := (yX11_aboardOf, cX11_aboardOf, 5, some .int, 11, fun _ => True, none)
def m_X11_weightOf : MD := (yX11_weightOf, cX11_weightOf, 5, some .int, 11, fun _ => True, none)
def m_X11_powerOf : MD := (yX11_powerOf, cX11_powerOf, 5, some .int, 11, fun _ => True, none)
def m_X11_timeOf : MD := (yX11_timeOf, cX11_timeOf, 8, some .int, 11, fun _ => True, none)
def m_X11_bridgeOf : MD := (yX11_bridgeOf, cX11_bridgeOf, 3, some .int, 11, fun _ => True, none)
def m_X11_soFarOf : MD := (yX11_soFarOf, cX11_soFarOf, 6, some .int, 11, fun _ => True, none)
def m_X11_totalOf : MD := (yX11_totalOf, cX11_totalOf, 3, some .int, 11, fun _ => True, none)
def m_X11_layRanks : MD := (yX11_layRanks, cX11_layRanks, 6, none, 11, fun _ => True, none)
def m_X11_isBetter : MD := (yX11_isBetter, cX11_isBetter, 3, some .boolean, 11, fun _ => True, none)
def m_X11_prizeFor : MD := (yX11_prizeFor, cX11_prizeFor, 2, some .int, 11, fun _ => True, none)
def m_X11_isAhead : MD := (yX11_isAhead, cX11_isAhead, 5, some .boolean, 11, fun _ => True, none)
def m_X11_togetherOf : MD := (yX11_togetherOf, cX11_togetherOf, 5, some .int, 11, fun _ => True, none)
def m_X11_dry : MD := (yX11_dry, cX11_dry, 1, none, 11, fun _ => True, none)
def m_X11_house : MD := (yX11_house, cX11_house, 3, some .int, 11, fun _ => True, none)
def m_X11_lodger : MD := (yX11_lodger, cX11_lodger, 3, some .int, 11, fun _ => True, none)
def m_X11_bend : MD := (yX11_bend, cX11_bend, 3, some .int, 11, fun _ => True, none)
def m_X11_time : MD := (yX11_time, cX11_time, 3, some .int, 11, fun _ => True, none)
def m_X11_soFar : MD := (yX11_soFar, cX11_soFar, 3, some .int, 11, fun _ => True, none)
def m_X11_total : MD := (yX11_total, cX11_total, 2, some .int, 11, fun _ => True, none)
def m_X11_loses : MD := (yX11_loses, cX11_loses, 3, some .int, 11, fun _ => True, none)
def m_X11_rank : MD := (yX11_rank, cX11_rank, 2, some .int, 11, fun _ => True, none)
def m_X11_ranked : MD := (yX11_ranked, cX11_ranked, 3, some .int, 11, fun _ => True, none)
def m_X11_out : MD := (yX11_out, cX11_out, 2, some .int, 11, fun _ => True, none)
def m_X11_prize : MD := (yX11_prize, cX11_prize, 2, some .int, 11, fun _ => True, none)
def m_X11_areTwo : MD := (yX11_areTwo, cX11_areTwo, 3, some .boolean, 11, fun _ => True, none)
def m_X11_ahead : MD := (yX11_ahead, cX11_ahead, 4, some .int, 11, fun _ => True, none)
def m_X11_passes : MD := (yX11_passes, cX11_passes, 5, some .int, 11, fun _ => True, none)
def m_X11_fastest : MD := (yX11_fastest, cX11_fastest, 4, some .int, 11, fun _ => True, none)
def m_X11_leader : MD := (yX11_leader, cX11_leader, 4, some .int, 11, fun _ => True, none)
def m_X11_storey : MD := (yX11_storey, cX11_storey, 2, some .int, 11, fun _ => True, none)
def m_X11_together : MD := (yX11_together, cX11_together, 1, some .int, 11, fun _ => True, none)
def m_X11_full : MD := (yX11_full, cX11_full, 3, some .int, 11, fun _ => True, none)
def m_X11_keyOf : MD := (yX11_keyOf, cX11_keyOf, 1, some .int, 11, fun _ => True, none)
def m_X11_tryLoads : MD := (yX11_tryLoads, cX11_tryLoads, 4, none, 11, fun _ => True, none)
def m_X11_aboardAhead : MD := (yX11_aboardAhead, cX11_aboardAhead, 5, some .int, 11, fun _ => True, none)
def m_X11_seekLoads : MD := (yX11_seekLoads, cX11_seekLoads, 2, none, 11, fun _ => True, none)
def m_X11_bestAt : MD := (yX11_bestAt, cX11_bestAt, 2, some .int, 11, fun _ => True, none)
def m_X11_bestRank : MD := (yX11_bestRank, cX11_bestRank, 2, some .int, 11, fun _ => True, none)
def m_X11_loadOf : MD := (yX11_loadOf, cX11_loadOf, 3, some .int, 11, fun _ => True, none)
def m_X11_loadMoves : MD := (yX11_loadMoves, cX11_loadMoves, 2, some .int, 11, fun _ => True, none)
def m_X11_leastTotal : MD := (yX11_leastTotal, cX11_leastTotal, 2, some .int, 11, fun _ => True, none)
def m_X11_friendly : MD := (yX11_friendly, cX11_friendly, 1, some .int, 11, fun _ => True, none)
def m_X11_friendlyOf : MD := (yX11_friendlyOf, cX11_friendlyOf, 2, some .int, 11, fun _ => True, none)
def m_X11_why : MD := (yX11_why, cX11_why, 3, some .int, 11, fun _ => True, none)
def m_X11_leastFor : MD := (yX11_leastFor, cX11_leastFor, 7, some .int, 11, fun _ => True, none)
def m_X11_toMove : MD := (yX11_toMove, cX11_toMove, 6, some .int, 11, fun _ => True, none)
def m_X11_bestSwap : MD := (yX11_bestSwap, cX11_bestSwap, 6, some .int, 11, fun _ => True, none)
def m_X11_bestLane : MD := (yX11_bestLane, cX11_bestLane, 3, some .int, 11, fun _ => True, none)
def m_X11_waterFor : MD := (yX11_waterFor, cX11_waterFor, 5, some .int, 11, fun _ => True, none)
def m_X11_wrongSeen : MD := (yX11_wrongSeen, cX11_wrongSeen, 3, some .int, 11, fun _ => True, none)
def m_X11_seekFires : MD := (yX11_seekFires, cX11_seekFires, 5, some .int, 11, fun _ => True, none)
def m_X11_fires : MD := (yX11_fires, cX11_fires, 1, some .int, 11, fun _ => True, none)
def m_X11_fireAt : MD := (yX11_fireAt, cX11_fireAt, 3, some .int, 11, fun _ => True, none)
def m_X11_could : MD := (yX11_could, cX11_could, 1, some .int, 11, fun _ => True, none)
def m_X11_surely : MD := (yX11_surely, cX11_surely, 1, some .int, 11, fun _ => True, none)
def m_X11_leavesOf : MD := (yX11_leavesOf, cX11_leavesOf, 2, some .int, 11, fun _ => True, none)
def m_X11_askOf : MD := (yX11_askOf, cX11_askOf, 3, some .int, 11, fun _ => True, none)
def m_X11_ask : MD := (yX11_ask, cX11_ask, 1, some .int, 11, fun _ => True, none)
def m_X11_askLeaves : MD := (yX11_askLeaves, cX11_askLeaves, 2, some .int, 11, fun _ => True, none)
def m_X11_judge : MD := (yX11_judge, cX11_judge, 1, some .int, 11, fun _ => True, none)
def m_X11_tryRain : MD := (yX11_tryRain, cX11_tryRain, 7, none, 11, fun _ => True, none)
def m_X11_odds : MD := (yX11_odds, cX11_odds, 4, some .long, 11, fun _ => True, none)
def m_X11_mean : MD := (yX11_mean, cX11_mean, 3, some .long, 11, fun _ => True, none)
def m_X11_hopes : MD := (yX11_hopes, cX11_hopes, 3, some .long, 11, fun _ => True, none)
def m_X11_racesWhy : MD := (yX11_racesWhy, cX11_racesWhy, 8, some .int, 11, fun _ => True, none)
def m_X11_wins : MD := (yX11_wins, cX11_wins, 5, some .int, 11, fun _ => True, none)
def m_X11_record : MD := (yX11_record, cX11_record, 4, some .int, 11, fun _ => True, none)
def m_X11_weirOf : MD := (yX11_weirOf, cX11_weirOf, 3, some .int, 11, fun _ => True, none)
def m_X11_weir : MD := (yX11_weir, cX11_weir, 6, some .int, 11, fun _ => True, none)
def m_X11_isRest : MD := (yX11_isRest, cX11_isRest, 3, some .boolean, 11, fun _ => True, none)
def m_X11_seekRests : MD := (yX11_seekRests, cX11_seekRests, 4, some .int, 11, fun _ => True, none)
def m_X11_rests : MD := (yX11_rests, cX11_rests, 3, some .int, 11, fun _ => True, none)
def m_X11_rest : MD := (yX11_rest, cX11_rest, 3, some .int, 11, fun _ => True, none)
def m_X11_note : MD := (yX11_note, cX11_note, 2, none, 11, fun _ => True, none)
def m_X11_board : MD := (yX11_board, cX11_board, 3, some .int, 11, fun _ => True, none)
def m_X11_ashore : MD := (yX11_ashore, cX11_ashore, 2, some .boolean, 11, fun _ => True, none)
def m_X11_light : MD := (yX11_light, cX11_light, 3, some .boolean, 11, fun _ => True, none)
def m_X11_cross : MD := (yX11_cross, cX11_cross, 2, some .int, 11, fun _ => True, none)
def m_X11_raise : MD := (yX11_raise, cX11_raise, 3, some .boolean, 11, fun _ => True, none)
def m_X11_undo : MD := (yX11_undo, cX11_undo, 1, some .boolean, 11, fun _ => True, none)
def m_X11_image : MD := (yX11_image, cX11_image, 1, some .int, 11, fun _ => True, none)
def m_X11_back : MD := (yX11_back, cX11_back, 2, some .boolean, 11, fun _ => True, none)
def m_X11_led : MD := (yX11_led, cX11_led, 4, some .int, 11, fun _ => True, none)
def m_X11_size : MD := (yX11_size, cX11_size, 2, some .int, 11, fun _ => True, none)
def m_X11_trouble : MD := (yX11_trouble, cX11_trouble, 1, some .int, 11, fun _ => True, none)
def m_J6_bitCount_0f7a4 : MD := (yJ6_bitCount_0f7a4, cJ6_bitCount_0f7a4, 1, some .int, 99, fun _ => True, none)
def m_J0_length_8abf5 : MD := (yJ0_length_8abf5, cJ0_length_8abf5, 1, some .int, 99, fun _ => True, none)
def m_J0_charAt_5068e : MD := (yJ0_charAt_5068e, cJ0_charAt_5068e, 2, some .char, 99, fun _ => True, none)
def m_J0_coder_7d493 : MD := (yJ0_coder_7d493, cJ0_coder_7d493, 1, some .byte, 99, fun _ => True, none)
def m_J0_isLatin1_aae02 : MD := (yJ0_isLatin1_aae02, cJ0_isLatin1_aae02, 1, some .boolean, 99, fun _ => True, none)
def m_J0_checkIndex_df160 : MD := (yJ0_checkIndex_df160, cJ0_checkIndex_df160, 2, none, 99, fun _ => True, none)
def m_J1_charAt_3b067 : MD := (yJ1_charAt_3b067, cJ1_charAt_3b067, 2, some .char, 99, fun _ => True, none)
def m_J3_checkIndex_8e157 : MD := (yJ3_checkIndex_8e157, cJ3_checkIndex_8e157, 3, some .int, 99, fun _ => True, none)
def m_X10_led (X : Mem → Prop) : MD := (yX10_led, cX10_led, 4, some .int, 10, fun _ => True, some (47, X))
def m_L_law (L : Nat) (xs : Nat → Int32) : MD := (yL_law, cL_law, 7, some .boolean, 99, fun G => gL G = L ∧ gxs G = xs, none)
theorem k_X0_find : MOkV m_X0_find 0 := ⟨⟨tw_1111, tw_111, ⟨by decide +kernel, by decide +kernel, by decide +kernel⟩, by decide +kernel, by decide, fun _ => trivial, rfl⟩, tw_1109, tw_1110⟩
theorem k_X0_inSome : MOkV m_X0_inSome 0 := ⟨⟨tw_1128, tw_111, ⟨by decide +kernel, by decide +kernel, by decide +kernel⟩, by decide +kernel, by decide, fun _ => trivial, rfl⟩, tw_1126, tw_1127⟩
theorem k_X0_inAll : MOkV m_X0_inAll 0 := ⟨⟨tw_1136, tw_111, ⟨by decide +kernel, by decide +kernel, by decide +kernel⟩, by decide +kernel, by decide, fun _ => trivial, rfl⟩, tw_1134, tw_1135⟩
theorem k_X0_leftBy : MOkV m_X0_leftBy 1 := ⟨⟨tw_1148, tw_111, ⟨by decide +kernel, by decide +kernel, by decide +kernel⟩, by decide +kernel, by decide, fun _ => trivial, rfl⟩, tw_1146, tw_1147⟩
theorem k_X0_bestToAsk : MOkV m_X0_bestToAsk 0 := ⟨⟨tw_1144, tw_111, ⟨by decide +kernel, by decide +kernel, by decide +kernel⟩, by decide +kernel, by decide, fun _ => trivial, rfl⟩, tw_1142, tw_1143⟩
theorem k_X1_clear : MOkV m_X1_clear 0 := ⟨⟨tw_781, tw_113, ⟨by decide +kernel, by decide +kernel, by decide +kernel⟩, by decide +kernel, by decide, fun _ => trivial, rfl⟩, tw_779, tw_780⟩
theorem k_X1_keepAct : MOkV m_X1_keepAct 0 := ⟨⟨tw_1264, tw_113, ⟨by decide +kernel, by decide +kernel, by decide +kernel⟩, by decide +kernel, by decide, fun _ => trivial, rfl⟩, tw_1262, tw_1263⟩
theorem k_X1_takeBackAct : MOkV m_X1_takeBackAct 0 := ⟨⟨tw_1296, tw_113, ⟨by decide +kernel, by decide +kernel, by decide +kernel⟩, by decide +kernel, by decide, fun _ => trivial, rfl⟩, tw_1294, tw_1295⟩
theorem k_X1_keepImage : MOkV m_X1_keepImage 0 := ⟨⟨tw_1310, tw_113, ⟨by decide +kernel, by decide +kernel, by decide +kernel⟩, by decide +kernel, by decide, fun _ => trivial, rfl⟩, tw_1308, tw_1309⟩
theorem k_X1_goBackTo : MOkV m_X1_goBackTo 1 := ⟨⟨tw_1318, tw_113, ⟨by decide +kernel, by decide +kernel, by decide +kernel⟩, by decide +kernel, by decide, fun _ => trivial, rfl⟩, tw_1316, tw_1317⟩
theorem k_X2_forget : MOkV m_X2_forget 0 := ⟨⟨tw_785, tw_110, ⟨by decide +kernel, by decide +kernel, by decide +kernel⟩, by decide +kernel, by decide, fun _ => trivial, rfl⟩, tw_783, tw_784⟩
theorem k_X2_findBest : MOkV m_X2_findBest 1 := ⟨⟨tw_986, tw_110, ⟨by decide +kernel, by decide +kernel, by decide +kernel⟩, by decide +kernel, by decide, fun _ => trivial, rfl⟩, tw_984, tw_985⟩
theorem k_X2_findFriendly : MOkV m_X2_findFriendly 0 := ⟨⟨tw_1060, tw_110, ⟨by decide +kernel, by decide +kernel, by decide +kernel⟩, by decide +kernel, by decide, fun _ => trivial, rfl⟩, tw_1058, tw_1059⟩
theorem k_X2_measure : MOkV m_X2_measure 1 := ⟨⟨tw_995, tw_110, ⟨by decide +kernel, by decide +kernel, by decide +kernel⟩, by decide +kernel, by decide, fun _ => trivial, rfl⟩, tw_994, tw_26⟩
theorem k_X2_search : MOkV m_X2_search 1 := ⟨⟨tw_1001, tw_110, ⟨by decide +kernel, by decide +kernel, by decide +kernel⟩, by decide +kernel, by decide, fun _ => trivial, rfl⟩, tw_1000, tw_27⟩
theorem k_X2_allAshore : MOkV m_X2_allAshore 0 := ⟨⟨tw_1006, tw_110, ⟨by decide +kernel, by decide +kernel, by decide +kernel⟩, by decide +kernel, by decide, fun _ => trivial, rfl⟩, tw_1005, tw_28⟩
theorem k_X2_nextLoad : MOkV m_X2_nextLoad 0 := ⟨⟨tw_1034, tw_110, ⟨by decide +kernel, by decide +kernel, by decide +kernel⟩, by decide +kernel, by decide, fun _ => trivial, rfl⟩, tw_1033, tw_31⟩
theorem k_X2_rankByLoad : MOkV m_X2_rankByLoad 1 := ⟨⟨tw_1019, tw_110, ⟨by decide +kernel, by decide +kernel, by decide +kernel⟩, by decide +kernel, by decide, fun _ => trivial, rfl⟩, tw_1018, tw_29⟩
theorem k_X2_compare : MOkV m_X2_compare 1 := ⟨⟨tw_1025, tw_110, ⟨by decide +kernel, by decide +kernel, by decide +kernel⟩, by decide +kernel, by decide, fun _ => trivial, rfl⟩, tw_1024, tw_30⟩
theorem k_X2_leastTime : MOkV m_X2_leastTime 1 := ⟨⟨tw_1050, tw_110, ⟨by decide +kernel, by decide +kernel, by decide +kernel⟩, by decide +kernel, by decide, fun _ => trivial, rfl⟩, tw_1048, tw_1049⟩
theorem k_X2_fewestFor : MOkV m_X2_fewestFor 2 := ⟨⟨tw_1075, tw_110, ⟨by decide +kernel, by decide +kernel, by decide +kernel⟩, by decide +kernel, by decide, fun _ => trivial, rfl⟩, tw_1073, tw_1074⟩
theorem k_X2_oneToMove : MOkV m_X2_oneToMove 1 := ⟨⟨tw_1083, tw_110, ⟨by decide +kernel, by decide +kernel, by decide +kernel⟩, by decide +kernel, by decide, fun _ => trivial, rfl⟩, tw_1081, tw_1082⟩
theorem k_X2_twoToSwap : MOkV m_X2_twoToSwap 1 := ⟨⟨tw_1096, tw_110, ⟨by decide +kernel, by decide +kernel, by decide +kernel⟩, by decide +kernel, by decide, fun _ => trivial, rfl⟩, tw_1094, tw_1095⟩
theorem k_X3_add : MOkV m_X3_add 3 := ⟨⟨tw_692, tw_108, ⟨by decide +kernel, by decide +kernel, by decide +kernel⟩, by decide +kernel, by decide, fun _ => trivial, rfl⟩, tw_690, tw_691⟩
theorem k_X3_find : MOkV m_X3_find 1 := ⟨⟨tw_684, tw_108, ⟨by decide +kernel, by decide +kernel, by decide +kernel⟩, by decide +kernel, by decide, fun _ => trivial, rfl⟩, tw_682, tw_683⟩
theorem k_X4_clear : MOkV m_X4_clear 0 := ⟨⟨tw_557, tw_105, ⟨by decide +kernel, by decide +kernel, by decide +kernel⟩, by decide +kernel, by decide, fun _ => trivial, rfl⟩, tw_555, tw_556⟩
theorem k_X4_become : MOkV m_X4_become 1 := ⟨⟨tw_776, tw_105, ⟨by decide +kernel, by decide +kernel, by decide +kernel⟩, by decide +kernel, by decide, fun _ => trivial, rfl⟩, tw_774, tw_775⟩
theorem k_X4_packed : MOkV m_X4_packed 0 := ⟨⟨tw_990, tw_105, ⟨by decide +kernel, by decide +kernel, by decide +kernel⟩, by decide +kernel, by decide, fun _ => trivial, rfl⟩, tw_988, tw_989⟩
theorem k_X4_unpack : MOkV m_X4_unpack 1 := ⟨⟨tw_1300, tw_105, ⟨by decide +kernel, by decide +kernel, by decide +kernel⟩, by decide +kernel, by decide, fun _ => trivial, rfl⟩, tw_1298, tw_1299⟩
theorem k_X4_isLit : MOkV m_X4_isLit 1 := ⟨⟨tw_821, tw_105, ⟨by decide +kernel, by decide +kernel, by decide +kernel⟩, by decide +kernel, by decide, fun _ => trivial, rfl⟩, tw_819, tw_820⟩
theorem k_X4_laneOf : MOkV m_X4_laneOf 1 := ⟨⟨tw_809, tw_105, ⟨by decide +kernel, by decide +kernel, by decide +kernel⟩, by decide +kernel, by decide, fun _ => trivial, rfl⟩, tw_807, tw_808⟩
theorem k_X4_takeLane : MOkV m_X4_takeLane 2 := ⟨⟨tw_717, tw_105, ⟨by decide +kernel, by decide +kernel, by decide +kernel⟩, by decide +kernel, by decide, fun _ => trivial, rfl⟩, tw_715, tw_716⟩
theorem k_X4_hasRoom : MOkV m_X4_hasRoom 1 := ⟨⟨tw_739, tw_105, ⟨by decide +kernel, by decide +kernel, by decide +kernel⟩, by decide +kernel, by decide, fun _ => trivial, rfl⟩, tw_737, tw_738⟩
theorem k_X4_placeOf : MOkV m_X4_placeOf 1 := ⟨⟨tw_735, tw_105, ⟨by decide +kernel, by decide +kernel, by decide +kernel⟩, by decide +kernel, by decide, fun _ => trivial, rfl⟩, tw_733, tw_734⟩
theorem k_X4_put : MOkV m_X4_put 2 := ⟨⟨tw_749, tw_105, ⟨by decide +kernel, by decide +kernel, by decide +kernel⟩, by decide +kernel, by decide, fun _ => trivial, rfl⟩, tw_747, tw_748⟩
theorem k_X4_weightOf : MOkV m_X4_weightOf 1 := ⟨⟨tw_813, tw_105, ⟨by decide +kernel, by decide +kernel, by decide +kernel⟩, by decide +kernel, by decide, fun _ => trivial, rfl⟩, tw_811, tw_812⟩
theorem k_X4_powerOf : MOkV m_X4_powerOf 1 := ⟨⟨tw_817, tw_105, ⟨by decide +kernel, by decide +kernel, by decide +kernel⟩, by decide +kernel, by decide, fun _ => trivial, rfl⟩, tw_815, tw_816⟩
theorem k_X4_timeOn : MOkV m_X4_timeOn 2 := ⟨⟨tw_847, tw_105, ⟨by decide +kernel, by decide +kernel, by decide +kernel⟩, by decide +kernel, by decide, fun _ => trivial, rfl⟩, tw_845, tw_846⟩
theorem k_X4_timeBy : MOkV m_X4_timeBy 4 := ⟨⟨tw_853, tw_105, ⟨by decide +kernel, by decide +kernel, by decide +kernel⟩, by decide +kernel, by decide, fun _ => trivial, rfl⟩, tw_852, tw_23⟩
theorem k_X4_timeBehind : MOkV m_X4_timeBehind 2 := ⟨⟨tw_863, tw_105, ⟨by decide +kernel, by decide +kernel, by decide +kernel⟩, by decide +kernel, by decide, fun _ => trivial, rfl⟩, tw_861, tw_862⟩
theorem k_X4_wholeTime : MOkV m_X4_wholeTime 1 := ⟨⟨tw_875, tw_105, ⟨by decide +kernel, by decide +kernel, by decide +kernel⟩, by decide +kernel, by decide, fun _ => trivial, rfl⟩, tw_873, tw_874⟩
theorem k_X4_isAhead : MOkV m_X4_isAhead 3 := ⟨⟨tw_940, tw_105, ⟨by decide +kernel, by decide +kernel, by decide +kernel⟩, by decide +kernel, by decide, fun _ => trivial, rfl⟩, tw_938, tw_939⟩
theorem k_X4_passedBy : MOkV m_X4_passedBy 2 := ⟨⟨tw_961, tw_105, ⟨by decide +kernel, by decide +kernel, by decide +kernel⟩, by decide +kernel, by decide, fun _ => trivial, rfl⟩, tw_959, tw_960⟩
theorem k_X4_firstNotSo : MOkV m_X4_firstNotSo 0 := ⟨⟨tw_1116, tw_105, ⟨by decide +kernel, by decide +kernel, by decide +kernel⟩, by decide +kernel, by decide, fun _ => trivial, rfl⟩, tw_1114, tw_1115⟩
theorem k_X4_friendsTogether : MOkV m_X4_friendsTogether 0 := ⟨⟨tw_978, tw_105, ⟨by decide +kernel, by decide +kernel, by decide +kernel⟩, by decide +kernel, by decide, fun _ => trivial, rfl⟩, tw_976, tw_977⟩
theorem k_X4_fits : MOkV m_X4_fits 0 := ⟨⟨tw_1014, tw_105, ⟨by decide +kernel, by decide +kernel, by decide +kernel⟩, by decide +kernel, by decide, fun _ => trivial, rfl⟩, tw_1012, tw_1013⟩
theorem k_X4_movesFrom : MOkV m_X4_movesFrom 1 := ⟨⟨tw_1029, tw_105, ⟨by decide +kernel, by decide +kernel, by decide +kernel⟩, by decide +kernel, by decide, fun _ => trivial, rfl⟩, tw_1027, tw_1028⟩
theorem k_X5_part : MOkV m_X5_part 1 := ⟨⟨tw_1189, tw_112, ⟨by decide +kernel, by decide +kernel, by decide +kernel⟩, by decide +kernel, by decide, fun _ => trivial, rfl⟩, tw_1187, tw_1188⟩
theorem k_X5_findOdds : MOkV m_X5_findOdds 2 := ⟨⟨tw_1169, tw_112, ⟨by decide +kernel, by decide +kernel, by decide +kernel⟩, by decide +kernel, by decide, fun _ => trivial, rfl⟩, tw_1167, tw_1168⟩
theorem k_X5_findMean : MOkV m_X5_findMean 1 := ⟨⟨tw_1197, tw_112, ⟨by decide +kernel, by decide +kernel, by decide +kernel⟩, by decide +kernel, by decide, fun _ => trivial, rfl⟩, tw_1195, tw_1196⟩
theorem k_X5_findHopes : MOkV m_X5_findHopes 1 := ⟨⟨tw_1205, tw_112, ⟨by decide +kernel, by decide +kernel, by decide +kernel⟩, by decide +kernel, by decide, fun _ => trivial, rfl⟩, tw_1203, tw_1204⟩
theorem k_X5_begin : MOkV m_X5_begin 0 := ⟨⟨tw_1173, tw_112, ⟨by decide +kernel, by decide +kernel, by decide +kernel⟩, by decide +kernel, by decide, fun _ => trivial, rfl⟩, tw_1172, tw_32⟩
theorem k_X5_weightOfRain : MOkV m_X5_weightOfRain 1 := ⟨⟨tw_1181, tw_112, ⟨by decide +kernel, by decide +kernel, by decide +kernel⟩, by decide +kernel, by decide, fun _ => trivial, rfl⟩, tw_1180, tw_33⟩
theorem k_X5_reduce : MOkV m_X5_reduce 0 := ⟨⟨tw_1185, tw_112, ⟨by decide +kernel, by decide +kernel, by decide +kernel⟩, by decide +kernel, by decide, fun _ => trivial, rfl⟩, tw_1184, tw_34⟩
theorem k_X5_racesWon : MOkV m_X5_racesWon 3 := ⟨⟨tw_1215, tw_112, ⟨by decide +kernel, by decide +kernel, by decide +kernel⟩, by decide +kernel, by decide, fun _ => trivial, rfl⟩, tw_1213, tw_1214⟩
theorem k_X5_leastOfRaces : MOkV m_X5_leastOfRaces 2 := ⟨⟨tw_1232, tw_112, ⟨by decide +kernel, by decide +kernel, by decide +kernel⟩, by decide +kernel, by decide, fun _ => trivial, rfl⟩, tw_1230, tw_1231⟩
theorem k_X5_beginRaces : MOkV m_X5_beginRaces 1 := ⟨⟨tw_1219, tw_112, ⟨by decide +kernel, by decide +kernel, by decide +kernel⟩, by decide +kernel, by decide, fun _ => trivial, rfl⟩, tw_1218, tw_35⟩
theorem k_X5_drawRain : MOkV m_X5_drawRain 0 := ⟨⟨tw_1223, tw_112, ⟨by decide +kernel, by decide +kernel, by decide +kernel⟩, by decide +kernel, by decide, fun _ => trivial, rfl⟩, tw_1222, tw_36⟩
theorem k_X6_read : MOkV m_X6_read 1 := ⟨⟨tw_549, tw_107, ⟨by decide +kernel, by decide +kernel, by decide +kernel⟩, by decide +kernel, by decide, fun _ => trivial, rfl⟩, tw_547, tw_548⟩
theorem k_X6_readLine : MOkV m_X6_readLine 0 := ⟨⟨tw_575, tw_107, ⟨by decide +kernel, by decide +kernel, by decide +kernel⟩, by decide +kernel, by decide, fun _ => trivial, rfl⟩, tw_574, tw_2⟩
theorem k_X6_sortOfLine : MOkV m_X6_sortOfLine 0 := ⟨⟨tw_579, tw_107, ⟨by decide +kernel, by decide +kernel, by decide +kernel⟩, by decide +kernel, by decide, fun _ => trivial, rfl⟩, tw_578, tw_3⟩
theorem k_X6_faultOfLine : MOkV m_X6_faultOfLine 1 := ⟨⟨tw_643, tw_107, ⟨by decide +kernel, by decide +kernel, by decide +kernel⟩, by decide +kernel, by decide, fun _ => trivial, rfl⟩, tw_642, tw_4⟩
theorem k_X6_roomFor : MOkS m_X6_roomFor 1 := ⟨⟨tw_646, tw_107, ⟨by decide +kernel, by decide +kernel, by decide +kernel⟩, by decide +kernel, by decide, fun _ => trivial, rfl⟩, tw_645⟩
theorem k_X6_readRegatta : MOkV m_X6_readRegatta 0 := ⟨⟨tw_655, tw_107, ⟨by decide +kernel, by decide +kernel, by decide +kernel⟩, by decide +kernel, by decide, fun _ => trivial, rfl⟩, tw_654, tw_5⟩
theorem k_X6_readBend : MOkV m_X6_readBend 0 := ⟨⟨tw_676, tw_107, ⟨by decide +kernel, by decide +kernel, by decide +kernel⟩, by decide +kernel, by decide, fun _ => trivial, rfl⟩, tw_675, tw_8⟩
theorem k_X6_readHouse : MOkV m_X6_readHouse 0 := ⟨⟨tw_703, tw_107, ⟨by decide +kernel, by decide +kernel, by decide +kernel⟩, by decide +kernel, by decide, fun _ => trivial, rfl⟩, tw_702, tw_11⟩
theorem k_X6_readLodger : MOkV m_X6_readLodger 0 := ⟨⟨tw_721, tw_107, ⟨by decide +kernel, by decide +kernel, by decide +kernel⟩, by decide +kernel, by decide, fun _ => trivial, rfl⟩, tw_720, tw_13⟩
theorem k_X6_readAboard : MOkV m_X6_readAboard 0 := ⟨⟨tw_727, tw_107, ⟨by decide +kernel, by decide +kernel, by decide +kernel⟩, by decide +kernel, by decide, fun _ => trivial, rfl⟩, tw_726, tw_14⟩
theorem k_X6_readFriend : MOkV m_X6_readFriend 0 := ⟨⟨tw_753, tw_107, ⟨by decide +kernel, by decide +kernel, by decide +kernel⟩, by decide +kernel, by decide, fun _ => trivial, rfl⟩, tw_752, tw_16⟩
theorem k_X6_readPrize : MOkV m_X6_readPrize 0 := ⟨⟨tw_761, tw_107, ⟨by decide +kernel, by decide +kernel, by decide +kernel⟩, by decide +kernel, by decide, fun _ => trivial, rfl⟩, tw_760, tw_17⟩
theorem k_X6_readSaw : MOkV m_X6_readSaw 0 := ⟨⟨tw_765, tw_107, ⟨by decide +kernel, by decide +kernel, by decide +kernel⟩, by decide +kernel, by decide, fun _ => trivial, rfl⟩, tw_764, tw_18⟩
theorem k_X6_readWord : MOkV m_X6_readWord 1 := ⟨⟨tw_660, tw_107, ⟨by decide +kernel, by decide +kernel, by decide +kernel⟩, by decide +kernel, by decide, fun _ => trivial, rfl⟩, tw_659, tw_6⟩
theorem k_X6_readWhole : MOkV m_X6_readWhole 2 := ⟨⟨tw_664, tw_107, ⟨by decide +kernel, by decide +kernel, by decide +kernel⟩, by decide +kernel, by decide, fun _ => trivial, rfl⟩, tw_663, tw_7⟩
theorem k_X6_readSide : MOkV m_X6_readSide 0 := ⟨⟨tw_697, tw_107, ⟨by decide +kernel, by decide +kernel, by decide +kernel⟩, by decide +kernel, by decide, fun _ => trivial, rfl⟩, tw_696, tw_10⟩
theorem k_X6_readKind : MOkV m_X6_readKind 0 := ⟨⟨tw_707, tw_107, ⟨by decide +kernel, by decide +kernel, by decide +kernel⟩, by decide +kernel, by decide, fun _ => trivial, rfl⟩, tw_706, tw_12⟩
theorem k_X6_tellName : MOkV m_X6_tellName 1 := ⟨⟨tw_680, tw_107, ⟨by decide +kernel, by decide +kernel, by decide +kernel⟩, by decide +kernel, by decide, fun _ => trivial, rfl⟩, tw_679, tw_9⟩
theorem k_X6_numberOfName : MOkV m_X6_numberOfName 1 := ⟨⟨tw_731, tw_107, ⟨by decide +kernel, by decide +kernel, by decide +kernel⟩, by decide +kernel, by decide, fun _ => trivial, rfl⟩, tw_730, tw_15⟩
theorem k_X7_take : MOkV m_X7_take 1 := ⟨⟨tw_889, tw_106, ⟨by decide +kernel, by decide +kernel, by decide +kernel⟩, by decide +kernel, by decide, fun _ => trivial, rfl⟩, tw_887, tw_888⟩
theorem k_X7_begin : MOkV m_X7_begin 1 := ⟨⟨tw_893, tw_106, ⟨by decide +kernel, by decide +kernel, by decide +kernel⟩, by decide +kernel, by decide, fun _ => trivial, rfl⟩, tw_891, tw_892⟩
theorem k_X7_settle : MOkV m_X7_settle 0 := ⟨⟨tw_898, tw_106, ⟨by decide +kernel, by decide +kernel, by decide +kernel⟩, by decide +kernel, by decide, fun _ => trivial, rfl⟩, tw_896, tw_897⟩
theorem k_X7_isOut : MOkV m_X7_isOut 1 := ⟨⟨tw_910, tw_106, ⟨by decide +kernel, by decide +kernel, by decide +kernel⟩, by decide +kernel, by decide, fun _ => trivial, rfl⟩, tw_908, tw_909⟩
theorem k_X7_rankOf : MOkV m_X7_rankOf 1 := ⟨⟨tw_902, tw_106, ⟨by decide +kernel, by decide +kernel, by decide +kernel⟩, by decide +kernel, by decide, fun _ => trivial, rfl⟩, tw_900, tw_901⟩
theorem k_X7_isBefore : MOkV m_X7_isBefore 2 := ⟨⟨tw_906, tw_106, ⟨by decide +kernel, by decide +kernel, by decide +kernel⟩, by decide +kernel, by decide, fun _ => trivial, rfl⟩, tw_905, tw_24⟩
theorem k_X7_houseAt : MOkV m_X7_houseAt 1 := ⟨⟨tw_918, tw_106, ⟨by decide +kernel, by decide +kernel, by decide +kernel⟩, by decide +kernel, by decide, fun _ => trivial, rfl⟩, tw_916, tw_917⟩
theorem k_X8_begin : MOkV m_X8_begin 1 := ⟨⟨tw_561, tw_109, ⟨by decide +kernel, by decide +kernel, by decide +kernel⟩, by decide +kernel, by decide, fun _ => trivial, rfl⟩, tw_559, tw_560⟩
theorem k_X8_blame : MOkV m_X8_blame 1 := ⟨⟨tw_650, tw_109, ⟨by decide +kernel, by decide +kernel, by decide +kernel⟩, by decide +kernel, by decide, fun _ => trivial, rfl⟩, tw_648, tw_649⟩
theorem k_X8_step : MOkV m_X8_step 0 := ⟨⟨tw_568, tw_109, ⟨by decide +kernel, by decide +kernel, by decide +kernel⟩, by decide +kernel, by decide, fun _ => trivial, rfl⟩, tw_566, tw_567⟩
theorem k_X8_sortOf : MOkS m_X8_sortOf 1 := ⟨⟨tw_571, tw_109, ⟨by decide +kernel, by decide +kernel, by decide +kernel⟩, by decide +kernel, by decide, fun _ => trivial, rfl⟩, tw_570⟩
theorem k_X8_is : MOkV m_X8_is 1 := ⟨⟨tw_584, tw_109, ⟨by decide +kernel, by decide +kernel, by decide +kernel⟩, by decide +kernel, by decide, fun _ => trivial, rfl⟩, tw_582, tw_583⟩
theorem k_X8_value : MOkV m_X8_value 0 := ⟨⟨tw_668, tw_109, ⟨by decide +kernel, by decide +kernel, by decide +kernel⟩, by decide +kernel, by decide, fun _ => trivial, rfl⟩, tw_666, tw_667⟩
theorem k_X8_isSameAs : MOkV m_X8_isSameAs 2 := ⟨⟨tw_688, tw_109, ⟨by decide +kernel, by decide +kernel, by decide +kernel⟩, by decide +kernel, by decide, fun _ => trivial, rfl⟩, tw_686, tw_687⟩
theorem k_X9_clear : MOkV m_X9_clear 0 := ⟨⟨tw_553, tw_104, ⟨by decide +kernel, by decide +kernel, by decide +kernel⟩, by decide +kernel, by decide, fun _ => trivial, rfl⟩, tw_551, tw_552⟩
theorem k_X9_become : MOkV m_X9_become 1 := ⟨⟨tw_769, tw_104, ⟨by decide +kernel, by decide +kernel, by decide +kernel⟩, by decide +kernel, by decide, fun _ => trivial, rfl⟩, tw_767, tw_768⟩
theorem k_X9_friendsOf : MOkV m_X9_friendsOf 1 := ⟨⟨tw_757, tw_104, ⟨by decide +kernel, by decide +kernel, by decide +kernel⟩, by decide +kernel, by decide, fun _ => trivial, rfl⟩, tw_755, tw_756⟩
theorem k_X9_storeysLost : MOkV m_X9_storeysLost 1 := ⟨⟨tw_867, tw_104, ⟨by decide +kernel, by decide +kernel, by decide +kernel⟩, by decide +kernel, by decide, fun _ => trivial, rfl⟩, tw_865, tw_866⟩
theorem k_X9_prizeFor : MOkV m_X9_prizeFor 1 := ⟨⟨tw_932, tw_104, ⟨by decide +kernel, by decide +kernel, by decide +kernel⟩, by decide +kernel, by decide, fun _ => trivial, rfl⟩, tw_930, tw_931⟩
theorem k_X9_countOfLoads : MOkV m_X9_countOfLoads 0 := ⟨⟨tw_1010, tw_104, ⟨by decide +kernel, by decide +kernel, by decide +kernel⟩, by decide +kernel, by decide, fun _ => trivial, rfl⟩, tw_1008, tw_1009⟩
theorem k_X10_feed : MOkV m_X10_feed 5 := ⟨⟨tw_533, tw_103, ⟨by decide +kernel, by decide +kernel, by decide +kernel⟩, by decide +kernel, by decide, fun _ => trivial, rfl⟩, tw_531, tw_532⟩
theorem k_X10_tapeNumber : MOkV m_X10_tapeNumber 1 := ⟨⟨tw_537, tw_103, ⟨by decide +kernel, by decide +kernel, by decide +kernel⟩, by decide +kernel, by decide, fun _ => trivial, rfl⟩, tw_536, tw_0⟩
theorem k_X10_regatta : MOkV m_X10_regatta 1 := ⟨⟨tw_541, tw_103, ⟨by decide +kernel, by decide +kernel, by decide +kernel⟩, by decide +kernel, by decide, fun _ => trivial, rfl⟩, tw_539, tw_540⟩
theorem k_X10_fault : MOkV m_X10_fault 0 := ⟨⟨tw_793, tw_103, ⟨by decide +kernel, by decide +kernel, by decide +kernel⟩, by decide +kernel, by decide, fun _ => trivial, rfl⟩, tw_791, tw_792⟩
theorem k_X10_where : MOkV m_X10_where 0 := ⟨⟨tw_797, tw_103, ⟨by decide +kernel, by decide +kernel, by decide +kernel⟩, by decide +kernel, by decide, fun _ => trivial, rfl⟩, tw_795, tw_796⟩
theorem k_X10_house : MOkV m_X10_house 2 := ⟨⟨tw_801, tw_103, ⟨by decide +kernel, by decide +kernel, by decide +kernel⟩, by decide +kernel, by decide, fun _ => trivial, rfl⟩, tw_799, tw_800⟩
theorem k_X10_lodger : MOkV m_X10_lodger 2 := ⟨⟨tw_825, tw_103, ⟨by decide +kernel, by decide +kernel, by decide +kernel⟩, by decide +kernel, by decide, fun _ => trivial, rfl⟩, tw_823, tw_824⟩
theorem k_X10_bend : MOkV m_X10_bend 2 := ⟨⟨tw_835, tw_103, ⟨by decide +kernel, by decide +kernel, by decide +kernel⟩, by decide +kernel, by decide, fun _ => trivial, rfl⟩, tw_833, tw_834⟩
theorem k_X10_time : MOkV m_X10_time 2 := ⟨⟨tw_843, tw_103, ⟨by decide +kernel, by decide +kernel, by decide +kernel⟩, by decide +kernel, by decide, fun _ => trivial, rfl⟩, tw_841, tw_842⟩
theorem k_X10_soFar : MOkV m_X10_soFar 2 := ⟨⟨tw_859, tw_103, ⟨by decide +kernel, by decide +kernel, by decide +kernel⟩, by decide +kernel, by decide, fun _ => trivial, rfl⟩, tw_857, tw_858⟩
theorem k_X10_total : MOkV m_X10_total 1 := ⟨⟨tw_871, tw_103, ⟨by decide +kernel, by decide +kernel, by decide +kernel⟩, by decide +kernel, by decide, fun _ => trivial, rfl⟩, tw_869, tw_870⟩
theorem k_X10_loses : MOkV m_X10_loses 1 := ⟨⟨tw_880, tw_103, ⟨by decide +kernel, by decide +kernel, by decide +kernel⟩, by decide +kernel, by decide, fun _ => trivial, rfl⟩, tw_878, tw_879⟩
theorem k_X10_rank : MOkV m_X10_rank 1 := ⟨⟨tw_885, tw_103, ⟨by decide +kernel, by decide +kernel, by decide +kernel⟩, by decide +kernel, by decide, fun _ => trivial, rfl⟩, tw_883, tw_884⟩
theorem k_X10_ranked : MOkV m_X10_ranked 1 := ⟨⟨tw_914, tw_103, ⟨by decide +kernel, by decide +kernel, by decide +kernel⟩, by decide +kernel, by decide, fun _ => trivial, rfl⟩, tw_912, tw_913⟩
theorem k_X10_out : MOkV m_X10_out 1 := ⟨⟨tw_923, tw_103, ⟨by decide +kernel, by decide +kernel, by decide +kernel⟩, by decide +kernel, by decide, fun _ => trivial, rfl⟩, tw_921, tw_922⟩
theorem k_X10_prize : MOkV m_X10_prize 1 := ⟨⟨tw_928, tw_103, ⟨by decide +kernel, by decide +kernel, by decide +kernel⟩, by decide +kernel, by decide, fun _ => trivial, rfl⟩, tw_926, tw_927⟩
theorem k_X10_ahead : MOkV m_X10_ahead 2 := ⟨⟨tw_936, tw_103, ⟨by decide +kernel, by decide +kernel, by decide +kernel⟩, by decide +kernel, by decide, fun _ => trivial, rfl⟩, tw_934, tw_935⟩
theorem k_X10_leader : MOkV m_X10_leader 1 := ⟨⟨tw_944, tw_103, ⟨by decide +kernel, by decide +kernel, by decide +kernel⟩, by decide +kernel, by decide, fun _ => trivial, rfl⟩, tw_942, tw_943⟩
theorem k_X10_full : MOkV m_X10_full 0 := ⟨⟨tw_948, tw_103, ⟨by decide +kernel, by decide +kernel, by decide +kernel⟩, by decide +kernel, by decide, fun _ => trivial, rfl⟩, tw_946, tw_947⟩
theorem k_X10_passes : MOkV m_X10_passes 0 := ⟨⟨tw_957, tw_103, ⟨by decide +kernel, by decide +kernel, by decide +kernel⟩, by decide +kernel, by decide, fun _ => trivial, rfl⟩, tw_955, tw_956⟩
theorem k_X10_fastest : MOkV m_X10_fastest 1 := ⟨⟨tw_966, tw_103, ⟨by decide +kernel, by decide +kernel, by decide +kernel⟩, by decide +kernel, by decide, fun _ => trivial, rfl⟩, tw_964, tw_965⟩
theorem k_X10_storey : MOkV m_X10_storey 1 := ⟨⟨tw_970, tw_103, ⟨by decide +kernel, by decide +kernel, by decide +kernel⟩, by decide +kernel, by decide, fun _ => trivial, rfl⟩, tw_968, tw_969⟩
theorem k_X10_together : MOkV m_X10_together 0 := ⟨⟨tw_974, tw_103, ⟨by decide +kernel, by decide +kernel, by decide +kernel⟩, by decide +kernel, by decide, fun _ => trivial, rfl⟩, tw_972, tw_973⟩
theorem k_X10_bestRank : MOkV m_X10_bestRank 1 := ⟨⟨tw_982, tw_103, ⟨by decide +kernel, by decide +kernel, by decide +kernel⟩, by decide +kernel, by decide, fun _ => trivial, rfl⟩, tw_980, tw_981⟩
theorem k_X10_loadOf : MOkV m_X10_loadOf 2 := ⟨⟨tw_1038, tw_103, ⟨by decide +kernel, by decide +kernel, by decide +kernel⟩, by decide +kernel, by decide, fun _ => trivial, rfl⟩, tw_1036, tw_1037⟩
theorem k_X10_loadMoves : MOkV m_X10_loadMoves 1 := ⟨⟨tw_1042, tw_103, ⟨by decide +kernel, by decide +kernel, by decide +kernel⟩, by decide +kernel, by decide, fun _ => trivial, rfl⟩, tw_1040, tw_1041⟩
theorem k_X10_leastTotal : MOkV m_X10_leastTotal 1 := ⟨⟨tw_1046, tw_103, ⟨by decide +kernel, by decide +kernel, by decide +kernel⟩, by decide +kernel, by decide, fun _ => trivial, rfl⟩, tw_1044, tw_1045⟩
theorem k_X10_friendly : MOkV m_X10_friendly 0 := ⟨⟨tw_1056, tw_103, ⟨by decide +kernel, by decide +kernel, by decide +kernel⟩, by decide +kernel, by decide, fun _ => trivial, rfl⟩, tw_1054, tw_1055⟩
theorem k_X10_friendlyOf : MOkV m_X10_friendlyOf 1 := ⟨⟨tw_1064, tw_103, ⟨by decide +kernel, by decide +kernel, by decide +kernel⟩, by decide +kernel, by decide, fun _ => trivial, rfl⟩, tw_1062, tw_1063⟩
theorem k_X10_leastFor : MOkV m_X10_leastFor 2 := ⟨⟨tw_1068, tw_103, ⟨by decide +kernel, by decide +kernel, by decide +kernel⟩, by decide +kernel, by decide, fun _ => trivial, rfl⟩, tw_1066, tw_1067⟩
theorem k_X10_toMove : MOkV m_X10_toMove 1 := ⟨⟨tw_1079, tw_103, ⟨by decide +kernel, by decide +kernel, by decide +kernel⟩, by decide +kernel, by decide, fun _ => trivial, rfl⟩, tw_1077, tw_1078⟩
theorem k_X10_waterFor : MOkV m_X10_waterFor 2 := ⟨⟨tw_1088, tw_103, ⟨by decide +kernel, by decide +kernel, by decide +kernel⟩, by decide +kernel, by decide, fun _ => trivial, rfl⟩, tw_1086, tw_1087⟩
theorem k_X10_bestSwap : MOkV m_X10_bestSwap 1 := ⟨⟨tw_1092, tw_103, ⟨by decide +kernel, by decide +kernel, by decide +kernel⟩, by decide +kernel, by decide, fun _ => trivial, rfl⟩, tw_1090, tw_1091⟩
theorem k_X10_bestLane : MOkV m_X10_bestLane 1 := ⟨⟨tw_1102, tw_103, ⟨by decide +kernel, by decide +kernel, by decide +kernel⟩, by decide +kernel, by decide, fun _ => trivial, rfl⟩, tw_1100, tw_1101⟩
theorem k_X10_fires : MOkV m_X10_fires 0 := ⟨⟨tw_1107, tw_103, ⟨by decide +kernel, by decide +kernel, by decide +kernel⟩, by decide +kernel, by decide, fun _ => trivial, rfl⟩, tw_1105, tw_1106⟩
theorem k_X10_fireAt : MOkV m_X10_fireAt 1 := ⟨⟨tw_1120, tw_103, ⟨by decide +kernel, by decide +kernel, by decide +kernel⟩, by decide +kernel, by decide, fun _ => trivial, rfl⟩, tw_1118, tw_1119⟩
theorem k_X10_could : MOkV m_X10_could 0 := ⟨⟨tw_1124, tw_103, ⟨by decide +kernel, by decide +kernel, by decide +kernel⟩, by decide +kernel, by decide, fun _ => trivial, rfl⟩, tw_1122, tw_1123⟩
theorem k_X10_surely : MOkV m_X10_surely 0 := ⟨⟨tw_1132, tw_103, ⟨by decide +kernel, by decide +kernel, by decide +kernel⟩, by decide +kernel, by decide, fun _ => trivial, rfl⟩, tw_1130, tw_1131⟩
theorem k_X10_ask : MOkV m_X10_ask 0 := ⟨⟨tw_1140, tw_103, ⟨by decide +kernel, by decide +kernel, by decide +kernel⟩, by decide +kernel, by decide, fun _ => trivial, rfl⟩, tw_1138, tw_1139⟩
theorem k_X10_askLeaves : MOkV m_X10_askLeaves 0 := ⟨⟨tw_1155, tw_103, ⟨by decide +kernel, by decide +kernel, by decide +kernel⟩, by decide +kernel, by decide, fun _ => trivial, rfl⟩, tw_1153, tw_1154⟩
theorem k_X10_judge : MOkV m_X10_judge 0 := ⟨⟨tw_1160, tw_103, ⟨by decide +kernel, by decide +kernel, by decide +kernel⟩, by decide +kernel, by decide, fun _ => trivial, rfl⟩, tw_1158, tw_1159⟩
theorem k_X10_odds : MOkV m_X10_odds 3 := ⟨⟨tw_1165, tw_103, ⟨by decide +kernel, by decide +kernel, by decide +kernel⟩, by decide +kernel, by decide, fun _ => trivial, rfl⟩, tw_1163, tw_1164⟩
theorem k_X10_mean : MOkV m_X10_mean 2 := ⟨⟨tw_1193, tw_103, ⟨by decide +kernel, by decide +kernel, by decide +kernel⟩, by decide +kernel, by decide, fun _ => trivial, rfl⟩, tw_1191, tw_1192⟩
theorem k_X10_hopes : MOkV m_X10_hopes 2 := ⟨⟨tw_1201, tw_103, ⟨by decide +kernel, by decide +kernel, by decide +kernel⟩, by decide +kernel, by decide, fun _ => trivial, rfl⟩, tw_1199, tw_1200⟩
theorem k_X10_wins : MOkV m_X10_wins 3 := ⟨⟨tw_1210, tw_103, ⟨by decide +kernel, by decide +kernel, by decide +kernel⟩, by decide +kernel, by decide, fun _ => trivial, rfl⟩, tw_1208, tw_1209⟩
theorem k_X10_record : MOkV m_X10_record 2 := ⟨⟨tw_1228, tw_103, ⟨by decide +kernel, by decide +kernel, by decide +kernel⟩, by decide +kernel, by decide, fun _ => trivial, rfl⟩, tw_1226, tw_1227⟩
theorem k_X10_weir : MOkV m_X10_weir 4 := ⟨⟨tw_1238, tw_103, ⟨by decide +kernel, by decide +kernel, by decide +kernel⟩, by decide +kernel, by decide, fun _ => trivial, rfl⟩, tw_1236, tw_1237⟩
theorem k_X10_rests : MOkV m_X10_rests 1 := ⟨⟨tw_1249, tw_103, ⟨by decide +kernel, by decide +kernel, by decide +kernel⟩, by decide +kernel, by decide, fun _ => trivial, rfl⟩, tw_1247, tw_1248⟩
theorem k_X10_rest : MOkV m_X10_rest 1 := ⟨⟨tw_1256, tw_103, ⟨by decide +kernel, by decide +kernel, by decide +kernel⟩, by decide +kernel, by decide, fun _ => trivial, rfl⟩, tw_1254, tw_1255⟩
theorem k_X10_whyNoWeir : MOkV m_X10_whyNoWeir 1 := ⟨⟨tw_1242, tw_103, ⟨by decide +kernel, by decide +kernel, by decide +kernel⟩, by decide +kernel, by decide, fun _ => trivial, rfl⟩, tw_1241, tw_37⟩
theorem k_X10_payoff : MOkS m_X10_payoff 3 := ⟨⟨tw_1245, tw_103, ⟨by decide +kernel, by decide +kernel, by decide +kernel⟩, by decide +kernel, by decide, fun _ => trivial, rfl⟩, tw_1244⟩
theorem k_X10_isRest : MOkS m_X10_isRest 3 := ⟨⟨tw_1252, tw_103, ⟨by decide +kernel, by decide +kernel, by decide +kernel⟩, by decide +kernel, by decide, fun _ => trivial, rfl⟩, tw_1251⟩
theorem k_X10_board : MOkV m_X10_board 2 := ⟨⟨tw_1260, tw_103, ⟨by decide +kernel, by decide +kernel, by decide +kernel⟩, by decide +kernel, by decide, fun _ => trivial, rfl⟩, tw_1258, tw_1259⟩
theorem k_X10_ashore : MOkV m_X10_ashore 1 := ⟨⟨tw_1272, tw_103, ⟨by decide +kernel, by decide +kernel, by decide +kernel⟩, by decide +kernel, by decide, fun _ => trivial, rfl⟩, tw_1270, tw_1271⟩
theorem k_X10_light : MOkV m_X10_light 2 := ⟨⟨tw_1280, tw_103, ⟨by decide +kernel, by decide +kernel, by decide +kernel⟩, by decide +kernel, by decide, fun _ => trivial, rfl⟩, tw_1278, tw_1279⟩
theorem k_X10_cross : MOkV m_X10_cross 1 := ⟨⟨tw_1284, tw_103, ⟨by decide +kernel, by decide +kernel, by decide +kernel⟩, by decide +kernel, by decide, fun _ => trivial, rfl⟩, tw_1282, tw_1283⟩
theorem k_X10_raise : MOkV m_X10_raise 1 := ⟨⟨tw_1288, tw_103, ⟨by decide +kernel, by decide +kernel, by decide +kernel⟩, by decide +kernel, by decide, fun _ => trivial, rfl⟩, tw_1286, tw_1287⟩
theorem k_X10_undo : MOkV m_X10_undo 0 := ⟨⟨tw_1292, tw_103, ⟨by decide +kernel, by decide +kernel, by decide +kernel⟩, by decide +kernel, by decide, fun _ => trivial, rfl⟩, tw_1290, tw_1291⟩
theorem k_X10_image : MOkV m_X10_image 0 := ⟨⟨tw_1306, tw_103, ⟨by decide +kernel, by decide +kernel, by decide +kernel⟩, by decide +kernel, by decide, fun _ => trivial, rfl⟩, tw_1304, tw_1305⟩
theorem k_X10_back : MOkV m_X10_back 1 := ⟨⟨tw_1314, tw_103, ⟨by decide +kernel, by decide +kernel, by decide +kernel⟩, by decide +kernel, by decide, fun _ => trivial, rfl⟩, tw_1312, tw_1313⟩
theorem k_X10_size : MOkV m_X10_size 1 := ⟨⟨tw_1322, tw_103, ⟨by decide +kernel, by decide +kernel, by decide +kernel⟩, by decide +kernel, by decide, fun _ => trivial, rfl⟩, tw_1320, tw_1321⟩
theorem k_X10_trouble : MOkV m_X10_trouble 0 := ⟨⟨tw_1326, tw_103, ⟨by decide +kernel, by decide +kernel, by decide +kernel⟩, by decide +kernel, by decide, fun _ => trivial, rfl⟩, tw_1324, tw_1325⟩
theorem k_X10_granted : MOkV m_X10_granted 1 := ⟨⟨tw_789, tw_103, ⟨by decide +kernel, by decide +kernel, by decide +kernel⟩, by decide +kernel, by decide, fun _ => trivial, rfl⟩, tw_788, tw_19⟩
theorem k_X10_refused : MOkV m_X10_refused 1 := ⟨⟨tw_545, tw_103, ⟨by decide +kernel, by decide +kernel, by decide +kernel⟩, by decide +kernel, by decide, fun _ => trivial, rfl⟩, tw_544, tw_1⟩
theorem k_X10_done : MOkV m_X10_done 1 := ⟨⟨tw_1276, tw_103, ⟨by decide +kernel, by decide +kernel, by decide +kernel⟩, by decide +kernel, by decide, fun _ => trivial, rfl⟩, tw_1275, tw_38⟩
theorem k_X10_isTold : MOkV m_X10_isTold 0 := ⟨⟨tw_952, tw_103, ⟨by decide +kernel, by decide +kernel, by decide +kernel⟩, by decide +kernel, by decide, fun _ => trivial, rfl⟩, tw_951, tw_25⟩
theorem k_X10_isHouse : MOkV m_X10_isHouse 1 := ⟨⟨tw_805, tw_103, ⟨by decide +kernel, by decide +kernel, by decide +kernel⟩, by decide +kernel, by decide, fun _ => trivial, rfl⟩, tw_804, tw_20⟩
theorem k_X10_isLodger : MOkV m_X10_isLodger 1 := ⟨⟨tw_829, tw_103, ⟨by decide +kernel, by decide +kernel, by decide +kernel⟩, by decide +kernel, by decide, fun _ => trivial, rfl⟩, tw_828, tw_21⟩
theorem k_X10_isBend : MOkV m_X10_isBend 1 := ⟨⟨tw_839, tw_103, ⟨by decide +kernel, by decide +kernel, by decide +kernel⟩, by decide +kernel, by decide, fun _ => trivial, rfl⟩, tw_838, tw_22⟩
theorem k_X10_isWithin : MOkS m_X10_isWithin 3 := ⟨⟨tw_1071, tw_103, ⟨by decide +kernel, by decide +kernel, by decide +kernel⟩, by decide +kernel, by decide, fun _ => trivial, rfl⟩, tw_1070⟩
theorem k_X11_thrown : MOkV m_X11_thrown 0 := ⟨⟨tw_1539, tw_114, ⟨by decide +kernel, by decide +kernel, by decide +kernel⟩, by decide +kernel, by decide, fun _ => trivial, rfl⟩, tw_1537, tw_1538⟩
theorem k_X11_good : MOkV m_X11_good 0 := ⟨⟨tw_1551, tw_114, ⟨by decide +kernel, by decide +kernel, by decide +kernel⟩, by decide +kernel, by decide, fun _ => trivial, rfl⟩, tw_1550, tw_40⟩
theorem k_X11_no : MOkV m_X11_no 1 := ⟨⟨tw_1558, tw_114, ⟨by decide +kernel, by decide +kernel, by decide +kernel⟩, by decide +kernel, by decide, fun _ => trivial, rfl⟩, tw_1557, tw_41⟩
theorem k_X11_isNot : MOkV m_X11_isNot 1 := ⟨⟨tw_2044, tw_114, ⟨by decide +kernel, by decide +kernel, by decide +kernel⟩, by decide +kernel, by decide, fun _ => trivial, rfl⟩, tw_2043, tw_101⟩
theorem k_X11_in : MOkS m_X11_in 3 := ⟨⟨tw_1554, tw_114, ⟨by decide +kernel, by decide +kernel, by decide +kernel⟩, by decide +kernel, by decide, fun _ => trivial, rfl⟩, tw_1553⟩
theorem k_X11_hasBit : MOkS m_X11_hasBit 2 := ⟨⟨tw_1689, tw_114, ⟨by decide +kernel, by decide +kernel, by decide +kernel⟩, by decide +kernel, by decide, fun _ => trivial, rfl⟩, tw_1688⟩
theorem k_X11_ones : MOkS m_X11_ones 1 := ⟨⟨tw_1743, tw_114, ⟨by decide +kernel, by decide +kernel, by decide +kernel⟩, by decide +kernel, by decide, fun _ => trivial, rfl⟩, tw_1742⟩
theorem k_X11_copy : MOkS m_X11_copy 5 := ⟨⟨tw_1700, tw_114, ⟨by decide +kernel, by decide +kernel, by decide +kernel⟩, by decide +kernel, by decide, fun _ => trivial, rfl⟩, tw_1699⟩
theorem k_X11_lowest : MOkS m_X11_lowest 3 := ⟨⟨tw_1984, tw_114, ⟨by decide +kernel, by decide +kernel, by decide +kernel⟩, by decide +kernel, by decide, fun _ => trivial, rfl⟩, tw_1983⟩
theorem k_X11_feed : MOkV m_X11_feed 5 := ⟨⟨tw_1543, tw_114, ⟨by decide +kernel, by decide +kernel, by decide +kernel⟩, by decide +kernel, by decide, fun _ => trivial, rfl⟩, tw_1541, tw_1542⟩
theorem k_X11_see : MOkV m_X11_see 1 := ⟨⟨tw_1566, tw_114, ⟨by decide +kernel, by decide +kernel, by decide +kernel⟩, by decide +kernel, by decide, fun _ => trivial, rfl⟩, tw_1565, tw_43⟩
theorem k_X11_isSmall : MOkS m_X11_isSmall 1 := ⟨⟨tw_1569, tw_114, ⟨by decide +kernel, by decide +kernel, by decide +kernel⟩, by decide +kernel, by decide, fun _ => trivial, rfl⟩, tw_1568⟩
theorem k_X11_isDigit : MOkS m_X11_isDigit 1 := ⟨⟨tw_1572, tw_114, ⟨by decide +kernel, by decide +kernel, by decide +kernel⟩, by decide +kernel, by decide, fun _ => trivial, rfl⟩, tw_1571⟩
theorem k_X11_next : MOkV m_X11_next 0 := ⟨⟨tw_1562, tw_114, ⟨by decide +kernel, by decide +kernel, by decide +kernel⟩, by decide +kernel, by decide, fun _ => trivial, rfl⟩, tw_1561, tw_42⟩
theorem k_X11_wrong : MOkV m_X11_wrong 2 := ⟨⟨tw_1591, tw_114, ⟨by decide +kernel, by decide +kernel, by decide +kernel⟩, by decide +kernel, by decide, fun _ => trivial, rfl⟩, tw_1590, tw_47⟩
theorem k_X11_isWord : MOkV m_X11_isWord 1 := ⟨⟨tw_1581, tw_114, ⟨by decide +kernel, by decide +kernel, by decide +kernel⟩, by decide +kernel, by decide, fun _ => trivial, rfl⟩, tw_1580, tw_45⟩
theorem k_X11_takesWord : MOkV m_X11_takesWord 1 := ⟨⟨tw_1604, tw_114, ⟨by decide +kernel, by decide +kernel, by decide +kernel⟩, by decide +kernel, by decide, fun _ => trivial, rfl⟩, tw_1603, tw_50⟩
theorem k_X11_must : MOkV m_X11_must 1 := ⟨⟨tw_1600, tw_114, ⟨by decide +kernel, by decide +kernel, by decide +kernel⟩, by decide +kernel, by decide, fun _ => trivial, rfl⟩, tw_1599, tw_49⟩
theorem k_X11_mustName : MOkV m_X11_mustName 0 := ⟨⟨tw_1629, tw_114, ⟨by decide +kernel, by decide +kernel, by decide +kernel⟩, by decide +kernel, by decide, fun _ => trivial, rfl⟩, tw_1628, tw_55⟩
theorem k_X11_find : MOkV m_X11_find 0 := ⟨⟨tw_1639, tw_114, ⟨by decide +kernel, by decide +kernel, by decide +kernel⟩, by decide +kernel, by decide, fun _ => trivial, rfl⟩, tw_1638, tw_56⟩
theorem k_X11_newName : MOkV m_X11_newName 1 := ⟨⟨tw_1625, tw_114, ⟨by decide +kernel, by decide +kernel, by decide +kernel⟩, by decide +kernel, by decide, fun _ => trivial, rfl⟩, tw_1624, tw_54⟩
theorem k_X11_named : MOkV m_X11_named 2 := ⟨⟨tw_1674, tw_114, ⟨by decide +kernel, by decide +kernel, by decide +kernel⟩, by decide +kernel, by decide, fun _ => trivial, rfl⟩, tw_1673, tw_62⟩
theorem k_X11_houseHere : MOkV m_X11_houseHere 0 := ⟨⟨tw_1682, tw_114, ⟨by decide +kernel, by decide +kernel, by decide +kernel⟩, by decide +kernel, by decide, fun _ => trivial, rfl⟩, tw_1681, tw_64⟩
theorem k_X11_lodgerHere : MOkV m_X11_lodgerHere 0 := ⟨⟨tw_1670, tw_114, ⟨by decide +kernel, by decide +kernel, by decide +kernel⟩, by decide +kernel, by decide, fun _ => trivial, rfl⟩, tw_1669, tw_61⟩
theorem k_X11_pass : MOkV m_X11_pass 0 := ⟨⟨tw_1678, tw_114, ⟨by decide +kernel, by decide +kernel, by decide +kernel⟩, by decide +kernel, by decide, fun _ => trivial, rfl⟩, tw_1677, tw_63⟩
theorem k_X11_number : MOkV m_X11_number 2 := ⟨⟨tw_1608, tw_114, ⟨by decide +kernel, by decide +kernel, by decide +kernel⟩, by decide +kernel, by decide, fun _ => trivial, rfl⟩, tw_1607, tw_51⟩
theorem k_X11_after : MOkV m_X11_after 3 := ⟨⟨tw_1596, tw_114, ⟨by decide +kernel, by decide +kernel, by decide +kernel⟩, by decide +kernel, by decide, fun _ => trivial, rfl⟩, tw_1595, tw_48⟩
theorem k_X11_side : MOkV m_X11_side 0 := ⟨⟨tw_1644, tw_114, ⟨by decide +kernel, by decide +kernel, by decide +kernel⟩, by decide +kernel, by decide, fun _ => trivial, rfl⟩, tw_1643, tw_57⟩
theorem k_X11_regatta : MOkV m_X11_regatta 1 := ⟨⟨tw_1547, tw_114, ⟨by decide +kernel, by decide +kernel, by decide +kernel⟩, by decide +kernel, by decide, fun _ => trivial, rfl⟩, tw_1545, tw_1546⟩
theorem k_X11_begins : MOkV m_X11_begins 2 := ⟨⟨tw_1617, tw_114, ⟨by decide +kernel, by decide +kernel, by decide +kernel⟩, by decide +kernel, by decide, fun _ => trivial, rfl⟩, tw_1616, tw_52⟩
theorem k_X11_readLine : MOkV m_X11_readLine 0 := ⟨⟨tw_1576, tw_114, ⟨by decide +kernel, by decide +kernel, by decide +kernel⟩, by decide +kernel, by decide, fun _ => trivial, rfl⟩, tw_1575, tw_44⟩
theorem k_X11_regattaLine : MOkV m_X11_regattaLine 0 := ⟨⟨tw_1587, tw_114, ⟨by decide +kernel, by decide +kernel, by decide +kernel⟩, by decide +kernel, by decide, fun _ => trivial, rfl⟩, tw_1586, tw_46⟩
theorem k_X11_bendLine : MOkV m_X11_bendLine 0 := ⟨⟨tw_1621, tw_114, ⟨by decide +kernel, by decide +kernel, by decide +kernel⟩, by decide +kernel, by decide, fun _ => trivial, rfl⟩, tw_1620, tw_53⟩
theorem k_X11_houseLine : MOkV m_X11_houseLine 0 := ⟨⟨tw_1650, tw_114, ⟨by decide +kernel, by decide +kernel, by decide +kernel⟩, by decide +kernel, by decide, fun _ => trivial, rfl⟩, tw_1649, tw_58⟩
theorem k_X11_lodgerLine : MOkV m_X11_lodgerLine 0 := ⟨⟨tw_1660, tw_114, ⟨by decide +kernel, by decide +kernel, by decide +kernel⟩, by decide +kernel, by decide, fun _ => trivial, rfl⟩, tw_1659, tw_59⟩
theorem k_X11_aboardLine : MOkV m_X11_aboardLine 0 := ⟨⟨tw_1666, tw_114, ⟨by decide +kernel, by decide +kernel, by decide +kernel⟩, by decide +kernel, by decide, fun _ => trivial, rfl⟩, tw_1665, tw_60⟩
theorem k_X11_friendLine : MOkV m_X11_friendLine 0 := ⟨⟨tw_1686, tw_114, ⟨by decide +kernel, by decide +kernel, by decide +kernel⟩, by decide +kernel, by decide, fun _ => trivial, rfl⟩, tw_1685, tw_65⟩
theorem k_X11_prizeLine : MOkV m_X11_prizeLine 0 := ⟨⟨tw_1693, tw_114, ⟨by decide +kernel, by decide +kernel, by decide +kernel⟩, by decide +kernel, by decide, fun _ => trivial, rfl⟩, tw_1692, tw_66⟩
theorem k_X11_sawLine : MOkV m_X11_sawLine 0 := ⟨⟨tw_1697, tw_114, ⟨by decide +kernel, by decide +kernel, by decide +kernel⟩, by decide +kernel, by decide, fun _ => trivial, rfl⟩, tw_1696, tw_67⟩
theorem k_X11_fault : MOkV m_X11_fault 0 := ⟨⟨tw_1704, tw_114, ⟨by decide +kernel, by decide +kernel, by decide +kernel⟩, by decide +kernel, by decide, fun _ => trivial, rfl⟩, tw_1702, tw_1703⟩
theorem k_X11_where : MOkV m_X11_where 0 := ⟨⟨tw_1708, tw_114, ⟨by decide +kernel, by decide +kernel, by decide +kernel⟩, by decide +kernel, by decide, fun _ => trivial, rfl⟩, tw_1706, tw_1707⟩
theorem k_X11_isHouse : MOkV m_X11_isHouse 1 := ⟨⟨tw_1720, tw_114, ⟨by decide +kernel, by decide +kernel, by decide +kernel⟩, by decide +kernel, by decide, fun _ => trivial, rfl⟩, tw_1719, tw_69⟩
theorem k_X11_isLodger : MOkV m_X11_isLodger 1 := ⟨⟨tw_1751, tw_114, ⟨by decide +kernel, by decide +kernel, by decide +kernel⟩, by decide +kernel, by decide, fun _ => trivial, rfl⟩, tw_1750, tw_75⟩
theorem k_X11_isBend : MOkV m_X11_isBend 1 := ⟨⟨tw_1759, tw_114, ⟨by decide +kernel, by decide +kernel, by decide +kernel⟩, by decide +kernel, by decide, fun _ => trivial, rfl⟩, tw_1758, tw_76⟩
theorem k_X11_kindOf : MOkV m_X11_kindOf 1 := ⟨⟨tw_1724, tw_114, ⟨by decide +kernel, by decide +kernel, by decide +kernel⟩, by decide +kernel, by decide, fun _ => trivial, rfl⟩, tw_1723, tw_70⟩
theorem k_X11_storeysOf : MOkV m_X11_storeysOf 1 := ⟨⟨tw_1728, tw_114, ⟨by decide +kernel, by decide +kernel, by decide +kernel⟩, by decide +kernel, by decide, fun _ => trivial, rfl⟩, tw_1727, tw_71⟩
theorem k_X11_aboardOf : MOkV m_X11_aboardOf 2 := ⟨⟨tw_1740, tw_114, ⟨by decide +kernel, by decide +kernel, by decide +kernel⟩, by decide +kernel, by decide, fun _ => trivial, rfl⟩, tw_1739, tw_74⟩
theorem k_X11_weightOf : MOkV m_X11_weightOf 2 := ⟨⟨tw_1732, tw_114, ⟨by decide +kernel, by decide +kernel, by decide +kernel⟩, by decide +kernel, by decide, fun _ => trivial, rfl⟩, tw_1731, tw_72⟩
theorem k_X11_powerOf : MOkV m_X11_powerOf 2 := ⟨⟨tw_1736, tw_114, ⟨by decide +kernel, by decide +kernel, by decide +kernel⟩, by decide +kernel, by decide, fun _ => trivial, rfl⟩, tw_1735, tw_73⟩
theorem k_X11_timeOf : MOkV m_X11_timeOf 3 := ⟨⟨tw_1767, tw_114, ⟨by decide +kernel, by decide +kernel, by decide +kernel⟩, by decide +kernel, by decide, fun _ => trivial, rfl⟩, tw_1766, tw_77⟩
theorem k_X11_bridgeOf : MOkV m_X11_bridgeOf 1 := ⟨⟨tw_1779, tw_114, ⟨by decide +kernel, by decide +kernel, by decide +kernel⟩, by decide +kernel, by decide, fun _ => trivial, rfl⟩, tw_1778, tw_79⟩
theorem k_X11_soFarOf : MOkV m_X11_soFarOf 3 := ⟨⟨tw_1775, tw_114, ⟨by decide +kernel, by decide +kernel, by decide +kernel⟩, by decide +kernel, by decide, fun _ => trivial, rfl⟩, tw_1774, tw_78⟩
theorem k_X11_totalOf : MOkV m_X11_totalOf 2 := ⟨⟨tw_1787, tw_114, ⟨by decide +kernel, by decide +kernel, by decide +kernel⟩, by decide +kernel, by decide, fun _ => trivial, rfl⟩, tw_1786, tw_80⟩
theorem k_X11_layRanks : MOkV m_X11_layRanks 1 := ⟨⟨tw_1799, tw_114, ⟨by decide +kernel, by decide +kernel, by decide +kernel⟩, by decide +kernel, by decide, fun _ => trivial, rfl⟩, tw_1798, tw_81⟩
theorem k_X11_isBetter : MOkV m_X11_isBetter 2 := ⟨⟨tw_1803, tw_114, ⟨by decide +kernel, by decide +kernel, by decide +kernel⟩, by decide +kernel, by decide, fun _ => trivial, rfl⟩, tw_1802, tw_82⟩
theorem k_X11_prizeFor : MOkV m_X11_prizeFor 1 := ⟨⟨tw_1819, tw_114, ⟨by decide +kernel, by decide +kernel, by decide +kernel⟩, by decide +kernel, by decide, fun _ => trivial, rfl⟩, tw_1818, tw_83⟩
theorem k_X11_isAhead : MOkV m_X11_isAhead 4 := ⟨⟨tw_1831, tw_114, ⟨by decide +kernel, by decide +kernel, by decide +kernel⟩, by decide +kernel, by decide, fun _ => trivial, rfl⟩, tw_1830, tw_85⟩
theorem k_X11_togetherOf : MOkV m_X11_togetherOf 1 := ⟨⟨tw_1855, tw_114, ⟨by decide +kernel, by decide +kernel, by decide +kernel⟩, by decide +kernel, by decide, fun _ => trivial, rfl⟩, tw_1854, tw_86⟩
theorem k_X11_dry : MOkV m_X11_dry 0 := ⟨⟨tw_1716, tw_114, ⟨by decide +kernel, by decide +kernel, by decide +kernel⟩, by decide +kernel, by decide, fun _ => trivial, rfl⟩, tw_1715, tw_68⟩
theorem k_X11_house : MOkV m_X11_house 2 := ⟨⟨tw_1712, tw_114, ⟨by decide +kernel, by decide +kernel, by decide +kernel⟩, by decide +kernel, by decide, fun _ => trivial, rfl⟩, tw_1710, tw_1711⟩
theorem k_X11_lodger : MOkV m_X11_lodger 2 := ⟨⟨tw_1747, tw_114, ⟨by decide +kernel, by decide +kernel, by decide +kernel⟩, by decide +kernel, by decide, fun _ => trivial, rfl⟩, tw_1745, tw_1746⟩
theorem k_X11_bend : MOkV m_X11_bend 2 := ⟨⟨tw_1755, tw_114, ⟨by decide +kernel, by decide +kernel, by decide +kernel⟩, by decide +kernel, by decide, fun _ => trivial, rfl⟩, tw_1753, tw_1754⟩
theorem k_X11_time : MOkV m_X11_time 2 := ⟨⟨tw_1763, tw_114, ⟨by decide +kernel, by decide +kernel, by decide +kernel⟩, by decide +kernel, by decide, fun _ => trivial, rfl⟩, tw_1761, tw_1762⟩
theorem k_X11_soFar : MOkV m_X11_soFar 2 := ⟨⟨tw_1771, tw_114, ⟨by decide +kernel, by decide +kernel, by decide +kernel⟩, by decide +kernel, by decide, fun _ => trivial, rfl⟩, tw_1769, tw_1770⟩
theorem k_X11_total : MOkV m_X11_total 1 := ⟨⟨tw_1783, tw_114, ⟨by decide +kernel, by decide +kernel, by decide +kernel⟩, by decide +kernel, by decide, fun _ => trivial, rfl⟩, tw_1781, tw_1782⟩
theorem k_X11_loses : MOkV m_X11_loses 1 := ⟨⟨tw_1791, tw_114, ⟨by decide +kernel, by decide +kernel, by decide +kernel⟩, by decide +kernel, by decide, fun _ => trivial, rfl⟩, tw_1789, tw_1790⟩
theorem k_X11_rank : MOkV m_X11_rank 1 := ⟨⟨tw_1795, tw_114, ⟨by decide +kernel, by decide +kernel, by decide +kernel⟩, by decide +kernel, by decide, fun _ => trivial, rfl⟩, tw_1793, tw_1794⟩
theorem k_X11_ranked : MOkV m_X11_ranked 1 := ⟨⟨tw_1807, tw_114, ⟨by decide +kernel, by decide +kernel, by decide +kernel⟩, by decide +kernel, by decide, fun _ => trivial, rfl⟩, tw_1805, tw_1806⟩
theorem k_X11_out : MOkV m_X11_out 1 := ⟨⟨tw_1811, tw_114, ⟨by decide +kernel, by decide +kernel, by decide +kernel⟩, by decide +kernel, by decide, fun _ => trivial, rfl⟩, tw_1809, tw_1810⟩
theorem k_X11_prize : MOkV m_X11_prize 1 := ⟨⟨tw_1815, tw_114, ⟨by decide +kernel, by decide +kernel, by decide +kernel⟩, by decide +kernel, by decide, fun _ => trivial, rfl⟩, tw_1813, tw_1814⟩
theorem k_X11_areTwo : MOkV m_X11_areTwo 2 := ⟨⟨tw_1827, tw_114, ⟨by decide +kernel, by decide +kernel, by decide +kernel⟩, by decide +kernel, by decide, fun _ => trivial, rfl⟩, tw_1826, tw_84⟩
theorem k_X11_ahead : MOkV m_X11_ahead 2 := ⟨⟨tw_1823, tw_114, ⟨by decide +kernel, by decide +kernel, by decide +kernel⟩, by decide +kernel, by decide, fun _ => trivial, rfl⟩, tw_1821, tw_1822⟩
theorem k_X11_passes : MOkV m_X11_passes 0 := ⟨⟨tw_1835, tw_114, ⟨by decide +kernel, by decide +kernel, by decide +kernel⟩, by decide +kernel, by decide, fun _ => trivial, rfl⟩, tw_1833, tw_1834⟩
theorem k_X11_fastest : MOkV m_X11_fastest 1 := ⟨⟨tw_1839, tw_114, ⟨by decide +kernel, by decide +kernel, by decide +kernel⟩, by decide +kernel, by decide, fun _ => trivial, rfl⟩, tw_1837, tw_1838⟩
theorem k_X11_leader : MOkV m_X11_leader 1 := ⟨⟨tw_1843, tw_114, ⟨by decide +kernel, by decide +kernel, by decide +kernel⟩, by decide +kernel, by decide, fun _ => trivial, rfl⟩, tw_1841, tw_1842⟩
theorem k_X11_storey : MOkV m_X11_storey 1 := ⟨⟨tw_1847, tw_114, ⟨by decide +kernel, by decide +kernel, by decide +kernel⟩, by decide +kernel, by decide, fun _ => trivial, rfl⟩, tw_1845, tw_1846⟩
theorem k_X11_together : MOkV m_X11_together 0 := ⟨⟨tw_1851, tw_114, ⟨by decide +kernel, by decide +kernel, by decide +kernel⟩, by decide +kernel, by decide, fun _ => trivial, rfl⟩, tw_1849, tw_1850⟩
theorem k_X11_full : MOkV m_X11_full 0 := ⟨⟨tw_1859, tw_114, ⟨by decide +kernel, by decide +kernel, by decide +kernel⟩, by decide +kernel, by decide, fun _ => trivial, rfl⟩, tw_1857, tw_1858⟩
theorem k_X11_keyOf : MOkV m_X11_keyOf 0 := ⟨⟨tw_1876, tw_114, ⟨by decide +kernel, by decide +kernel, by decide +kernel⟩, by decide +kernel, by decide, fun _ => trivial, rfl⟩, tw_1875, tw_89⟩
theorem k_X11_tryLoads : MOkV m_X11_tryLoads 2 := ⟨⟨tw_1872, tw_114, ⟨by decide +kernel, by decide +kernel, by decide +kernel⟩, by decide +kernel, by decide, fun _ => trivial, rfl⟩, tw_1871, tw_88⟩
theorem k_X11_aboardAhead : MOkV m_X11_aboardAhead 2 := ⟨⟨tw_1880, tw_114, ⟨by decide +kernel, by decide +kernel, by decide +kernel⟩, by decide +kernel, by decide, fun _ => trivial, rfl⟩, tw_1879, tw_90⟩
theorem k_X11_seekLoads : MOkV m_X11_seekLoads 1 := ⟨⟨tw_1867, tw_114, ⟨by decide +kernel, by decide +kernel, by decide +kernel⟩, by decide +kernel, by decide, fun _ => trivial, rfl⟩, tw_1866, tw_87⟩
theorem k_X11_bestAt : MOkV m_X11_bestAt 1 := ⟨⟨tw_1888, tw_114, ⟨by decide +kernel, by decide +kernel, by decide +kernel⟩, by decide +kernel, by decide, fun _ => trivial, rfl⟩, tw_1887, tw_91⟩
theorem k_X11_bestRank : MOkV m_X11_bestRank 1 := ⟨⟨tw_1863, tw_114, ⟨by decide +kernel, by decide +kernel, by decide +kernel⟩, by decide +kernel, by decide, fun _ => trivial, rfl⟩, tw_1861, tw_1862⟩
theorem k_X11_loadOf : MOkV m_X11_loadOf 2 := ⟨⟨tw_1884, tw_114, ⟨by decide +kernel, by decide +kernel, by decide +kernel⟩, by decide +kernel, by decide, fun _ => trivial, rfl⟩, tw_1882, tw_1883⟩
theorem k_X11_loadMoves : MOkV m_X11_loadMoves 1 := ⟨⟨tw_1892, tw_114, ⟨by decide +kernel, by decide +kernel, by decide +kernel⟩, by decide +kernel, by decide, fun _ => trivial, rfl⟩, tw_1890, tw_1891⟩
theorem k_X11_leastTotal : MOkV m_X11_leastTotal 1 := ⟨⟨tw_1896, tw_114, ⟨by decide +kernel, by decide +kernel, by decide +kernel⟩, by decide +kernel, by decide, fun _ => trivial, rfl⟩, tw_1894, tw_1895⟩
theorem k_X11_friendly : MOkV m_X11_friendly 0 := ⟨⟨tw_1900, tw_114, ⟨by decide +kernel, by decide +kernel, by decide +kernel⟩, by decide +kernel, by decide, fun _ => trivial, rfl⟩, tw_1898, tw_1899⟩
theorem k_X11_friendlyOf : MOkV m_X11_friendlyOf 1 := ⟨⟨tw_1904, tw_114, ⟨by decide +kernel, by decide +kernel, by decide +kernel⟩, by decide +kernel, by decide, fun _ => trivial, rfl⟩, tw_1902, tw_1903⟩
theorem k_X11_why : MOkV m_X11_why 2 := ⟨⟨tw_1912, tw_114, ⟨by decide +kernel, by decide +kernel, by decide +kernel⟩, by decide +kernel, by decide, fun _ => trivial, rfl⟩, tw_1911, tw_92⟩
theorem k_X11_leastFor : MOkV m_X11_leastFor 2 := ⟨⟨tw_1908, tw_114, ⟨by decide +kernel, by decide +kernel, by decide +kernel⟩, by decide +kernel, by decide, fun _ => trivial, rfl⟩, tw_1906, tw_1907⟩
theorem k_X11_toMove : MOkV m_X11_toMove 1 := ⟨⟨tw_1916, tw_114, ⟨by decide +kernel, by decide +kernel, by decide +kernel⟩, by decide +kernel, by decide, fun _ => trivial, rfl⟩, tw_1914, tw_1915⟩
theorem k_X11_bestSwap : MOkV m_X11_bestSwap 1 := ⟨⟨tw_1920, tw_114, ⟨by decide +kernel, by decide +kernel, by decide +kernel⟩, by decide +kernel, by decide, fun _ => trivial, rfl⟩, tw_1918, tw_1919⟩
theorem k_X11_bestLane : MOkV m_X11_bestLane 1 := ⟨⟨tw_1924, tw_114, ⟨by decide +kernel, by decide +kernel, by decide +kernel⟩, by decide +kernel, by decide, fun _ => trivial, rfl⟩, tw_1922, tw_1923⟩
theorem k_X11_waterFor : MOkV m_X11_waterFor 2 := ⟨⟨tw_1928, tw_114, ⟨by decide +kernel, by decide +kernel, by decide +kernel⟩, by decide +kernel, by decide, fun _ => trivial, rfl⟩, tw_1926, tw_1927⟩
theorem k_X11_wrongSeen : MOkV m_X11_wrongSeen 1 := ⟨⟨tw_1940, tw_114, ⟨by decide +kernel, by decide +kernel, by decide +kernel⟩, by decide +kernel, by decide, fun _ => trivial, rfl⟩, tw_1939, tw_94⟩
theorem k_X11_seekFires : MOkV m_X11_seekFires 1 := ⟨⟨tw_1936, tw_114, ⟨by decide +kernel, by decide +kernel, by decide +kernel⟩, by decide +kernel, by decide, fun _ => trivial, rfl⟩, tw_1935, tw_93⟩
theorem k_X11_fires : MOkV m_X11_fires 0 := ⟨⟨tw_1932, tw_114, ⟨by decide +kernel, by decide +kernel, by decide +kernel⟩, by decide +kernel, by decide, fun _ => trivial, rfl⟩, tw_1930, tw_1931⟩
theorem k_X11_fireAt : MOkV m_X11_fireAt 1 := ⟨⟨tw_1944, tw_114, ⟨by decide +kernel, by decide +kernel, by decide +kernel⟩, by decide +kernel, by decide, fun _ => trivial, rfl⟩, tw_1942, tw_1943⟩
theorem k_X11_could : MOkV m_X11_could 0 := ⟨⟨tw_1948, tw_114, ⟨by decide +kernel, by decide +kernel, by decide +kernel⟩, by decide +kernel, by decide, fun _ => trivial, rfl⟩, tw_1946, tw_1947⟩
theorem k_X11_surely : MOkV m_X11_surely 0 := ⟨⟨tw_1952, tw_114, ⟨by decide +kernel, by decide +kernel, by decide +kernel⟩, by decide +kernel, by decide, fun _ => trivial, rfl⟩, tw_1950, tw_1951⟩
theorem k_X11_leavesOf : MOkV m_X11_leavesOf 1 := ⟨⟨tw_1964, tw_114, ⟨by decide +kernel, by decide +kernel, by decide +kernel⟩, by decide +kernel, by decide, fun _ => trivial, rfl⟩, tw_1963, tw_96⟩
theorem k_X11_askOf : MOkV m_X11_askOf 0 := ⟨⟨tw_1960, tw_114, ⟨by decide +kernel, by decide +kernel, by decide +kernel⟩, by decide +kernel, by decide, fun _ => trivial, rfl⟩, tw_1959, tw_95⟩
theorem k_X11_ask : MOkV m_X11_ask 0 := ⟨⟨tw_1956, tw_114, ⟨by decide +kernel, by decide +kernel, by decide +kernel⟩, by decide +kernel, by decide, fun _ => trivial, rfl⟩, tw_1954, tw_1955⟩
theorem k_X11_askLeaves : MOkV m_X11_askLeaves 0 := ⟨⟨tw_1968, tw_114, ⟨by decide +kernel, by decide +kernel, by decide +kernel⟩, by decide +kernel, by decide, fun _ => trivial, rfl⟩, tw_1966, tw_1967⟩
theorem k_X11_judge : MOkV m_X11_judge 0 := ⟨⟨tw_1972, tw_114, ⟨by decide +kernel, by decide +kernel, by decide +kernel⟩, by decide +kernel, by decide, fun _ => trivial, rfl⟩, tw_1970, tw_1971⟩
theorem k_X11_tryRain : MOkV m_X11_tryRain 2 := ⟨⟨tw_1980, tw_114, ⟨by decide +kernel, by decide +kernel, by decide +kernel⟩, by decide +kernel, by decide, fun _ => trivial, rfl⟩, tw_1979, tw_97⟩
theorem k_X11_odds : MOkV m_X11_odds 3 := ⟨⟨tw_1976, tw_114, ⟨by decide +kernel, by decide +kernel, by decide +kernel⟩, by decide +kernel, by decide, fun _ => trivial, rfl⟩, tw_1974, tw_1975⟩
theorem k_X11_mean : MOkV m_X11_mean 2 := ⟨⟨tw_1988, tw_114, ⟨by decide +kernel, by decide +kernel, by decide +kernel⟩, by decide +kernel, by decide, fun _ => trivial, rfl⟩, tw_1986, tw_1987⟩
theorem k_X11_hopes : MOkV m_X11_hopes 2 := ⟨⟨tw_1992, tw_114, ⟨by decide +kernel, by decide +kernel, by decide +kernel⟩, by decide +kernel, by decide, fun _ => trivial, rfl⟩, tw_1990, tw_1991⟩
theorem k_X11_racesWhy : MOkV m_X11_racesWhy 4 := ⟨⟨tw_2000, tw_114, ⟨by decide +kernel, by decide +kernel, by decide +kernel⟩, by decide +kernel, by decide, fun _ => trivial, rfl⟩, tw_1999, tw_98⟩
theorem k_X11_wins : MOkV m_X11_wins 3 := ⟨⟨tw_1996, tw_114, ⟨by decide +kernel, by decide +kernel, by decide +kernel⟩, by decide +kernel, by decide, fun _ => trivial, rfl⟩, tw_1994, tw_1995⟩
theorem k_X11_record : MOkV m_X11_record 2 := ⟨⟨tw_2006, tw_114, ⟨by decide +kernel, by decide +kernel, by decide +kernel⟩, by decide +kernel, by decide, fun _ => trivial, rfl⟩, tw_2004, tw_2005⟩
theorem k_X11_weirOf : MOkS m_X11_weirOf 3 := ⟨⟨tw_2013, tw_114, ⟨by decide +kernel, by decide +kernel, by decide +kernel⟩, by decide +kernel, by decide, fun _ => trivial, rfl⟩, tw_2012⟩
theorem k_X11_weir : MOkV m_X11_weir 4 := ⟨⟨tw_2010, tw_114, ⟨by decide +kernel, by decide +kernel, by decide +kernel⟩, by decide +kernel, by decide, fun _ => trivial, rfl⟩, tw_2008, tw_2009⟩
theorem k_X11_isRest : MOkS m_X11_isRest 3 := ⟨⟨tw_2024, tw_114, ⟨by decide +kernel, by decide +kernel, by decide +kernel⟩, by decide +kernel, by decide, fun _ => trivial, rfl⟩, tw_2023⟩
theorem k_X11_seekRests : MOkV m_X11_seekRests 1 := ⟨⟨tw_2021, tw_114, ⟨by decide +kernel, by decide +kernel, by decide +kernel⟩, by decide +kernel, by decide, fun _ => trivial, rfl⟩, tw_2020, tw_99⟩
theorem k_X11_rests : MOkV m_X11_rests 1 := ⟨⟨tw_2017, tw_114, ⟨by decide +kernel, by decide +kernel, by decide +kernel⟩, by decide +kernel, by decide, fun _ => trivial, rfl⟩, tw_2015, tw_2016⟩
theorem k_X11_rest : MOkV m_X11_rest 1 := ⟨⟨tw_2028, tw_114, ⟨by decide +kernel, by decide +kernel, by decide +kernel⟩, by decide +kernel, by decide, fun _ => trivial, rfl⟩, tw_2026, tw_2027⟩
theorem k_X11_note : MOkV m_X11_note 0 := ⟨⟨tw_2036, tw_114, ⟨by decide +kernel, by decide +kernel, by decide +kernel⟩, by decide +kernel, by decide, fun _ => trivial, rfl⟩, tw_2035, tw_100⟩
theorem k_X11_board : MOkV m_X11_board 2 := ⟨⟨tw_2032, tw_114, ⟨by decide +kernel, by decide +kernel, by decide +kernel⟩, by decide +kernel, by decide, fun _ => trivial, rfl⟩, tw_2030, tw_2031⟩
theorem k_X11_ashore : MOkV m_X11_ashore 1 := ⟨⟨tw_2040, tw_114, ⟨by decide +kernel, by decide +kernel, by decide +kernel⟩, by decide +kernel, by decide, fun _ => trivial, rfl⟩, tw_2038, tw_2039⟩
theorem k_X11_light : MOkV m_X11_light 2 := ⟨⟨tw_2048, tw_114, ⟨by decide +kernel, by decide +kernel, by decide +kernel⟩, by decide +kernel, by decide, fun _ => trivial, rfl⟩, tw_2046, tw_2047⟩
theorem k_X11_cross : MOkV m_X11_cross 1 := ⟨⟨tw_2052, tw_114, ⟨by decide +kernel, by decide +kernel, by decide +kernel⟩, by decide +kernel, by decide, fun _ => trivial, rfl⟩, tw_2050, tw_2051⟩
theorem k_X11_raise : MOkV m_X11_raise 1 := ⟨⟨tw_2056, tw_114, ⟨by decide +kernel, by decide +kernel, by decide +kernel⟩, by decide +kernel, by decide, fun _ => trivial, rfl⟩, tw_2054, tw_2055⟩
theorem k_X11_undo : MOkV m_X11_undo 0 := ⟨⟨tw_2060, tw_114, ⟨by decide +kernel, by decide +kernel, by decide +kernel⟩, by decide +kernel, by decide, fun _ => trivial, rfl⟩, tw_2058, tw_2059⟩
theorem k_X11_image : MOkV m_X11_image 0 := ⟨⟨tw_2064, tw_114, ⟨by decide +kernel, by decide +kernel, by decide +kernel⟩, by decide +kernel, by decide, fun _ => trivial, rfl⟩, tw_2062, tw_2063⟩
theorem k_X11_back : MOkV m_X11_back 1 := ⟨⟨tw_2068, tw_114, ⟨by decide +kernel, by decide +kernel, by decide +kernel⟩, by decide +kernel, by decide, fun _ => trivial, rfl⟩, tw_2066, tw_2067⟩
theorem k_X11_led : MOkV m_X11_led 1 := ⟨⟨tw_2072, tw_114, ⟨by decide +kernel, by decide +kernel, by decide +kernel⟩, by decide +kernel, by decide, fun _ => trivial, rfl⟩, tw_2070, tw_2071⟩
theorem k_X11_size : MOkV m_X11_size 1 := ⟨⟨tw_2076, tw_114, ⟨by decide +kernel, by decide +kernel, by decide +kernel⟩, by decide +kernel, by decide, fun _ => trivial, rfl⟩, tw_2074, tw_2075⟩
theorem k_X11_trouble : MOkV m_X11_trouble 0 := ⟨⟨tw_2080, tw_114, ⟨by decide +kernel, by decide +kernel, by decide +kernel⟩, by decide +kernel, by decide, fun _ => trivial, rfl⟩, tw_2078, tw_2079⟩
theorem k_J6_bitCount_0f7a4 : MOkS m_J6_bitCount_0f7a4 1 := ⟨⟨tw_742, tw_120, ⟨by decide +kernel, by decide +kernel, by decide +kernel⟩, by decide +kernel, by decide, fun _ => trivial, rfl⟩, tw_741⟩
theorem k_J0_length_8abf5 : MOkV m_J0_length_8abf5 0 := ⟨⟨tw_588, tw_116, ⟨by decide +kernel, by decide +kernel, by decide +kernel⟩, by decide +kernel, by decide, fun _ => trivial, rfl⟩, tw_586, tw_587⟩
theorem k_J0_charAt_5068e : MOkV m_J0_charAt_5068e 1 := ⟨⟨tw_598, tw_116, ⟨by decide +kernel, by decide +kernel, by decide +kernel⟩, by decide +kernel, by decide, fun _ => trivial, rfl⟩, tw_596, tw_597⟩
theorem k_J0_coder_7d493 : MOkV m_J0_coder_7d493 0 := ⟨⟨tw_592, tw_116, ⟨by decide +kernel, by decide +kernel, by decide +kernel⟩, by decide +kernel, by decide, fun _ => trivial, rfl⟩, tw_590, tw_591⟩
theorem k_J0_isLatin1_aae02 : MOkV m_J0_isLatin1_aae02 0 := ⟨⟨tw_602, tw_116, ⟨by decide +kernel, by decide +kernel, by decide +kernel⟩, by decide +kernel, by decide, fun _ => trivial, rfl⟩, tw_600, tw_601⟩
theorem k_J0_checkIndex_df160 : MOkS m_J0_checkIndex_df160 2 := ⟨⟨tw_608, tw_116, ⟨by decide +kernel, by decide +kernel, by decide +kernel⟩, by decide +kernel, by decide, fun _ => trivial, rfl⟩, tw_607⟩
theorem k_J1_charAt_3b067 : MOkS m_J1_charAt_3b067 2 := ⟨⟨tw_605, tw_117, ⟨by decide +kernel, by decide +kernel, by decide +kernel⟩, by decide +kernel, by decide, fun _ => trivial, rfl⟩, tw_604⟩
theorem k_J3_checkIndex_8e157 : MOkS m_J3_checkIndex_8e157 3 := ⟨⟨tw_613, tw_118, ⟨by decide +kernel, by decide +kernel, by decide +kernel⟩, by decide +kernel, by decide, fun _ => trivial, rfl⟩, tw_612⟩
