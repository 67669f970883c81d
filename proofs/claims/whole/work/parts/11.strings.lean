theorem ini_J0 : Cond.initialized RJ0 ∈ WS := tb1 (List.mem_of_getElem? (i := 14) (by decide +kernel)) rfl
theorem ini_J1 : Cond.initialized RJ1 ∈ WS := tb1 (List.mem_of_getElem? (i := 15) (by decide +kernel)) rfl
theorem ini_J3 : Cond.initialized RJ3 ∈ WS := tb1 (List.mem_of_getElem? (i := 16) (by decide +kernel)) rfl
theorem mi_J0_length_8abf5 : MI yJ0_length_8abf5 cJ0_length_8abf5 1 (some .int) 0 := ⟨ini_J0, tb3 (List.mem_of_getElem? (i := 27) (by decide +kernel)) rfl, ⟨by decide +kernel, by decide +kernel, by decide +kernel⟩, by decide +kernel⟩
theorem mt_J0_length_8abf5 : Cond.instanceMethod yJ0_length_8abf5 ∈ WS ∧ Cond.selects yJ0_length_8abf5.cls yJ0_length_8abf5 yJ0_length_8abf5 ∈ WS ∧ yJ0_length_8abf5.cls = "java/lang/String" := ⟨tb3 (List.mem_of_getElem? (i := 25) (by decide +kernel)) rfl, tb3 (List.mem_of_getElem? (i := 26) (by decide +kernel)) rfl, rfl⟩
theorem mi_J0_coder_7d493 : MI yJ0_coder_7d493 cJ0_coder_7d493 1 (some .byte) 0 := ⟨ini_J0, tb3 (List.mem_of_getElem? (i := 31) (by decide +kernel)) rfl, ⟨by decide +kernel, by decide +kernel, by decide +kernel⟩, by decide +kernel⟩
theorem mt_J0_coder_7d493 : Cond.instanceMethod yJ0_coder_7d493 ∈ WS ∧ Cond.selects yJ0_coder_7d493.cls yJ0_coder_7d493 yJ0_coder_7d493 ∈ WS ∧ yJ0_coder_7d493.cls = "java/lang/String" := ⟨tb3 (List.mem_of_getElem? (i := 29) (by decide +kernel)) rfl, tb3 (List.mem_of_getElem? (i := 30) (by decide +kernel)) rfl, rfl⟩
theorem mi_J0_isLatin1_aae02 : MI yJ0_isLatin1_aae02 cJ0_isLatin1_aae02 1 (some .boolean) 0 := ⟨ini_J0, tb3 (List.mem_of_getElem? (i := 41) (by decide +kernel)) rfl, ⟨by decide +kernel, by decide +kernel, by decide +kernel⟩, by decide +kernel⟩
theorem mt_J0_isLatin1_aae02 : Cond.instanceMethod yJ0_isLatin1_aae02 ∈ WS ∧ Cond.selects yJ0_isLatin1_aae02.cls yJ0_isLatin1_aae02 yJ0_isLatin1_aae02 ∈ WS ∧ yJ0_isLatin1_aae02.cls = "java/lang/String" := ⟨tb3 (List.mem_of_getElem? (i := 39) (by decide +kernel)) rfl, tb3 (List.mem_of_getElem? (i := 40) (by decide +kernel)) rfl, rfl⟩
theorem mi_J0_charAt_5068e : MI yJ0_charAt_5068e cJ0_charAt_5068e 2 (some .char) 1 := ⟨ini_J0, tb3 (List.mem_of_getElem? (i := 37) (by decide +kernel)) rfl, ⟨by decide +kernel, by decide +kernel, by decide +kernel⟩, by decide +kernel⟩
theorem mt_J0_charAt_5068e : Cond.instanceMethod yJ0_charAt_5068e ∈ WS ∧ Cond.selects yJ0_charAt_5068e.cls yJ0_charAt_5068e yJ0_charAt_5068e ∈ WS ∧ yJ0_charAt_5068e.cls = "java/lang/String" := ⟨tb3 (List.mem_of_getElem? (i := 35) (by decide +kernel)) rfl, tb3 (List.mem_of_getElem? (i := 36) (by decide +kernel)) rfl, rfl⟩
theorem mi_J0_checkIndex_df160 : MI yJ0_checkIndex_df160 cJ0_checkIndex_df160 2 (none) 2 := ⟨ini_J0, tb3 (List.mem_of_getElem? (i := 47) (by decide +kernel)) rfl, ⟨by decide +kernel, by decide +kernel, by decide +kernel⟩, by decide +kernel⟩
theorem ms_J0_checkIndex_df160 : Cond.static yJ0_checkIndex_df160 ∈ WS := tb3 (List.mem_of_getElem? (i := 46) (by decide +kernel)) rfl
theorem mi_J1_charAt_3b067 : MI yJ1_charAt_3b067 cJ1_charAt_3b067 2 (some .char) 2 := ⟨ini_J1, tb3 (List.mem_of_getElem? (i := 44) (by decide +kernel)) rfl, ⟨by decide +kernel, by decide +kernel, by decide +kernel⟩, by decide +kernel⟩
theorem ms_J1_charAt_3b067 : Cond.static yJ1_charAt_3b067 ∈ WS := tb3 (List.mem_of_getElem? (i := 43) (by decide +kernel)) rfl
theorem mi_J3_checkIndex_8e157 : MI yJ3_checkIndex_8e157 cJ3_checkIndex_8e157 3 (some .int) 3 := ⟨ini_J3, tb3 (List.mem_of_getElem? (i := 52) (by decide +kernel)) rfl, ⟨by decide +kernel, by decide +kernel, by decide +kernel⟩, by decide +kernel⟩
theorem ms_J3_checkIndex_8e157 : Cond.static yJ3_checkIndex_8e157 ∈ WS := tb3 (List.mem_of_getElem? (i := 51) (by decide +kernel)) rfl
theorem ml_J0_335 : Cond.methodLink RJ0 335 yJ0_coder_7d493 ∈ WS := tb3 (List.mem_of_getElem? (i := 28) (by decide +kernel)) rfl
theorem ml_J0_492 : Cond.methodLink RJ0 492 yJ0_isLatin1_aae02 ∈ WS := tb3 (List.mem_of_getElem? (i := 38) (by decide +kernel)) rfl
theorem ml_J0_495 : Cond.methodLink RJ0 495 yJ1_charAt_3b067 ∈ WS := tb3 (List.mem_of_getElem? (i := 42) (by decide +kernel)) rfl
theorem ml_J1_9 : Cond.methodLink RJ1 9 yJ0_checkIndex_df160 ∈ WS := tb3 (List.mem_of_getElem? (i := 45) (by decide +kernel)) rfl
theorem ml_J0_1059 : Cond.methodLink RJ0 1059 yJ3_checkIndex_8e157 ∈ WS := tb3 (List.mem_of_getElem? (i := 50) (by decide +kernel)) rfl
theorem fl_J0_38 : Cond.fieldLink RJ0 38 "java/lang/String" "COMPACT_STRINGS" "Z" ∈ WS := tb3 (List.mem_of_getElem? (i := 32) (by decide +kernel)) rfl
theorem fl_J0_9 : Cond.fieldLink RJ0 9 "java/lang/String" "value" "[B" ∈ WS := tb8 (List.mem_of_getElem? (i := 194) (by decide +kernel)) rfl
theorem fl_J0_15 : Cond.fieldLink RJ0 15 "java/lang/String" "coder" "B" ∈ WS := tb8 (List.mem_of_getElem? (i := 195) (by decide +kernel)) rfl
theorem fl_J0_1053 : Cond.fieldLink RJ0 1053 "jdk/internal/util/Preconditions" "SIOOBE_FORMATTER" "Ljava/util/function/BiFunction;" ∈ WS := tb3 (List.mem_of_getElem? (i := 48) (by decide +kernel)) rfl
section AWT
variable {p : Program} {l : Launch} {e : Env} {R : Room} {s : State} {m : MethodId} {args : Array Value} {below : List Frame} {meth : Method} {c : Code} {Q : State → Prop} {cells slots : Nat}
variable {G : Gv} {cc : ByteArray} {nL : Nat} {own : String} {pc : Nat} {lv : List (Option Value)} {st : List Value} {sh : Shp} {ν : Cnt} {σ : Sto}
theorem st_tval (h : Cx p s m args meth c G cc nL own) {index i : Nat} (hl : Cond.fieldLink own index "java/lang/String" "value" "[B" ∈ WS) (d : decode cc pc = .ok (.getfield index, 3)) (hi : i < 12) (k : AW p l e R s m args below meth c Q cells slots G nL (pc + 3) lv (.retAddr (100 + i) :: st) sh ν σ) : AW p l e R s m args below meth c Q cells slots G nL pc lv (.retAddr i :: st) sh ν σ :=
  fun H locs ls hH hS hl' => vk_getf h.x h.b ((h.ex.1.1 i hi).2.2.1) hS h.o (h.t _ hl) (fun _ q => q) d (k H locs ls hH hS hl')
theorem st_tcod (h : Cx p s m args meth c G cc nL own) {index i : Nat} (hl : Cond.fieldLink own index "java/lang/String" "coder" "B" ∈ WS) (d : decode cc pc = .ok (.getfield index, 3)) (hi : i < 12) (k : AW p l e R s m args below meth c Q cells slots G nL (pc + 3) lv (.int 0 :: st) sh ν σ) : AW p l e R s m args below meth c Q cells slots G nL pc lv (.retAddr i :: st) sh ν σ :=
  fun H locs ls hH hS hl' => vk_getf h.x h.b ((h.ex.1.1 i hi).2.1) hS h.o (h.t _ hl) (fun _ q => q) d (k H locs ls hH hS hl')
theorem st_tlen (h : Cx p s m args meth c G cc nL own) {i : Nat} (d : decode cc pc = .ok (.arraylength, 1)) (hi : i < 12) (k : AW p l e R s m args below meth c Q cells slots G nL (pc + 1) lv (.int (nI (lenTx.getD i 0)) :: st) sh ν σ) : AW p l e R s m args below meth c Q cells slots G nL pc lv (.retAddr (100 + i) :: st) sh ν σ :=
  fun H locs ls hH hS hl' => va_tlen h.x h.b ((h.ex.1.1 i hi).2.2.2) hS rfl d (k H locs ls hH hS hl')
theorem st_tbal (h : Cx p s m args meth c G cc nL own) {i : Nat} {j : Int32} (d : decode cc pc = .ok (.baload, 1)) (hi : i < 12) (hj : ib j (lenTx.getD i 0)) (k : AW p l e R s m args below meth c Q cells slots G nL (pc + 1) lv (.int ((bytTx.getD i []).getD (ix j) 0) :: st) sh ν σ) : AW p l e R s m args below meth c Q cells slots G nL pc lv (.int j :: .retAddr (100 + i) :: st) sh ν σ :=
  fun H locs ls hH hS hl' => va_tb h.x h.b ((h.ex.1.1 i hi).2.2.2) hS hj rfl d (k H locs ls hH hS hl')
theorem st_tcs (h : Cx p s m args meth c G cc nL own) {index : Nat} (hl : Cond.fieldLink own index "java/lang/String" "COMPACT_STRINGS" "Z" ∈ WS) (d : decode cc pc = .ok (.getstatic index, 3)) (k : AW p l e R s m args below meth c Q cells slots G nL (pc + 3) lv (.int 1 :: st) sh ν σ) : AW p l e R s m args below meth c Q cells slots G nL pc lv st sh ν σ :=
  fun H locs ls hH hS hl' => va_gets h.x h.b h.ex.2.2.1 hS h.o (h.t _ hl) (fun _ q => q) d (k H locs ls hH hS hl')
theorem st_tfm (h : Cx p s m args meth c G cc nL own) {index : Nat} (hl : Cond.fieldLink own index "jdk/internal/util/Preconditions" "SIOOBE_FORMATTER" "Ljava/util/function/BiFunction;" ∈ WS) (d : decode cc pc = .ok (.getstatic index, 3)) (k : ∀ v : Value, v = .null ∨ v = .retAddr 200 → AW p l e R s m args below meth c Q cells slots G nL (pc + 3) lv (v :: st) sh ν σ) : AW p l e R s m args below meth c Q cells slots G nL pc lv st sh ν σ :=
  fun H locs ls hH hS hl' => h.ex.2.2.2.2.2.2.elim (fun z => va_gets h.x h.b z hS h.o (h.t _ hl) (fun _ q => q) d (k .null (Or.inl rfl) H locs ls hH hS hl')) (fun z => va_gets h.x h.b z hS h.o (h.t _ hl) (fun _ q => q) d (k (.retAddr 200) (Or.inr rfl) H locs ls hH hS hl'))
theorem st_i2c (h : Cx p s m args meth c G cc nL own) {x : Int32} (d : decode cc pc = .ok (.i2c, 1)) (k : AW p l e R s m args below meth c Q cells slots G nL (pc + 1) lv (.int ((x.toUInt32 % 65536).toInt32) :: st) sh ν σ) : AW p l e R s m args below meth c Q cells slots G nL pc lv (.int x :: st) sh ν σ :=
  fun H locs ls hH hS hl' => lv_i2c h.x h.b d rfl (k H locs ls hH hS hl')
theorem st_nret (h : Cx p s m args meth c G cc nL own) {v : Int32} {ty : FieldType} (hr : meth.sig.returnType = some ty) (hv : narrow ty (.int v) = .int v) (d : decode cc pc = .ok (.ireturn, 1)) : AW p l e R s m args below meth c (MQ below (QcR G sh ν (some (.int v)) σ) args s cells slots (gA G)) cells slots G nL pc lv [.int v] sh ν σ :=
  fun H locs ls hH hS hl => W.zret (v := v) h.x h.b hr hv (fun t ht hW => ⟨rfl, by rw [ht]; exact hH, hS.F ht⟩) hS.2.2 d h.lk
theorem st_cT (h : Cx p s m args meth c G cc nL own) {y : MethodName} {bytes : ByteArray} {maxL fr n index i : Nat} {ret : Option FieldType} {vs stk : List Value} {v : Int32} (hM : Con l y bytes maxL ret fr G sh ν (.retAddr i :: vs) σ (some (.int v)) σ) (hi : MI y bytes maxL ret n) (hi2 : Cond.instanceMethod y ∈ WS ∧ Cond.selects y.cls y y ∈ WS ∧ y.cls = "java/lang/String") (hl : Cond.methodLink own index y ∈ WS) (d : decode cc pc = .ok (.invokevirtual index, 3)) (ht : i < 12) (hn : vs.length = n) (hR : fr + 1 ≤ R.frames ∧ 8 + (maxL + 11) + 64 * fr ≤ R.locals) (hst : (st.map fun v => v.category).sum ≤ 8) (hs : stk = vs.reverse ++ .retAddr i :: st)
    (k : AW p l e R s m args below meth c Q 0 0 G nL (pc + 3) lv (.int v :: st) sh ν σ) : AW p l e R s m args below meth c Q 0 0 G nL pc lv stk sh ν σ := by
  intro H locs ls hH hS hl'
  subst hs
  obtain ⟨i1, i2, i3, i4⟩ := id hi
  obtain ⟨j1, j2, j3⟩ := hi2
  refine call_k (mc := 0) (ms := 0) (a := (Value.ref (G.2.2.2 i) :: vs.map (cv G)).toArray) (rest := st.map (cv G)) (va_runV (C := y.cls) (b := G.2.2.2 i) (As := vs.map (cv G)) (rest := st.map (cv G)) (n := n) (g := F0 m pc ls ((vs.reverse ++ Value.retAddr i :: st).map (cv G))) (bytes := bytes) (maxL := maxL) (ret := ret) ⟨h.x, h.b, h.ml, h.o, h.t⟩ hM ⟨callB_of n h.t hi.good rfl rfl rfl (h.t _ i1) (h.t _ hl) i3 hR, h.t _ j1, h.t _ j2⟩ ⟨Con_blind, by rw [j3]; exact vk_recv h.ex.1 ht hS, fun U hU hW => ⟨rfl, h.on hS hU hW, by rw [hU]; exact hH⟩⟩ rfl (by rw [List.length_map]; exact hn) hl'.1 ?_ ?_ d ⟨Nat.zero_le _, Nat.zero_le _⟩) hS hl' ?_ k
  · simp [List.map_append, List.map_reverse, cv]
  · show 2 * 0 + _ ≤ 8
    rw [cat_sum]
    omega
  · rfl
end AWT
theorem tx_shr : ∀ i, i < 12 → nI (lenTx.getD i 0) >>> ((0 : Int32) &&& 31) = nI (lenTx.getD i 0) := by decide +kernel
theorem tx_chr : ∀ i, i < 12 → ∀ k, k < lenTx.getD i 0 → ((((bytTx.getD i []).getD k 0) &&& 255).toUInt32 % 65536).toInt32 = (bytTx.getD i []).getD k 0 ∧ narrow .char (.int ((bytTx.getD i []).getD k 0)) = .int ((bytTx.getD i []).getD k 0) := by decide +kernel
theorem tx_len : ∀ i, i < 12 → lenTx.getD i 0 < 8 := by decide +kernel
theorem ib_nI {j : Int32} {n : Nat} (h : ib j n) (hn : n < 2 ^ 31) : j < nI n := by
  obtain ⟨h1, h2⟩ := not_or.mp h
  have h2 := Nat.lt_of_not_le h2
  have e : (nI n).toInt = (n : Int) := nI_toInt hn
  rw [Int32.lt_iff_toInt_lt, e]
  have h3 : (0 : Int) ≤ j.toInt := by
    have := Int32.not_lt.mp h1
    simpa using Int32.le_iff_toInt_le.mp this
  have h4 : j.toInt.toNat < n := h2
  omega
section TXC
variable {l : Launch} {G : Gv} {sh : Shp} {ν : Cnt} {σ : Sto}
set_option maxHeartbeats 4000000 in
theorem w_coder {i : Nat} (hi : i < 12) : Con l yJ0_coder_7d493 cJ0_coder_7d493 1 (some .byte) 1 G sh ν [.retAddr i] σ (some (.int 0)) σ := by
  refine Con_enter (own := RJ0) 0 (lv := [some (.retAddr i)]) mi_J0_coder_7d493.2.2.2 rfl (Nat.le_of_ble_eq_true rfl) rfl (fun h hr hin => ?_)
  refine st_tcs h fl_J0_38 dJ0_coder_7d493_0 ?_
  refine st_if_eq (t := 13) h dJ0_coder_7d493_3 (by decide) (fun q => absurd q (by decide)) (fun q => ?_)
  refine st_tload_0 h dJ0_coder_7d493_6 ?_
  refine st_tcod h fl_J0_15 dJ0_coder_7d493_7 hi ?_
  refine st_goto (t := 14) h dJ0_coder_7d493_10 (by decide) ?_
  exact st_nret h hr rfl dJ0_coder_7d493_14
set_option maxHeartbeats 4000000 in
theorem w_isLatin1 {i : Nat} (hi : i < 12) : Con l yJ0_isLatin1_aae02 cJ0_isLatin1_aae02 1 (some .boolean) 1 G sh ν [.retAddr i] σ (some (.int 1)) σ := by
  refine Con_enter (own := RJ0) 0 (lv := [some (.retAddr i)]) mi_J0_isLatin1_aae02.2.2.2 rfl (Nat.le_of_ble_eq_true rfl) rfl (fun h hr hin => ?_)
  refine st_tcs h fl_J0_38 dJ0_isLatin1_aae02_0 ?_
  refine st_if_eq (t := 17) h dJ0_isLatin1_aae02_3 (by decide) (fun q => absurd q (by decide)) (fun q => ?_)
  refine st_tload_0 h dJ0_isLatin1_aae02_6 ?_
  refine st_tcod h fl_J0_15 dJ0_isLatin1_aae02_7 hi ?_
  refine st_if_ne (t := 17) h dJ0_isLatin1_aae02_10 (by decide) (fun q => absurd rfl q) (fun q => ?_)
  refine st_ic_1 h dJ0_isLatin1_aae02_13 ?_
  refine st_goto (t := 18) h dJ0_isLatin1_aae02_14 (by decide) ?_
  exact st_nret h hr rfl dJ0_isLatin1_aae02_18
set_option maxHeartbeats 4000000 in
theorem w_slen {i : Nat} (hi : i < 12) : Con l yJ0_length_8abf5 cJ0_length_8abf5 1 (some .int) 2 G sh ν [.retAddr i] σ (some (.int (nI (lenTx.getD i 0)))) σ := by
  refine Con_enter (own := RJ0) 0 (lv := [some (.retAddr i)]) mi_J0_length_8abf5.2.2.2 rfl (Nat.le_of_ble_eq_true rfl) rfl (fun h hr hin => ?_)
  refine st_tload_0 h dJ0_length_8abf5_0 ?_
  refine st_tval h fl_J0_9 dJ0_length_8abf5_1 hi ?_
  refine st_tlen h dJ0_length_8abf5_4 hi ?_
  refine st_tload_0 h dJ0_length_8abf5_5 ?_
  refine st_cT (vs := []) (st := [.int (nI (lenTx.getD i 0))]) h (w_coder hi) mi_J0_coder_7d493 mt_J0_coder_7d493 ml_J0_335 dJ0_length_8abf5_6 hi rfl ⟨Nat.le_of_ble_eq_true rfl, Nat.le_of_ble_eq_true rfl⟩ (Nat.le_of_ble_eq_true rfl) rfl ?_
  refine st_ishr h dJ0_length_8abf5_9 ?_
  refine st_nmi (tx_shr i hi) ?_
  exact st_nret h hr rfl dJ0_length_8abf5_10
set_option maxHeartbeats 4000000 in
theorem w_pck {i n : Int32} {v : Value} (hv : v = .null ∨ v = .retAddr 200) (h1 : ¬ i < 0) (h2 : i < n) : Con l yJ3_checkIndex_8e157 cJ3_checkIndex_8e157 3 (some .int) 1 G sh ν [.int i, .int n, v] σ (some (.int i)) σ := by
  have hc : (cv G v).category = 1 := by rcases hv with rfl | rfl <;> rfl
  have hc2 : v.category = 1 := by rcases hv with rfl | rfl <;> rfl
  refine Con_enter (own := RJ3) 0 (lv := [some (.int i), some (.int n), some v]) mi_J3_checkIndex_8e157.2.2.2 rfl (by rcases hv with rfl | rfl <;> exact (Nat.le_of_ble_eq_true rfl)) (by rcases hv with rfl | rfl <;> rfl) (fun h hr hin => ?_)
  refine st_iload_0 h dJ3_checkIndex_8e157_0 ?_
  refine st_if_lt (t := 9) h dJ3_checkIndex_8e157_1 (by decide) (fun q => absurd q h1) (fun q => ?_)
  refine st_iload_0 h dJ3_checkIndex_8e157_4 ?_
  refine st_iload_1 h dJ3_checkIndex_8e157_5 ?_
  refine st_icmp_lt (t := 16) h dJ3_checkIndex_8e157_6 (by decide) (fun q => ?_) (fun q => absurd h2 q)
  refine st_iload_0 h dJ3_checkIndex_8e157_16 ?_
  exact st_nret h hr rfl dJ3_checkIndex_8e157_17
set_option maxHeartbeats 4000000 in
theorem w_sck {i n : Int32} (h1 : ¬ i < 0) (h2 : i < n) : Con l yJ0_checkIndex_df160 cJ0_checkIndex_df160 2 none 2 G sh ν [.int i, .int n] σ none σ := by
  refine Con_enter (own := RJ0) 0 (lv := [some (.int i), some (.int n)]) mi_J0_checkIndex_df160.2.2.2 rfl (Nat.le_of_ble_eq_true rfl) rfl (fun h hr hin => ?_)
  refine st_iload_0 h dJ0_checkIndex_df160_0 ?_
  refine st_iload_1 h dJ0_checkIndex_df160_1 ?_
  refine st_tfm h fl_J0_1053 dJ0_checkIndex_df160_2 (fun v hv => ?_)
  refine st_cSi (vs := [.int i, .int n, v]) (st := []) h (w_pck hv h1 h2) mi_J3_checkIndex_8e157 ms_J3_checkIndex_8e157 ml_J0_1059 dJ0_checkIndex_df160_5 rfl ⟨Nat.le_of_ble_eq_true rfl, Nat.le_of_ble_eq_true rfl⟩ (Nat.le_of_ble_eq_true rfl) rfl ?_
  refine st_pop h rfl dJ0_checkIndex_df160_8 ?_
  exact st_vret h hr dJ0_checkIndex_df160_9
set_option maxHeartbeats 4000000 in
theorem w_lch {i : Nat} {j : Int32} (hi : i < 12) (hj : ib j (lenTx.getD i 0)) : Con l yJ1_charAt_3b067 cJ1_charAt_3b067 2 (some .char) 3 G sh ν [.retAddr (100 + i), .int j] σ (some (.int ((bytTx.getD i []).getD (ix j) 0))) σ := by
  have hlt : j < nI (lenTx.getD i 0) := ib_nI hj (Nat.lt_trans (tx_len i hi) (by decide))
  have hch := tx_chr i hi (ix j) (ib_lt hj)
  refine Con_enter (own := RJ1) 0 (lv := [some (.retAddr (100 + i)), some (.int j)]) mi_J1_charAt_3b067.2.2.2 rfl (Nat.le_of_ble_eq_true rfl) rfl (fun h hr hin => ?_)
  refine st_iload_1 h dJ1_charAt_3b067_0 ?_
  refine st_tload_0 h dJ1_charAt_3b067_1 ?_
  refine st_tlen h dJ1_charAt_3b067_2 hi ?_
  refine st_callS (vs := [.int j, .int (nI (lenTx.getD i 0))]) (st := []) (st' := []) (mc := 0) (ms := 0) h (w_sck (not_or.mp hj).1 hlt) mi_J0_checkIndex_df160 ms_J0_checkIndex_df160 ml_J1_9 dJ1_charAt_3b067_3 rfl ⟨Nat.le_of_ble_eq_true rfl, Nat.le_of_ble_eq_true rfl⟩ (Nat.le_of_ble_eq_true rfl) ⟨Nat.zero_le _, Nat.zero_le _⟩ rfl rfl ?_
  refine st_tload_0 h dJ1_charAt_3b067_6 ?_
  refine st_iload_1 h dJ1_charAt_3b067_7 ?_
  refine st_tbal h dJ1_charAt_3b067_8 hi hj ?_
  refine st_sipush (v := 255) h dJ1_charAt_3b067_9 (by decide) ?_
  refine st_iand h dJ1_charAt_3b067_12 ?_
  refine st_i2c h dJ1_charAt_3b067_13 ?_
  refine st_nmi hch.1 ?_
  exact st_nret h hr hch.2 dJ1_charAt_3b067_14
set_option maxHeartbeats 4000000 in
theorem w_sch {i : Nat} {j : Int32} (hi : i < 12) (hj : ib j (lenTx.getD i 0)) : Con l yJ0_charAt_5068e cJ0_charAt_5068e 2 (some .char) 4 G sh ν [.retAddr i, .int j] σ (some (.int ((bytTx.getD i []).getD (ix j) 0))) σ := by
  have hch := tx_chr i hi (ix j) (ib_lt hj)
  refine Con_enter (own := RJ0) 0 (lv := [some (.retAddr i), some (.int j)]) mi_J0_charAt_5068e.2.2.2 rfl (Nat.le_of_ble_eq_true rfl) rfl (fun h hr hin => ?_)
  refine st_tload_0 h dJ0_charAt_5068e_0 ?_
  refine st_cT (vs := []) (st := []) h (w_isLatin1 hi) mi_J0_isLatin1_aae02 mt_J0_isLatin1_aae02 ml_J0_492 dJ0_charAt_5068e_1 hi rfl ⟨Nat.le_of_ble_eq_true rfl, Nat.le_of_ble_eq_true rfl⟩ (Nat.le_of_ble_eq_true rfl) rfl ?_
  refine st_if_eq (t := 16) h dJ0_charAt_5068e_4 (by decide) (fun q => absurd q (by decide)) (fun q => ?_)
  refine st_tload_0 h dJ0_charAt_5068e_7 ?_
  refine st_tval h fl_J0_9 dJ0_charAt_5068e_8 hi ?_
  refine st_iload_1 h dJ0_charAt_5068e_11 ?_
  refine st_cSi (vs := [.retAddr (100 + i), .int j]) (st := []) h (w_lch hi hj) mi_J1_charAt_3b067 ms_J1_charAt_3b067 ml_J0_495 dJ0_charAt_5068e_12 rfl ⟨Nat.le_of_ble_eq_true rfl, Nat.le_of_ble_eq_true rfl⟩ (Nat.le_of_ble_eq_true rfl) rfl ?_
  exact st_nret h hr hch.2 dJ0_charAt_5068e_15
end TXC
section AWU
variable {p : Program} {l : Launch} {e : Env} {R : Room} {s : State} {m : MethodId} {args : Array Value} {below : List Frame} {meth : Method} {c : Code} {Q : State → Prop}
variable {G : Gv} {cc : ByteArray} {nL : Nat} {own : String} {pc : Nat} {lv : List (Option Value)} {st : List Value} {sh : Shp} {ν : Cnt} {σ : Sto}
theorem st_slen (h : Cx p s m args meth c G cc nL own) {index i : Nat} (hl : Cond.methodLink own index yJ0_length_8abf5 ∈ WS) (d : decode cc pc = .ok (.invokevirtual index, 3)) (ht : i < 12) (hR : 6 ≤ R.frames ∧ 384 ≤ R.locals) (hst : (st.map fun v => v.category).sum ≤ 8) (k : AW p l e R s m args below meth c Q 0 0 G nL (pc + 3) lv (.int (nI (lenTx.getD i 0)) :: st) sh ν σ) : AW p l e R s m args below meth c Q 0 0 G nL pc lv (.retAddr i :: st) sh ν σ :=
  st_cT (vs := []) (st := st) h (w_slen ht) mi_J0_length_8abf5 mt_J0_length_8abf5 hl d ht rfl ⟨by omega, by omega⟩ hst rfl k
theorem st_schar (h : Cx p s m args meth c G cc nL own) {index i : Nat} {j : Int32} (hl : Cond.methodLink own index yJ0_charAt_5068e ∈ WS) (d : decode cc pc = .ok (.invokevirtual index, 3)) (ht : i < 12) (hj : ib j (lenTx.getD i 0)) (hR : 6 ≤ R.frames ∧ 384 ≤ R.locals) (hst : (st.map fun v => v.category).sum ≤ 8) (k : AW p l e R s m args below meth c Q 0 0 G nL (pc + 3) lv (.int ((bytTx.getD i []).getD (ix j) 0) :: st) sh ν σ) : AW p l e R s m args below meth c Q 0 0 G nL pc lv (.int j :: .retAddr i :: st) sh ν σ :=
  st_cT (vs := [.int j]) (st := st) h (w_sch ht hj) mi_J0_charAt_5068e mt_J0_charAt_5068e hl d ht rfl ⟨by omega, by omega⟩ hst rfl k
end AWU

