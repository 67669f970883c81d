set_option maxRecDepth 100000 in
set_option maxHeartbeats 4000000 in
theorem w_X12_finds_14 {p : Program} {l : Launch} {e : Env} {s : State} {m : MethodId} {args : Array Value} {below : List Frame} {meth : Method} {c : Code} {G : Gv} (h : Cx p s m args meth c G cX12_finds 3 RX12) (hr : meth.sig.returnType = (some .int)) : ∀ (n : Nat) (σ : Sto) (i2 : Int32) (z : (Int32 × Sto)), F_X12_finds_14 n σ i2 = some z → AW p l e (rmD 10 0 0) s m args below meth c (MQ below (QcR G shM νM (some (.int z.1)) (ovM z.2)) args s 0 0 (gA G)) 0 0 G 3 14 [some (.ref 0), none, some (.int i2)] [] shM νM (ovM σ) := by
  intro n
  induction n with
  | zero => intro σ i2 z hF; cases hF
  | succ n ih =>
    intro σ i2 z hF
    rw [F_X12_finds_14] at hF
    refine st_iload_2 h dX12_finds_14 ?_
    refine st_aload_0 h dX12_finds_15 ?_
    refine gX12_28 h fl_X12_223 dX12_finds_16 (congrArg Prod.fst kM_0) ?_
    refine st_icmp_ge (t := 40) h dX12_finds_19 (by decide) (fun q1 => ?_) (fun q1 => ?_)
    · have hF := pI q1 hF
      refine st_aload_0 h dX12_finds_40 ?_
      refine st_ic_0 h dX12_finds_41 ?_
      refine st_aload_0 h dX12_finds_42 ?_
      obtain ⟨x1, hx1, hF⟩ := bI hF
      refine st_cVi (vs := []) (st := [.int 0, .ref 0]) h (w_X12_allowed hx1) mi_X12_allowed mv_X12_allowed ml_X12_260 dX12_finds_43 kM_0 rfl ⟨Nat.le_of_ble_eq_true rfl, Nat.le_of_ble_eq_true rfl⟩ (Nat.le_of_ble_eq_true rfl) rfl ?_
      refine st_ic_0 h dX12_finds_46 ?_
      obtain ⟨x2, hx2, hF⟩ := bI hF
      refine st_cVv (vs := [.int 0, .int x1, .int 0]) (st := []) h (w_X12_tries 6 σ 0 x1 0 x2 hx2) mi_X12_tries mv_X12_tries ml_X12_294 dX12_finds_47 kM_0 rfl ⟨Nat.le_of_ble_eq_true rfl, Nat.le_of_ble_eq_true rfl⟩ (Nat.le_of_ble_eq_true rfl) rfl ?_
      refine st_aload_0 h dX12_finds_50 ?_
      refine gX12_36 h fl_X12_286 dX12_finds_51 (congrArg Prod.fst kM_0) ?_
      cases hF
      exact st_iret h hr dX12_finds_54
    · have hF := qI q1 hF
      refine st_aload_0 h dX12_finds_22 ?_
      refine gX12_40 h fl_X12_67 dX12_finds_23 (congrArg Prod.fst kM_0) ?_
      refine st_iload_2 h dX12_finds_26 ?_
      refine st_aload_0 h dX12_finds_27 ?_
      refine st_iload_2 h dX12_finds_28 ?_
      refine st_ic_0 h dX12_finds_29 ?_
      obtain ⟨x3, hx3, hF⟩ := bI hF
      refine st_cVi (vs := [.int i2, .int 0]) (st := [.int i2, .ref 17]) h (w_X12_burden hx3) mi_X12_burden mv_X12_burden ml_X12_302 dX12_finds_30 kM_0 rfl ⟨Nat.le_of_ble_eq_true rfl, Nat.le_of_ble_eq_true rfl⟩ (Nat.le_of_ble_eq_true rfl) rfl ?_
      obtain ⟨g1, hF⟩ := gI hF
      obtain ⟨s1, hs1, hF⟩ := swI hF
      refine isM h dX12_finds_33 kM_17 g1 hs1 ?_
      refine st_iinc_2 (y := i2 + 1) h dX12_finds_34 (ii_1 _) ?_
      refine st_goto (t := 14) h dX12_finds_37 (by decide) ?_
      exact st_sub (ls_s (ls_n (ls_s ls_e))) (ih s1 (i2 + 1) z hF)
set_option maxRecDepth 100000 in
set_option maxHeartbeats 4000000 in
theorem w_X12_finds {l : Launch} {G : Gv} {σ : Sto} {i1 : Int32} {z : (Int32 × Sto)} (hF : F_X12_finds σ i1 = some z) : Con l yX12_finds cX12_finds 3 (some .int) 10 G shM νM [.ref 0, .int i1] (ovM σ) (some (.int z.1)) (ovM z.2) := by
  rw [F_X12_finds] at hF
  refine Con_enter (own := RX12) 1 (lv := [some (.ref 0), some (.int i1), none]) mi_X12_finds.2.2.2 rfl (Nat.le_of_ble_eq_true rfl) rfl (fun h hr hin => ?_)
  refine st_aload_0 h dX12_finds_0 ?_
  refine st_iload_1 h dX12_finds_1 ?_
  obtain ⟨x1, hx1, hF⟩ := bI hF
  refine st_cVv (vs := [.int i1]) (st := []) h (w_X12_laysWorth hx1) mi_X12_laysWorth mv_X12_laysWorth ml_X12_298 dX12_finds_2 kM_0 rfl ⟨Nat.le_of_ble_eq_true rfl, Nat.le_of_ble_eq_true rfl⟩ (Nat.le_of_ble_eq_true rfl) rfl ?_
  refine st_aload_0 h dX12_finds_5 ?_
  refine st_ldcw h ck_X12_282 dX12_finds_6 ?_
  obtain ⟨s1, hs1, hF⟩ := swI hF
  refine pX12_36 h fl_X12_286 dX12_finds_9 (congrArg Prod.fst kM_0) hs1 ?_
  refine st_ic_0 h dX12_finds_12 ?_
  refine st_istore_2 h dX12_finds_13 ?_
  exact st_sub (ls_s (ls_n (ls_s ls_e))) (w_X12_finds_14 h hr FU s1 0 z hF)
set_option maxRecDepth 100000 in
set_option maxHeartbeats 4000000 in
theorem w_X12_findsGentle {l : Launch} {G : Gv} {σ : Sto} {z : (Int32 × Sto)} (hF : F_X12_findsGentle σ  = some z) : Con l yX12_findsGentle cX12_findsGentle 2 (some .int) 11 G shM νM [.ref 0] (ovM σ) (some (.int z.1)) (ovM z.2) := by
  rw [F_X12_findsGentle] at hF
  refine Con_enter (own := RX12) 1 (lv := [some (.ref 0), none]) mi_X12_findsGentle.2.2.2 rfl (Nat.le_of_ble_eq_true rfl) rfl (fun h hr hin => ?_)
  refine st_aload_0 h dX12_findsGentle_0 ?_
  refine st_ic_1 h dX12_findsGentle_1 ?_
  obtain ⟨s1, hs1, hF⟩ := swI hF
  refine pX12_39 h fl_X12_283 dX12_findsGentle_2 (congrArg Prod.fst kM_0) (Or.inr rfl) hs1 ?_
  refine st_aload_0 h dX12_findsGentle_5 ?_
  refine st_ic_0 h dX12_findsGentle_6 ?_
  obtain ⟨x1, hx1, hF⟩ := bI hF
  refine st_cVi (vs := [.int 0]) (st := []) h (w_X12_finds hx1) mi_X12_finds mv_X12_finds ml_X12_305 dX12_findsGentle_7 kM_0 rfl ⟨Nat.le_of_ble_eq_true rfl, Nat.le_of_ble_eq_true rfl⟩ (Nat.le_of_ble_eq_true rfl) rfl ?_
  refine st_istore_1 h dX12_findsGentle_10 ?_
  refine st_aload_0 h dX12_findsGentle_11 ?_
  refine st_ic_0 h dX12_findsGentle_12 ?_
  obtain ⟨s2, hs2, hF⟩ := swI hF
  refine pX12_39 h fl_X12_283 dX12_findsGentle_13 (congrArg Prod.fst kM_0) (Or.inl rfl) hs2 ?_
  refine st_iload_1 h dX12_findsGentle_16 ?_
  cases hF
  exact st_iret h hr dX12_findsGentle_17
set_option maxRecDepth 100000 in
set_option maxHeartbeats 4000000 in
theorem w_X12_findsSteady {l : Launch} {G : Gv} {σ : Sto} {i1 : Int32} {z : (Int32 × Sto)} (hF : F_X12_findsSteady σ i1 = some z) : Con l yX12_findsSteady cX12_findsSteady 3 (some .int) 11 G shM νM [.ref 0, .int i1] (ovM σ) (some (.int z.1)) (ovM z.2) := by
  rw [F_X12_findsSteady] at hF
  refine Con_enter (own := RX12) 1 (lv := [some (.ref 0), some (.int i1), none]) mi_X12_findsSteady.2.2.2 rfl (Nat.le_of_ble_eq_true rfl) rfl (fun h hr hin => ?_)
  refine st_aload_0 h dX12_findsSteady_0 ?_
  refine st_iload_1 h dX12_findsSteady_1 ?_
  obtain ⟨s1, hs1, hF⟩ := swI hF
  refine pX12_38 h fl_X12_64 dX12_findsSteady_2 (congrArg Prod.fst kM_0) hs1 ?_
  refine st_aload_0 h dX12_findsSteady_5 ?_
  refine st_ic_0 h dX12_findsSteady_6 ?_
  obtain ⟨x1, hx1, hF⟩ := bI hF
  refine st_cVi (vs := [.int 0]) (st := []) h (w_X12_finds hx1) mi_X12_finds mv_X12_finds ml_X12_305 dX12_findsSteady_7 kM_0 rfl ⟨Nat.le_of_ble_eq_true rfl, Nat.le_of_ble_eq_true rfl⟩ (Nat.le_of_ble_eq_true rfl) rfl ?_
  refine st_istore_2 h dX12_findsSteady_10 ?_
  refine st_aload_0 h dX12_findsSteady_11 ?_
  refine st_ic_m1 h dX12_findsSteady_12 ?_
  obtain ⟨s2, hs2, hF⟩ := swI hF
  refine pX12_38 h fl_X12_64 dX12_findsSteady_13 (congrArg Prod.fst kM_0) hs2 ?_
  refine st_iload_2 h dX12_findsSteady_16 ?_
  cases hF
  exact st_iret h hr dX12_findsSteady_17
set_option maxRecDepth 100000 in
set_option maxHeartbeats 4000000 in
theorem w_X12_gentle {l : Launch} {G : Gv} {σ : Sto} {z : (Int32 × Sto)} (hF : F_X12_gentle σ  = some z) : Con l yX12_gentle cX12_gentle 1 (some .int) 12 G shM νM [.ref 0] (ovM σ) (some (.int z.1)) (ovM z.2) := by
  rw [F_X12_gentle] at hF
  refine Con_enter (own := RX12) 0 (lv := [some (.ref 0)]) mi_X12_gentle.2.2.2 rfl (Nat.le_of_ble_eq_true rfl) rfl (fun h hr hin => ?_)
  refine st_aload_0 h dX12_gentle_0 ?_
  refine st_ic_0 h dX12_gentle_1 ?_
  obtain ⟨s1, hs1, hF⟩ := swI hF
  refine pX12_0 h fl_X12_73 dX12_gentle_2 (congrArg Prod.fst kM_0) hs1 ?_
  refine st_aload_0 h dX12_gentle_5 ?_
  refine gX12_25 h fl_X12_229 dX12_gentle_6 (congrArg Prod.fst kM_0) ?_
  refine st_if_eq (t := 23) h dX12_gentle_9 (by decide) (fun q1 => ?_) (fun q1 => ?_)
  · have hF := pI q1 hF
    refine st_aload_0 h dX12_gentle_23 ?_
    refine st_ic_1 h dX12_gentle_24 ?_
    obtain ⟨x1, hx1, hF⟩ := bI hF
    refine st_cVi (vs := [.int 1]) (st := []) h (w_X12_refused hx1) mi_X12_refused mv_X12_refused ml_X12_213 dX12_gentle_25 kM_0 rfl ⟨Nat.le_of_ble_eq_true rfl, Nat.le_of_ble_eq_true rfl⟩ (Nat.le_of_ble_eq_true rfl) rfl ?_
    cases hF
    exact st_iret h hr dX12_gentle_28
  · have hF := qI q1 hF
    refine st_aload_0 h dX12_gentle_12 ?_
    refine st_aload_0 h dX12_gentle_13 ?_
    obtain ⟨x2, hx2, hF⟩ := bI hF
    refine st_cVi (vs := []) (st := [.ref 0]) h (w_X12_findsGentle hx2) mi_X12_findsGentle mv_X12_findsGentle ml_X12_309 dX12_gentle_14 kM_0 rfl ⟨Nat.le_of_ble_eq_true rfl, Nat.le_of_ble_eq_true rfl⟩ (Nat.le_of_ble_eq_true rfl) rfl ?_
    obtain ⟨x3, hx3, hF⟩ := bI hF
    refine st_cVi (vs := [.int x2.1]) (st := []) h (w_X12_tells hx3) mi_X12_tells mv_X12_tells ml_X12_233 dX12_gentle_17 kM_0 rfl ⟨Nat.le_of_ble_eq_true rfl, Nat.le_of_ble_eq_true rfl⟩ (Nat.le_of_ble_eq_true rfl) rfl ?_
    refine st_goto (t := 28) h dX12_gentle_20 (by decide) ?_
    cases hF
    exact st_iret h hr dX12_gentle_28
set_option maxRecDepth 100000 in
set_option maxHeartbeats 4000000 in
theorem w_X12_gentleOf_42 {p : Program} {l : Launch} {e : Env} {s : State} {m : MethodId} {args : Array Value} {below : List Frame} {meth : Method} {c : Code} {G : Gv} (h : Cx p s m args meth c G cX12_gentleOf 3 RX12) (hr : meth.sig.returnType = (some .int)) : ∀ (σ : Sto) (e1 : Int32) (z : (Int32 × Sto)), F_X12_gentleOf_42 σ e1 = some z → AW p l e (rmD 12 0 0) s m args below meth c (MQ below (QcR G shM νM (some (.int z.1)) (ovM z.2)) args s 0 0 (gA G)) 0 0 G 3 42 [none, none, none] [.int e1, .ref 0] shM νM (ovM σ) := by
  intro σ e1 z hF
  rw [F_X12_gentleOf_42] at hF
  obtain ⟨x1, hx1, hF⟩ := bI hF
  refine st_cVi (vs := [.int e1]) (st := []) h (w_X12_tells hx1) mi_X12_tells mv_X12_tells ml_X12_233 dX12_gentleOf_42 kM_0 rfl ⟨Nat.le_of_ble_eq_true rfl, Nat.le_of_ble_eq_true rfl⟩ (Nat.le_of_ble_eq_true rfl) rfl ?_
  cases hF
  exact st_iret h hr dX12_gentleOf_45
set_option maxRecDepth 100000 in
set_option maxHeartbeats 4000000 in
theorem w_X12_gentleOf {l : Launch} {G : Gv} {σ : Sto} {i1 : Int32} {z : (Int32 × Sto)} (hF : F_X12_gentleOf σ i1 = some z) : Con l yX12_gentleOf cX12_gentleOf 3 (some .int) 12 G shM νM [.ref 0, .int i1] (ovM σ) (some (.int z.1)) (ovM z.2) := by
  rw [F_X12_gentleOf] at hF
  refine Con_enter (own := RX12) 1 (lv := [some (.ref 0), some (.int i1), none]) mi_X12_gentleOf.2.2.2 rfl (Nat.le_of_ble_eq_true rfl) rfl (fun h hr hin => ?_)
  refine st_aload_0 h dX12_gentleOf_0 ?_
  refine st_ic_0 h dX12_gentleOf_1 ?_
  obtain ⟨s1, hs1, hF⟩ := swI hF
  refine pX12_0 h fl_X12_73 dX12_gentleOf_2 (congrArg Prod.fst kM_0) hs1 ?_
  refine st_aload_0 h dX12_gentleOf_5 ?_
  refine st_iload_1 h dX12_gentleOf_6 ?_
  obtain ⟨x1, hx1, hF⟩ := bI hF
  refine st_cVi (vs := [.int i1]) (st := []) h (w_X12_isService hx1) mi_X12_isService mv_X12_isService ml_X12_272 dX12_gentleOf_7 kM_0 rfl ⟨Nat.le_of_ble_eq_true rfl, Nat.le_of_ble_eq_true rfl⟩ (Nat.le_of_ble_eq_true rfl) rfl ?_
  refine st_if_ne (t := 19) h dX12_gentleOf_10 (by decide) (fun q1 => ?_) (fun q1 => ?_)
  · have hF := qI q1 hF
    refine st_aload_0 h dX12_gentleOf_19 ?_
    obtain ⟨x2, hx2, hF⟩ := bI hF
    refine st_cVi (vs := []) (st := []) h (w_X12_findsGentle hx2) mi_X12_findsGentle mv_X12_findsGentle ml_X12_309 dX12_gentleOf_20 kM_0 rfl ⟨Nat.le_of_ble_eq_true rfl, Nat.le_of_ble_eq_true rfl⟩ (Nat.le_of_ble_eq_true rfl) rfl ?_
    refine st_istore_2 h dX12_gentleOf_23 ?_
    refine st_aload_0 h dX12_gentleOf_24 ?_
    refine st_iload_2 h dX12_gentleOf_25 ?_
    refine st_ldcw h ck_X12_282 dX12_gentleOf_26 ?_
    refine st_icmp_le (t := 41) h dX12_gentleOf_29 (by decide) (fun q2 => ?_) (fun q2 => ?_)
    · have hF := pI q2 hF
      refine st_ic_0 h dX12_gentleOf_41 ?_
      exact st_sub (ls_n (ls_n (ls_n ls_e))) (w_X12_gentleOf_42 h hr x2.2 0 z hF)
    · have hF := qI q2 hF
      refine st_aload_0 h dX12_gentleOf_32 ?_
      refine gX12_35 h fl_X12_61 dX12_gentleOf_33 (congrArg Prod.fst kM_0) ?_
      refine st_iload_1 h dX12_gentleOf_36 ?_
      obtain ⟨g1, hF⟩ := gI hF
      refine iaM h dX12_gentleOf_37 kM_16 g1 ?_
      refine st_goto (t := 42) h dX12_gentleOf_38 (by decide) ?_
      exact st_sub (ls_n (ls_n (ls_n ls_e))) (w_X12_gentleOf_42 h hr x2.2 (x2.2.1 16 (ix i1)) z hF)
  · have hF := pI q1 hF
    refine st_aload_0 h dX12_gentleOf_13 ?_
    refine st_ic_1 h dX12_gentleOf_14 ?_
    obtain ⟨x3, hx3, hF⟩ := bI hF
    refine st_cVi (vs := [.int 1]) (st := []) h (w_X12_refused hx3) mi_X12_refused mv_X12_refused ml_X12_213 dX12_gentleOf_15 kM_0 rfl ⟨Nat.le_of_ble_eq_true rfl, Nat.le_of_ble_eq_true rfl⟩ (Nat.le_of_ble_eq_true rfl) rfl ?_
    cases hF
    exact st_iret h hr dX12_gentleOf_18
set_option maxRecDepth 100000 in
set_option maxHeartbeats 4000000 in
theorem w_X12_steady {l : Launch} {G : Gv} {σ : Sto} {i1 : Int32} {z : (Int32 × Sto)} (hF : F_X12_steady σ i1 = some z) : Con l yX12_steady cX12_steady 3 (some .int) 12 G shM νM [.ref 0, .int i1] (ovM σ) (some (.int z.1)) (ovM z.2) := by
  rw [F_X12_steady] at hF
  refine Con_enter (own := RX12) 1 (lv := [some (.ref 0), some (.int i1), none]) mi_X12_steady.2.2.2 rfl (Nat.le_of_ble_eq_true rfl) rfl (fun h hr hin => ?_)
  refine st_aload_0 h dX12_steady_0 ?_
  refine st_ic_0 h dX12_steady_1 ?_
  obtain ⟨s1, hs1, hF⟩ := swI hF
  refine pX12_0 h fl_X12_73 dX12_steady_2 (congrArg Prod.fst kM_0) hs1 ?_
  refine st_aload_0 h dX12_steady_5 ?_
  refine gX12_25 h fl_X12_229 dX12_steady_6 (congrArg Prod.fst kM_0) ?_
  refine st_if_ne (t := 18) h dX12_steady_9 (by decide) (fun q1 => ?_) (fun q1 => ?_)
  · have hF := qI q1 hF
    refine st_iload_1 h dX12_steady_18 ?_
    obtain ⟨x1, hx1, hF⟩ := bI hF
    refine st_cSi (vs := [.int i1]) (st := []) h (w_X12_isPrice hx1) mi_X12_isPrice ms_X12_isPrice ml_X12_275 dX12_steady_19 rfl ⟨Nat.le_of_ble_eq_true rfl, Nat.le_of_ble_eq_true rfl⟩ (Nat.le_of_ble_eq_true rfl) rfl ?_
    refine st_if_ne (t := 31) h dX12_steady_22 (by decide) (fun q2 => ?_) (fun q2 => ?_)
    · have hF := qI q2 hF
      refine st_aload_0 h dX12_steady_31 ?_
      refine st_iload_1 h dX12_steady_32 ?_
      obtain ⟨x2, hx2, hF⟩ := bI hF
      refine st_cVi (vs := [.int i1]) (st := []) h (w_X12_findsSteady hx2) mi_X12_findsSteady mv_X12_findsSteady ml_X12_312 dX12_steady_33 kM_0 rfl ⟨Nat.le_of_ble_eq_true rfl, Nat.le_of_ble_eq_true rfl⟩ (Nat.le_of_ble_eq_true rfl) rfl ?_
      refine st_istore_2 h dX12_steady_36 ?_
      refine st_iload_2 h dX12_steady_37 ?_
      refine st_ldcw h ck_X12_282 dX12_steady_38 ?_
      refine st_icmp_ne (t := 53) h dX12_steady_41 (by decide) (fun q3 => ?_) (fun q3 => ?_)
      · have hF := qI q3 hF
        refine st_aload_0 h dX12_steady_53 ?_
        refine st_iload_2 h dX12_steady_54 ?_
        obtain ⟨x3, hx3, hF⟩ := bI hF
        refine st_cVi (vs := [.int x2.1]) (st := []) h (w_X12_tells hx3) mi_X12_tells mv_X12_tells ml_X12_233 dX12_steady_55 kM_0 rfl ⟨Nat.le_of_ble_eq_true rfl, Nat.le_of_ble_eq_true rfl⟩ (Nat.le_of_ble_eq_true rfl) rfl ?_
        cases hF
        exact st_iret h hr dX12_steady_58
      · have hF := pI q3 hF
        refine st_aload_0 h dX12_steady_44 ?_
        refine st_bipush (v := 6) h dX12_steady_45 (by decide) ?_
        obtain ⟨x4, hx4, hF⟩ := bI hF
        refine st_cVi (vs := [.int 6]) (st := []) h (w_X12_refused hx4) mi_X12_refused mv_X12_refused ml_X12_213 dX12_steady_47 kM_0 rfl ⟨Nat.le_of_ble_eq_true rfl, Nat.le_of_ble_eq_true rfl⟩ (Nat.le_of_ble_eq_true rfl) rfl ?_
        refine st_goto (t := 58) h dX12_steady_50 (by decide) ?_
        cases hF
        exact st_iret h hr dX12_steady_58
    · have hF := pI q2 hF
      refine st_aload_0 h dX12_steady_25 ?_
      refine st_ic_2 h dX12_steady_26 ?_
      obtain ⟨x5, hx5, hF⟩ := bI hF
      refine st_cVi (vs := [.int 2]) (st := []) h (w_X12_refused hx5) mi_X12_refused mv_X12_refused ml_X12_213 dX12_steady_27 kM_0 rfl ⟨Nat.le_of_ble_eq_true rfl, Nat.le_of_ble_eq_true rfl⟩ (Nat.le_of_ble_eq_true rfl) rfl ?_
      cases hF
      exact st_iret h hr dX12_steady_30
  · have hF := pI q1 hF
    refine st_aload_0 h dX12_steady_12 ?_
    refine st_ic_1 h dX12_steady_13 ?_
    obtain ⟨x6, hx6, hF⟩ := bI hF
    refine st_cVi (vs := [.int 1]) (st := []) h (w_X12_refused hx6) mi_X12_refused mv_X12_refused ml_X12_213 dX12_steady_14 kM_0 rfl ⟨Nat.le_of_ble_eq_true rfl, Nat.le_of_ble_eq_true rfl⟩ (Nat.le_of_ble_eq_true rfl) rfl ?_
    cases hF
    exact st_iret h hr dX12_steady_17
set_option maxRecDepth 100000 in
set_option maxHeartbeats 4000000 in
theorem w_X12_steadyOf {l : Launch} {G : Gv} {σ : Sto} {i1 : Int32} {i2 : Int32} {z : (Int32 × Sto)} (hF : F_X12_steadyOf σ i1 i2 = some z) : Con l yX12_steadyOf cX12_steadyOf 3 (some .int) 12 G shM νM [.ref 0, .int i1, .int i2] (ovM σ) (some (.int z.1)) (ovM z.2) := by
  rw [F_X12_steadyOf] at hF
  refine Con_enter (own := RX12) 0 (lv := [some (.ref 0), some (.int i1), some (.int i2)]) mi_X12_steadyOf.2.2.2 rfl (Nat.le_of_ble_eq_true rfl) rfl (fun h hr hin => ?_)
  refine st_aload_0 h dX12_steadyOf_0 ?_
  refine st_ic_0 h dX12_steadyOf_1 ?_
  obtain ⟨s1, hs1, hF⟩ := swI hF
  refine pX12_0 h fl_X12_73 dX12_steadyOf_2 (congrArg Prod.fst kM_0) hs1 ?_
  refine st_aload_0 h dX12_steadyOf_5 ?_
  refine st_iload_2 h dX12_steadyOf_6 ?_
  obtain ⟨x1, hx1, hF⟩ := bI hF
  refine st_cVi (vs := [.int i2]) (st := []) h (w_X12_isService hx1) mi_X12_isService mv_X12_isService ml_X12_272 dX12_steadyOf_7 kM_0 rfl ⟨Nat.le_of_ble_eq_true rfl, Nat.le_of_ble_eq_true rfl⟩ (Nat.le_of_ble_eq_true rfl) rfl ?_
  refine st_if_ne (t := 19) h dX12_steadyOf_10 (by decide) (fun q1 => ?_) (fun q1 => ?_)
  · have hF := qI q1 hF
    refine st_iload_1 h dX12_steadyOf_19 ?_
    obtain ⟨x2, hx2, hF⟩ := bI hF
    refine st_cSi (vs := [.int i1]) (st := []) h (w_X12_isPrice hx2) mi_X12_isPrice ms_X12_isPrice ml_X12_275 dX12_steadyOf_20 rfl ⟨Nat.le_of_ble_eq_true rfl, Nat.le_of_ble_eq_true rfl⟩ (Nat.le_of_ble_eq_true rfl) rfl ?_
    refine st_if_ne (t := 32) h dX12_steadyOf_23 (by decide) (fun q2 => ?_) (fun q2 => ?_)
    · have hF := qI q2 hF
      refine st_aload_0 h dX12_steadyOf_32 ?_
      refine st_iload_1 h dX12_steadyOf_33 ?_
      obtain ⟨x3, hx3, hF⟩ := bI hF
      refine st_cVi (vs := [.int i1]) (st := []) h (w_X12_findsSteady hx3) mi_X12_findsSteady mv_X12_findsSteady ml_X12_312 dX12_steadyOf_34 kM_0 rfl ⟨Nat.le_of_ble_eq_true rfl, Nat.le_of_ble_eq_true rfl⟩ (Nat.le_of_ble_eq_true rfl) rfl ?_
      refine st_ldcw h ck_X12_282 dX12_steadyOf_37 ?_
      refine st_icmp_ne (t := 52) h dX12_steadyOf_40 (by decide) (fun q3 => ?_) (fun q3 => ?_)
      · have hF := qI q3 hF
        refine st_aload_0 h dX12_steadyOf_52 ?_
        refine st_aload_0 h dX12_steadyOf_53 ?_
        refine gX12_35 h fl_X12_61 dX12_steadyOf_54 (congrArg Prod.fst kM_0) ?_
        refine st_iload_2 h dX12_steadyOf_57 ?_
        obtain ⟨g1, hF⟩ := gI hF
        refine iaM h dX12_steadyOf_58 kM_16 g1 ?_
        obtain ⟨x4, hx4, hF⟩ := bI hF
        refine st_cVi (vs := [.int (x3.2.1 16 (ix i2))]) (st := []) h (w_X12_tells hx4) mi_X12_tells mv_X12_tells ml_X12_233 dX12_steadyOf_59 kM_0 rfl ⟨Nat.le_of_ble_eq_true rfl, Nat.le_of_ble_eq_true rfl⟩ (Nat.le_of_ble_eq_true rfl) rfl ?_
        cases hF
        exact st_iret h hr dX12_steadyOf_62
      · have hF := pI q3 hF
        refine st_aload_0 h dX12_steadyOf_43 ?_
        refine st_bipush (v := 6) h dX12_steadyOf_44 (by decide) ?_
        obtain ⟨x5, hx5, hF⟩ := bI hF
        refine st_cVi (vs := [.int 6]) (st := []) h (w_X12_refused hx5) mi_X12_refused mv_X12_refused ml_X12_213 dX12_steadyOf_46 kM_0 rfl ⟨Nat.le_of_ble_eq_true rfl, Nat.le_of_ble_eq_true rfl⟩ (Nat.le_of_ble_eq_true rfl) rfl ?_
        refine st_goto (t := 62) h dX12_steadyOf_49 (by decide) ?_
        cases hF
        exact st_iret h hr dX12_steadyOf_62
    · have hF := pI q2 hF
      refine st_aload_0 h dX12_steadyOf_26 ?_
      refine st_ic_2 h dX12_steadyOf_27 ?_
      obtain ⟨x6, hx6, hF⟩ := bI hF
      refine st_cVi (vs := [.int 2]) (st := []) h (w_X12_refused hx6) mi_X12_refused mv_X12_refused ml_X12_213 dX12_steadyOf_28 kM_0 rfl ⟨Nat.le_of_ble_eq_true rfl, Nat.le_of_ble_eq_true rfl⟩ (Nat.le_of_ble_eq_true rfl) rfl ?_
      cases hF
      exact st_iret h hr dX12_steadyOf_31
  · have hF := pI q1 hF
    refine st_aload_0 h dX12_steadyOf_13 ?_
    refine st_ic_1 h dX12_steadyOf_14 ?_
    obtain ⟨x7, hx7, hF⟩ := bI hF
    refine st_cVi (vs := [.int 1]) (st := []) h (w_X12_refused hx7) mi_X12_refused mv_X12_refused ml_X12_213 dX12_steadyOf_15 kM_0 rfl ⟨Nat.le_of_ble_eq_true rfl, Nat.le_of_ble_eq_true rfl⟩ (Nat.le_of_ble_eq_true rfl) rfl ?_
    cases hF
    exact st_iret h hr dX12_steadyOf_18
set_option maxRecDepth 100000 in
set_option maxHeartbeats 4000000 in
theorem w_X12_isBuyer {l : Launch} {G : Gv} {σ : Sto} {i1 : Int32} {z : Int32} (hF : F_X12_isBuyer σ i1 = some z) : Con l yX12_isBuyer cX12_isBuyer 2 (some .boolean) 2 G shM νM [.ref 0, .int i1] (ovM σ) (some (.int z)) (ovM σ) := by
  rw [F_X12_isBuyer] at hF
  refine Con_enter (own := RX12) 0 (lv := [some (.ref 0), some (.int i1)]) mi_X12_isBuyer.2.2.2 rfl (Nat.le_of_ble_eq_true rfl) rfl (fun h hr hin => ?_)
  refine st_aload_0 h dX12_isBuyer_0 ?_
  refine gX12_25 h fl_X12_229 dX12_isBuyer_1 (congrArg Prod.fst kM_0) ?_
  refine st_if_eq (t := 25) h dX12_isBuyer_4 (by decide) (fun q1 => ?_) (fun q1 => ?_)
  · have hF := pI q1 hF
    refine st_ic_0 h dX12_isBuyer_25 ?_
    cases hF
    exact st_zret h hr (Or.inl rfl) dX12_isBuyer_26
  · have hF := qI q1 hF
    refine st_iload_1 h dX12_isBuyer_7 ?_
    refine st_ic_0 h dX12_isBuyer_8 ?_
    refine st_aload_0 h dX12_isBuyer_9 ?_
    refine gX12_28 h fl_X12_223 dX12_isBuyer_10 (congrArg Prod.fst kM_0) ?_
    refine st_ic_1 h dX12_isBuyer_13 ?_
    refine st_isub h dX12_isBuyer_14 ?_
    obtain ⟨x1, hx1, hF⟩ := bI hF
    refine st_cSi (vs := [.int i1, .int 0, .int ((σ.1 0 28) - 1)]) (st := []) h (w_X12_in hx1) mi_X12_in ms_X12_in ml_X12_94 dX12_isBuyer_15 rfl ⟨Nat.le_of_ble_eq_true rfl, Nat.le_of_ble_eq_true rfl⟩ (Nat.le_of_ble_eq_true rfl) rfl ?_
    refine st_if_eq (t := 25) h dX12_isBuyer_18 (by decide) (fun q2 => ?_) (fun q2 => ?_)
    · have hF := pI q2 hF
      refine st_ic_0 h dX12_isBuyer_25 ?_
      cases hF
      exact st_zret h hr (Or.inl rfl) dX12_isBuyer_26
    · have hF := qI q2 hF
      refine st_ic_1 h dX12_isBuyer_21 ?_
      refine st_goto (t := 26) h dX12_isBuyer_22 (by decide) ?_
      cases hF
      exact st_zret h hr (Or.inr rfl) dX12_isBuyer_26
set_option maxRecDepth 100000 in
set_option maxHeartbeats 4000000 in
theorem w_X12_buyer_22 {p : Program} {l : Launch} {e : Env} {s : State} {m : MethodId} {args : Array Value} {below : List Frame} {meth : Method} {c : Code} {G : Gv} (h : Cx p s m args meth c G cX12_buyer 5 RX12) (hr : meth.sig.returnType = (some .int)) : ∀ (σ : Sto) (z : (Int32 × Sto)), F_X12_buyer_22 σ  = some z → AW p l e (rmD 3 0 0) s m args below meth c (MQ below (QcR G shM νM (some (.int z.1)) (ovM z.2)) args s 0 0 (gA G)) 0 0 G 5 22 [some (.ref 0), none, none, none, none] [] shM νM (ovM σ) := by
  intro σ z hF
  rw [F_X12_buyer_22] at hF
  refine st_aload_0 h dX12_buyer_22 ?_
  refine st_ic_1 h dX12_buyer_23 ?_
  obtain ⟨x1, hx1, hF⟩ := bI hF
  refine st_cVi (vs := [.int 1]) (st := []) h (w_X12_refused hx1) mi_X12_refused mv_X12_refused ml_X12_213 dX12_buyer_24 kM_0 rfl ⟨Nat.le_of_ble_eq_true rfl, Nat.le_of_ble_eq_true rfl⟩ (Nat.le_of_ble_eq_true rfl) rfl ?_
  cases hF
  exact st_iret h hr dX12_buyer_27
set_option maxRecDepth 100000 in
set_option maxHeartbeats 4000000 in
theorem w_X12_buyer_78 {p : Program} {l : Launch} {e : Env} {s : State} {m : MethodId} {args : Array Value} {below : List Frame} {meth : Method} {c : Code} {G : Gv} (h : Cx p s m args meth c G cX12_buyer 5 RX12) (hr : meth.sig.returnType = (some .int)) : ∀ (σ : Sto) (e1 : Int32) (z : (Int32 × Sto)), F_X12_buyer_78 σ e1 = some z → AW p l e (rmD 3 0 0) s m args below meth c (MQ below (QcR G shM νM (some (.int z.1)) (ovM z.2)) args s 0 0 (gA G)) 0 0 G 5 78 [none, none, none, none, none] [.int e1, .ref 0] shM νM (ovM σ) := by
  intro σ e1 z hF
  rw [F_X12_buyer_78] at hF
  obtain ⟨x1, hx1, hF⟩ := bI hF
  refine st_cVi (vs := [.int e1]) (st := []) h (w_X12_tells hx1) mi_X12_tells mv_X12_tells ml_X12_233 dX12_buyer_78 kM_0 rfl ⟨Nat.le_of_ble_eq_true rfl, Nat.le_of_ble_eq_true rfl⟩ (Nat.le_of_ble_eq_true rfl) rfl ?_
  cases hF
  exact st_iret h hr dX12_buyer_81
set_option maxRecDepth 100000 in
set_option maxHeartbeats 4000000 in
theorem w_X12_buyer_33 {p : Program} {l : Launch} {e : Env} {s : State} {m : MethodId} {args : Array Value} {below : List Frame} {meth : Method} {c : Code} {G : Gv} (h : Cx p s m args meth c G cX12_buyer 5 RX12) (hr : meth.sig.returnType = (some .int)) : ∀ (n : Nat) (σ : Sto) (i1 : Int32) (i2 : Int32) (i3 : Int32) (i4 : Int32) (z : (Int32 × Sto)), F_X12_buyer_33 n σ i1 i2 i3 i4 = some z → AW p l e (rmD 3 0 0) s m args below meth c (MQ below (QcR G shM νM (some (.int z.1)) (ovM z.2)) args s 0 0 (gA G)) 0 0 G 5 33 [some (.ref 0), some (.int i1), some (.int i2), some (.int i3), some (.int i4)] [] shM νM (ovM σ) := by
  intro n
  induction n with
  | zero => intro σ i1 i2 i3 i4 z hF; cases hF
  | succ n ih =>
    intro σ i1 i2 i3 i4 z hF
    rw [F_X12_buyer_33] at hF
    refine st_iload_4 h dX12_buyer_33 ?_
    refine st_aload_0 h dX12_buyer_35 ?_
    refine gX12_22 h fl_X12_220 dX12_buyer_36 (congrArg Prod.fst kM_0) ?_
    refine st_icmp_ge (t := 62) h dX12_buyer_39 (by decide) (fun q1 => ?_) (fun q1 => ?_)
    · have hF := pI q1 hF
      refine st_aload_0 h dX12_buyer_62 ?_
      refine st_iload_2 h dX12_buyer_63 ?_
      refine st_ic_2 h dX12_buyer_64 ?_
      refine st_icmp_ne (t := 72) h dX12_buyer_65 (by decide) (fun q2 => ?_) (fun q2 => ?_)
      · have hF := qI q2 hF
        refine st_aload_0 h dX12_buyer_72 ?_
        refine st_iload_1 h dX12_buyer_73 ?_
        refine st_iload_2 h dX12_buyer_74 ?_
        obtain ⟨x1, hx1, hF⟩ := bI hF
        refine st_cVi (vs := [.int i1, .int i2]) (st := [.ref 0]) h (w_X12_burden hx1) mi_X12_burden mv_X12_burden ml_X12_302 dX12_buyer_75 kM_0 rfl ⟨Nat.le_of_ble_eq_true rfl, Nat.le_of_ble_eq_true rfl⟩ (Nat.le_of_ble_eq_true rfl) rfl ?_
        exact st_sub (ls_n (ls_n (ls_n (ls_n (ls_n ls_e))))) (w_X12_buyer_78 h hr σ x1 z hF)
      · have hF := pI q2 hF
        refine st_iload_3 h dX12_buyer_68 ?_
        refine st_goto (t := 78) h dX12_buyer_69 (by decide) ?_
        exact st_sub (ls_n (ls_n (ls_n (ls_n (ls_n ls_e))))) (w_X12_buyer_78 h hr σ i3 z hF)
    · have hF := qI q1 hF
      refine st_iload_3 h dX12_buyer_42 ?_
      refine st_aload_0 h dX12_buyer_43 ?_
      refine gX12_26 h fl_X12_43 dX12_buyer_44 (congrArg Prod.fst kM_0) ?_
      refine st_ic_4 h dX12_buyer_47 ?_
      refine st_iload_1 h dX12_buyer_48 ?_
      refine st_imul h dX12_buyer_49 ?_
      refine st_iload_4 h dX12_buyer_50 ?_
      refine st_iadd h dX12_buyer_52 ?_
      obtain ⟨g1, hF⟩ := gI hF
      refine iaM h dX12_buyer_53 kM_10 g1 ?_
      refine st_iadd h dX12_buyer_54 ?_
      obtain ⟨v1, hv1, hF⟩ := swI hF
      refine st_nmi hv1 ?_
      refine st_istore_3 h dX12_buyer_55 ?_
      refine st_iinc_4 (y := i4 + 1) h dX12_buyer_56 (ii_1 _) ?_
      refine st_goto (t := 33) h dX12_buyer_59 (by decide) ?_
      exact st_sub (ls_s (ls_s (ls_s (ls_s (ls_s ls_e))))) (ih σ i1 i2 v1 (i4 + 1) z hF)
set_option maxRecDepth 100000 in
set_option maxHeartbeats 4000000 in
theorem w_X12_buyer {l : Launch} {G : Gv} {σ : Sto} {i1 : Int32} {i2 : Int32} {z : (Int32 × Sto)} (hF : F_X12_buyer σ i1 i2 = some z) : Con l yX12_buyer cX12_buyer 5 (some .int) 3 G shM νM [.ref 0, .int i1, .int i2] (ovM σ) (some (.int z.1)) (ovM z.2) := by
  rw [F_X12_buyer] at hF
  refine Con_enter (own := RX12) 2 (lv := [some (.ref 0), some (.int i1), some (.int i2), none, none]) mi_X12_buyer.2.2.2 rfl (Nat.le_of_ble_eq_true rfl) rfl (fun h hr hin => ?_)
  refine st_aload_0 h dX12_buyer_0 ?_
  refine st_ic_0 h dX12_buyer_1 ?_
  obtain ⟨s1, hs1, hF⟩ := swI hF
  refine pX12_0 h fl_X12_73 dX12_buyer_2 (congrArg Prod.fst kM_0) hs1 ?_
  refine st_aload_0 h dX12_buyer_5 ?_
  refine st_iload_1 h dX12_buyer_6 ?_
  obtain ⟨x1, hx1, hF⟩ := bI hF
  refine st_cVi (vs := [.int i1]) (st := []) h (w_X12_isBuyer hx1) mi_X12_isBuyer mv_X12_isBuyer ml_X12_315 dX12_buyer_7 kM_0 rfl ⟨Nat.le_of_ble_eq_true rfl, Nat.le_of_ble_eq_true rfl⟩ (Nat.le_of_ble_eq_true rfl) rfl ?_
  refine st_if_eq (t := 22) h dX12_buyer_10 (by decide) (fun q1 => ?_) (fun q1 => ?_)
  · have hF := pI q1 hF
    exact st_sub (ls_s (ls_n (ls_n (ls_n (ls_n ls_e))))) (w_X12_buyer_22 h hr s1  z hF)
  · have hF := qI q1 hF
    refine st_iload_2 h dX12_buyer_13 ?_
    refine st_ic_0 h dX12_buyer_14 ?_
    refine st_ic_2 h dX12_buyer_15 ?_
    obtain ⟨x2, hx2, hF⟩ := bI hF
    refine st_cSi (vs := [.int i2, .int 0, .int 2]) (st := []) h (w_X12_in hx2) mi_X12_in ms_X12_in ml_X12_94 dX12_buyer_16 rfl ⟨Nat.le_of_ble_eq_true rfl, Nat.le_of_ble_eq_true rfl⟩ (Nat.le_of_ble_eq_true rfl) rfl ?_
    refine st_if_ne (t := 28) h dX12_buyer_19 (by decide) (fun q2 => ?_) (fun q2 => ?_)
    · have hF := qI q2 hF
      refine st_ic_0 h dX12_buyer_28 ?_
      refine st_istore_3 h dX12_buyer_29 ?_
      refine st_ic_0 h dX12_buyer_30 ?_
      refine st_istore_4 h dX12_buyer_31 ?_
      exact st_sub (ls_s (ls_s (ls_s (ls_s (ls_s ls_e))))) (w_X12_buyer_33 h hr FU s1 i1 i2 0 0 z hF)
    · have hF := pI q2 hF
      exact st_sub (ls_s (ls_n (ls_n (ls_n (ls_n ls_e))))) (w_X12_buyer_22 h hr s1  z hF)
set_option maxRecDepth 100000 in
set_option maxHeartbeats 4000000 in
theorem w_X12_units_38 {p : Program} {l : Launch} {e : Env} {s : State} {m : MethodId} {args : Array Value} {below : List Frame} {meth : Method} {c : Code} {G : Gv} (h : Cx p s m args meth c G cX12_units 3 RX12) (hr : meth.sig.returnType = (some .int)) : ∀ (σ : Sto) (z : (Int32 × Sto)), F_X12_units_38 σ  = some z → AW p l e (rmD 3 0 0) s m args below meth c (MQ below (QcR G shM νM (some (.int z.1)) (ovM z.2)) args s 0 0 (gA G)) 0 0 G 3 38 [some (.ref 0), none, none] [] shM νM (ovM σ) := by
  intro σ z hF
  rw [F_X12_units_38] at hF
  refine st_aload_0 h dX12_units_38 ?_
  refine st_ic_1 h dX12_units_39 ?_
  obtain ⟨x1, hx1, hF⟩ := bI hF
  refine st_cVi (vs := [.int 1]) (st := []) h (w_X12_refused hx1) mi_X12_refused mv_X12_refused ml_X12_213 dX12_units_40 kM_0 rfl ⟨Nat.le_of_ble_eq_true rfl, Nat.le_of_ble_eq_true rfl⟩ (Nat.le_of_ble_eq_true rfl) rfl ?_
  cases hF
  exact st_iret h hr dX12_units_43
set_option maxRecDepth 100000 in
set_option maxHeartbeats 4000000 in
theorem w_X12_units {l : Launch} {G : Gv} {σ : Sto} {i1 : Int32} {i2 : Int32} {z : (Int32 × Sto)} (hF : F_X12_units σ i1 i2 = some z) : Con l yX12_units cX12_units 3 (some .int) 3 G shM νM [.ref 0, .int i1, .int i2] (ovM σ) (some (.int z.1)) (ovM z.2) := by
  rw [F_X12_units] at hF
  refine Con_enter (own := RX12) 0 (lv := [some (.ref 0), some (.int i1), some (.int i2)]) mi_X12_units.2.2.2 rfl (Nat.le_of_ble_eq_true rfl) rfl (fun h hr hin => ?_)
  refine st_aload_0 h dX12_units_0 ?_
  refine st_ic_0 h dX12_units_1 ?_
  obtain ⟨s1, hs1, hF⟩ := swI hF
  refine pX12_0 h fl_X12_73 dX12_units_2 (congrArg Prod.fst kM_0) hs1 ?_
  refine st_aload_0 h dX12_units_5 ?_
  refine st_iload_1 h dX12_units_6 ?_
  obtain ⟨x1, hx1, hF⟩ := bI hF
  refine st_cVi (vs := [.int i1]) (st := []) h (w_X12_isBuyer hx1) mi_X12_isBuyer mv_X12_isBuyer ml_X12_315 dX12_units_7 kM_0 rfl ⟨Nat.le_of_ble_eq_true rfl, Nat.le_of_ble_eq_true rfl⟩ (Nat.le_of_ble_eq_true rfl) rfl ?_
  refine st_if_eq (t := 38) h dX12_units_10 (by decide) (fun q1 => ?_) (fun q1 => ?_)
  · have hF := pI q1 hF
    exact st_sub (ls_s (ls_n (ls_n ls_e))) (w_X12_units_38 h hr s1  z hF)
  · have hF := qI q1 hF
    refine st_aload_0 h dX12_units_13 ?_
    refine st_iload_2 h dX12_units_14 ?_
    obtain ⟨x2, hx2, hF⟩ := bI hF
    refine st_cVi (vs := [.int i2]) (st := []) h (w_X12_isService hx2) mi_X12_isService mv_X12_isService ml_X12_272 dX12_units_15 kM_0 rfl ⟨Nat.le_of_ble_eq_true rfl, Nat.le_of_ble_eq_true rfl⟩ (Nat.le_of_ble_eq_true rfl) rfl ?_
    refine st_if_eq (t := 38) h dX12_units_18 (by decide) (fun q2 => ?_) (fun q2 => ?_)
    · have hF := pI q2 hF
      exact st_sub (ls_s (ls_n (ls_n ls_e))) (w_X12_units_38 h hr s1  z hF)
    · have hF := qI q2 hF
      refine st_aload_0 h dX12_units_21 ?_
      refine st_aload_0 h dX12_units_22 ?_
      refine gX12_26 h fl_X12_43 dX12_units_23 (congrArg Prod.fst kM_0) ?_
      refine st_ic_4 h dX12_units_26 ?_
      refine st_iload_1 h dX12_units_27 ?_
      refine st_imul h dX12_units_28 ?_
      refine st_iload_2 h dX12_units_29 ?_
      refine st_iadd h dX12_units_30 ?_
      obtain ⟨g1, hF⟩ := gI hF
      refine iaM h dX12_units_31 kM_10 g1 ?_
      obtain ⟨x3, hx3, hF⟩ := bI hF
      refine st_cVi (vs := [.int (s1.1 10 (ix ((4 * i1) + i2)))]) (st := []) h (w_X12_tells hx3) mi_X12_tells mv_X12_tells ml_X12_233 dX12_units_32 kM_0 rfl ⟨Nat.le_of_ble_eq_true rfl, Nat.le_of_ble_eq_true rfl⟩ (Nat.le_of_ble_eq_true rfl) rfl ?_
      refine st_goto (t := 43) h dX12_units_35 (by decide) ?_
      cases hF
      exact st_iret h hr dX12_units_43
set_option maxRecDepth 100000 in
set_option maxHeartbeats 4000000 in
theorem w_X12_hurt_22 {p : Program} {l : Launch} {e : Env} {s : State} {m : MethodId} {args : Array Value} {below : List Frame} {meth : Method} {c : Code} {G : Gv} (h : Cx p s m args meth c G cX12_hurt 3 RX12) (hr : meth.sig.returnType = (some .int)) : ∀ (n : Nat) (σ : Sto) (i1 : Int32) (i2 : Int32) (z : (Int32 × Sto)), F_X12_hurt_22 n σ i1 i2 = some z → AW p l e (rmD 3 0 0) s m args below meth c (MQ below (QcR G shM νM (some (.int z.1)) (ovM z.2)) args s 0 0 (gA G)) 0 0 G 3 22 [some (.ref 0), some (.int i1), some (.int i2)] [] shM νM (ovM σ) := by
  intro n
  induction n with
  | zero => intro σ i1 i2 z hF; cases hF
  | succ n ih =>
    intro σ i1 i2 z hF
    rw [F_X12_hurt_22] at hF
    refine st_iload_2 h dX12_hurt_22 ?_
    refine st_aload_0 h dX12_hurt_23 ?_
    refine gX12_28 h fl_X12_223 dX12_hurt_24 (congrArg Prod.fst kM_0) ?_
    refine st_icmp_ge (t := 61) h dX12_hurt_27 (by decide) (fun q1 => ?_) (fun q1 => ?_)
    · have hF := pI q1 hF
      refine st_aload_0 h dX12_hurt_61 ?_
      refine st_iload_1 h dX12_hurt_62 ?_
      obtain ⟨x1, hx1, hF⟩ := bI hF
      refine st_cVi (vs := [.int i1]) (st := []) h (w_X12_tells hx1) mi_X12_tells mv_X12_tells ml_X12_233 dX12_hurt_63 kM_0 rfl ⟨Nat.le_of_ble_eq_true rfl, Nat.le_of_ble_eq_true rfl⟩ (Nat.le_of_ble_eq_true rfl) rfl ?_
      cases hF
      exact st_iret h hr dX12_hurt_66
    · have hF := qI q1 hF
      refine st_iload_1 h dX12_hurt_30 ?_
      refine st_aload_0 h dX12_hurt_31 ?_
      refine st_iload_2 h dX12_hurt_32 ?_
      refine st_ic_1 h dX12_hurt_33 ?_
      obtain ⟨x2, hx2, hF⟩ := bI hF
      refine st_cVi (vs := [.int i2, .int 1]) (st := [.int i1]) h (w_X12_burden hx2) mi_X12_burden mv_X12_burden ml_X12_302 dX12_hurt_34 kM_0 rfl ⟨Nat.le_of_ble_eq_true rfl, Nat.le_of_ble_eq_true rfl⟩ (Nat.le_of_ble_eq_true rfl) rfl ?_
      refine st_aload_0 h dX12_hurt_37 ?_
      refine st_iload_2 h dX12_hurt_38 ?_
      refine st_ic_0 h dX12_hurt_39 ?_
      obtain ⟨x3, hx3, hF⟩ := bI hF
      refine st_cVi (vs := [.int i2, .int 0]) (st := [.int x2, .int i1]) h (w_X12_burden hx3) mi_X12_burden mv_X12_burden ml_X12_302 dX12_hurt_40 kM_0 rfl ⟨Nat.le_of_ble_eq_true rfl, Nat.le_of_ble_eq_true rfl⟩ (Nat.le_of_ble_eq_true rfl) rfl ?_
      refine st_icmp_le (t := 52) h dX12_hurt_43 (by decide) (fun q2 => ?_) (fun q2 => ?_)
      · have hF := pI q2 hF
        refine st_ic_0 h dX12_hurt_52 ?_
        refine st_ior h dX12_hurt_53 ?_
        refine st_istore_1 h dX12_hurt_54 ?_
        refine st_iinc_2 (y := i2 + 1) h dX12_hurt_55 (ii_1 _) ?_
        refine st_goto (t := 22) h dX12_hurt_58 (by decide) ?_
        exact st_sub (ls_s (ls_s (ls_s ls_e))) (ih σ (i1 ||| 0) (i2 + 1) z hF)
      · have hF := qI q2 hF
        refine st_ic_1 h dX12_hurt_46 ?_
        refine st_iload_2 h dX12_hurt_47 ?_
        refine st_ishl h dX12_hurt_48 ?_
        refine st_goto (t := 53) h dX12_hurt_49 (by decide) ?_
        refine st_ior h dX12_hurt_53 ?_
        refine st_istore_1 h dX12_hurt_54 ?_
        refine st_iinc_2 (y := i2 + 1) h dX12_hurt_55 (ii_1 _) ?_
        refine st_goto (t := 22) h dX12_hurt_58 (by decide) ?_
        exact st_sub (ls_s (ls_s (ls_s ls_e))) (ih σ (i1 ||| (1 <<< (i2 &&& 31))) (i2 + 1) z hF)
set_option maxRecDepth 100000 in
set_option maxHeartbeats 4000000 in
theorem w_X12_hurt {l : Launch} {G : Gv} {σ : Sto} {z : (Int32 × Sto)} (hF : F_X12_hurt σ  = some z) : Con l yX12_hurt cX12_hurt 3 (some .int) 3 G shM νM [.ref 0] (ovM σ) (some (.int z.1)) (ovM z.2) := by
  rw [F_X12_hurt] at hF
  refine Con_enter (own := RX12) 2 (lv := [some (.ref 0), none, none]) mi_X12_hurt.2.2.2 rfl (Nat.le_of_ble_eq_true rfl) rfl (fun h hr hin => ?_)
  refine st_aload_0 h dX12_hurt_0 ?_
  refine st_ic_0 h dX12_hurt_1 ?_
  obtain ⟨s1, hs1, hF⟩ := swI hF
  refine pX12_0 h fl_X12_73 dX12_hurt_2 (congrArg Prod.fst kM_0) hs1 ?_
  refine st_aload_0 h dX12_hurt_5 ?_
  refine gX12_25 h fl_X12_229 dX12_hurt_6 (congrArg Prod.fst kM_0) ?_
  refine st_if_ne (t := 18) h dX12_hurt_9 (by decide) (fun q1 => ?_) (fun q1 => ?_)
  · have hF := qI q1 hF
    refine st_ic_0 h dX12_hurt_18 ?_
    refine st_istore_1 h dX12_hurt_19 ?_
    refine st_ic_0 h dX12_hurt_20 ?_
    refine st_istore_2 h dX12_hurt_21 ?_
    exact st_sub (ls_s (ls_s (ls_s ls_e))) (w_X12_hurt_22 h hr FU s1 0 0 z hF)
  · have hF := pI q1 hF
    refine st_aload_0 h dX12_hurt_12 ?_
    refine st_ic_1 h dX12_hurt_13 ?_
    obtain ⟨x1, hx1, hF⟩ := bI hF
    refine st_cVi (vs := [.int 1]) (st := []) h (w_X12_refused hx1) mi_X12_refused mv_X12_refused ml_X12_213 dX12_hurt_14 kM_0 rfl ⟨Nat.le_of_ble_eq_true rfl, Nat.le_of_ble_eq_true rfl⟩ (Nat.le_of_ble_eq_true rfl) rfl ?_
    cases hF
    exact st_iret h hr dX12_hurt_17
set_option maxRecDepth 100000 in
set_option maxHeartbeats 4000000 in
theorem w_X12_hardest_25 {p : Program} {l : Launch} {e : Env} {s : State} {m : MethodId} {args : Array Value} {below : List Frame} {meth : Method} {c : Code} {G : Gv} (h : Cx p s m args meth c G cX12_hardest 5 RX12) (hr : meth.sig.returnType = (some .int)) : ∀ (n : Nat) (σ : Sto) (i1 : Int32) (i2 : Int32) (i3 : Int32) (z : (Int32 × Sto)), F_X12_hardest_25 n σ i1 i2 i3 = some z → AW p l e (rmD 3 0 0) s m args below meth c (MQ below (QcR G shM νM (some (.int z.1)) (ovM z.2)) args s 0 0 (gA G)) 0 0 G 5 25 [some (.ref 0), some (.int i1), some (.int i2), some (.int i3), none] [] shM νM (ovM σ) := by
  intro n
  induction n with
  | zero => intro σ i1 i2 i3 z hF; cases hF
  | succ n ih =>
    intro σ i1 i2 i3 z hF
    rw [F_X12_hardest_25] at hF
    refine st_iload_3 h dX12_hardest_25 ?_
    refine st_aload_0 h dX12_hardest_26 ?_
    refine gX12_28 h fl_X12_223 dX12_hardest_27 (congrArg Prod.fst kM_0) ?_
    refine st_icmp_ge (t := 74) h dX12_hardest_30 (by decide) (fun q1 => ?_) (fun q1 => ?_)
    · have hF := pI q1 hF
      refine st_aload_0 h dX12_hardest_74 ?_
      refine st_iload_1 h dX12_hardest_75 ?_
      obtain ⟨x1, hx1, hF⟩ := bI hF
      refine st_cVi (vs := [.int i1]) (st := []) h (w_X12_tells hx1) mi_X12_tells mv_X12_tells ml_X12_233 dX12_hardest_76 kM_0 rfl ⟨Nat.le_of_ble_eq_true rfl, Nat.le_of_ble_eq_true rfl⟩ (Nat.le_of_ble_eq_true rfl) rfl ?_
      cases hF
      exact st_iret h hr dX12_hardest_79
    · have hF := qI q1 hF
      refine st_aload_0 h dX12_hardest_33 ?_
      refine st_iload_3 h dX12_hardest_34 ?_
      refine st_ic_1 h dX12_hardest_35 ?_
      obtain ⟨x2, hx2, hF⟩ := bI hF
      refine st_cVi (vs := [.int i3, .int 1]) (st := []) h (w_X12_burden hx2) mi_X12_burden mv_X12_burden ml_X12_302 dX12_hardest_36 kM_0 rfl ⟨Nat.le_of_ble_eq_true rfl, Nat.le_of_ble_eq_true rfl⟩ (Nat.le_of_ble_eq_true rfl) rfl ?_
      refine st_aload_0 h dX12_hardest_39 ?_
      refine st_iload_3 h dX12_hardest_40 ?_
      refine st_ic_0 h dX12_hardest_41 ?_
      obtain ⟨x3, hx3, hF⟩ := bI hF
      refine st_cVi (vs := [.int i3, .int 0]) (st := [.int x2]) h (w_X12_burden hx3) mi_X12_burden mv_X12_burden ml_X12_302 dX12_hardest_42 kM_0 rfl ⟨Nat.le_of_ble_eq_true rfl, Nat.le_of_ble_eq_true rfl⟩ (Nat.le_of_ble_eq_true rfl) rfl ?_
      refine st_isub h dX12_hardest_45 ?_
      refine st_istore_4 h dX12_hardest_46 ?_
      refine st_iload_1 h dX12_hardest_48 ?_
      refine st_bipush (v := (-2)) h dX12_hardest_49 (by decide) ?_
      refine st_icmp_eq (t := 63) h dX12_hardest_51 (by decide) (fun q2 => ?_) (fun q2 => ?_)
      · have hF := pI q2 hF
        refine st_iload_3 h dX12_hardest_63 ?_
        refine st_istore_1 h dX12_hardest_64 ?_
        refine st_iload_4 h dX12_hardest_65 ?_
        refine st_istore_2 h dX12_hardest_67 ?_
        refine st_iinc_3 (y := i3 + 1) h dX12_hardest_68 (ii_1 _) ?_
        refine st_goto (t := 25) h dX12_hardest_71 (by decide) ?_
        exact st_sub (ls_s (ls_s (ls_s (ls_s (ls_n ls_e))))) (ih σ i3 (x2 - x3) (i3 + 1) z hF)
      · have hF := qI q2 hF
        refine st_iload_4 h dX12_hardest_54 ?_
        refine st_iload_2 h dX12_hardest_56 ?_
        refine st_icmp_gt (t := 63) h dX12_hardest_57 (by decide) (fun q3 => ?_) (fun q3 => ?_)
        · have hF := pI q3 hF
          refine st_iload_3 h dX12_hardest_63 ?_
          refine st_istore_1 h dX12_hardest_64 ?_
          refine st_iload_4 h dX12_hardest_65 ?_
          refine st_istore_2 h dX12_hardest_67 ?_
          refine st_iinc_3 (y := i3 + 1) h dX12_hardest_68 (ii_1 _) ?_
          refine st_goto (t := 25) h dX12_hardest_71 (by decide) ?_
          exact st_sub (ls_s (ls_s (ls_s (ls_s (ls_n ls_e))))) (ih σ i3 (x2 - x3) (i3 + 1) z hF)
        · have hF := qI q3 hF
          refine st_goto (t := 68) h dX12_hardest_60 (by decide) ?_
          refine st_iinc_3 (y := i3 + 1) h dX12_hardest_68 (ii_1 _) ?_
          refine st_goto (t := 25) h dX12_hardest_71 (by decide) ?_
          exact st_sub (ls_s (ls_s (ls_s (ls_s (ls_n ls_e))))) (ih σ i1 i2 (i3 + 1) z hF)
set_option maxRecDepth 100000 in
set_option maxHeartbeats 4000000 in
theorem w_X12_hardest {l : Launch} {G : Gv} {σ : Sto} {z : (Int32 × Sto)} (hF : F_X12_hardest σ  = some z) : Con l yX12_hardest cX12_hardest 5 (some .int) 3 G shM νM [.ref 0] (ovM σ) (some (.int z.1)) (ovM z.2) := by
  rw [F_X12_hardest] at hF
  refine Con_enter (own := RX12) 4 (lv := [some (.ref 0), none, none, none, none]) mi_X12_hardest.2.2.2 rfl (Nat.le_of_ble_eq_true rfl) rfl (fun h hr hin => ?_)
  refine st_aload_0 h dX12_hardest_0 ?_
  refine st_ic_0 h dX12_hardest_1 ?_
  obtain ⟨s1, hs1, hF⟩ := swI hF
  refine pX12_0 h fl_X12_73 dX12_hardest_2 (congrArg Prod.fst kM_0) hs1 ?_
  refine st_aload_0 h dX12_hardest_5 ?_
  refine gX12_25 h fl_X12_229 dX12_hardest_6 (congrArg Prod.fst kM_0) ?_
  refine st_if_ne (t := 18) h dX12_hardest_9 (by decide) (fun q1 => ?_) (fun q1 => ?_)
  · have hF := qI q1 hF
    refine st_bipush (v := (-2)) h dX12_hardest_18 (by decide) ?_
    refine st_istore_1 h dX12_hardest_20 ?_
    refine st_ic_0 h dX12_hardest_21 ?_
    refine st_istore_2 h dX12_hardest_22 ?_
    refine st_ic_0 h dX12_hardest_23 ?_
    refine st_istore_3 h dX12_hardest_24 ?_
    exact st_sub (ls_s (ls_s (ls_s (ls_s (ls_n ls_e))))) (w_X12_hardest_25 h hr FU s1 (-2) 0 0 z hF)
  · have hF := pI q1 hF
    refine st_aload_0 h dX12_hardest_12 ?_
    refine st_ic_1 h dX12_hardest_13 ?_
    obtain ⟨x1, hx1, hF⟩ := bI hF
    refine st_cVi (vs := [.int 1]) (st := []) h (w_X12_refused hx1) mi_X12_refused mv_X12_refused ml_X12_213 dX12_hardest_14 kM_0 rfl ⟨Nat.le_of_ble_eq_true rfl, Nat.le_of_ble_eq_true rfl⟩ (Nat.le_of_ble_eq_true rfl) rfl ?_
    cases hF
    exact st_iret h hr dX12_hardest_17
set_option maxRecDepth 100000 in
set_option maxHeartbeats 4000000 in
theorem w_X12_common_4 {p : Program} {l : Launch} {e : Env} {s : State} {m : MethodId} {args : Array Value} {below : List Frame} {meth : Method} {c : Code} {G : Gv} (h : Cx p s m args meth c G cX12_common 5 RX12) (hr : meth.sig.returnType = (some .int)) : ∀ (n : Nat) (σ : Sto) (i2 : Int32) (i3 : Int32) (z : Int32), F_X12_common_4 n σ i2 i3 = some z → AW p l e (rmD 1 0 0) s m args below meth c (MQ below (QcR G shM νM (some (.int z)) (ovM σ)) args s 0 0 (gA G)) 0 0 G 5 4 [none, none, some (.int i2), some (.int i3), none] [] shM νM (ovM σ) := by
  intro n
  induction n with
  | zero => intro σ i2 i3 z hF; cases hF
  | succ n ih =>
    intro σ i2 i3 z hF
    rw [F_X12_common_4] at hF
    refine st_iload_3 h dX12_common_4 ?_
    refine st_if_eq (t := 21) h dX12_common_5 (by decide) (fun q1 => ?_) (fun q1 => ?_)
    · have hF := pI q1 hF
      refine st_iload_2 h dX12_common_21 ?_
      cases hF
      exact st_iret h hr dX12_common_22
    · have hF := qI q1 hF
      refine st_iload_2 h dX12_common_8 ?_
      refine st_iload_3 h dX12_common_9 ?_
      obtain ⟨g1, hF⟩ := gI hF
      refine st_irem h g1 dX12_common_10 ?_
      refine st_istore_4 h dX12_common_11 ?_
      refine st_iload_3 h dX12_common_13 ?_
      refine st_istore_2 h dX12_common_14 ?_
      refine st_iload_4 h dX12_common_15 ?_
      refine st_istore_3 h dX12_common_17 ?_
      refine st_goto (t := 4) h dX12_common_18 (by decide) ?_
      exact st_sub (ls_n (ls_n (ls_s (ls_s (ls_n ls_e))))) (ih σ i3 (i2 - i2 / i3 * i3) z hF)
set_option maxRecDepth 100000 in
set_option maxHeartbeats 4000000 in
theorem w_X12_common {l : Launch} {G : Gv} {σ : Sto} {i0 : Int32} {i1 : Int32} {z : Int32} (hF : F_X12_common σ i0 i1 = some z) : Con l yX12_common cX12_common 5 (some .int) 1 G shM νM [.int i0, .int i1] (ovM σ) (some (.int z)) (ovM σ) := by
  rw [F_X12_common] at hF
  refine Con_enter (own := RX12) 3 (lv := [some (.int i0), some (.int i1), none, none, none]) mi_X12_common.2.2.2 rfl (Nat.le_of_ble_eq_true rfl) rfl (fun h hr hin => ?_)
  refine st_iload_0 h dX12_common_0 ?_
  refine st_istore_2 h dX12_common_1 ?_
  refine st_iload_1 h dX12_common_2 ?_
  refine st_istore_3 h dX12_common_3 ?_
  exact st_sub (ls_n (ls_n (ls_s (ls_s (ls_n ls_e))))) (w_X12_common_4 h hr FU σ i0 i1 z hF)
set_option maxRecDepth 100000 in
set_option maxHeartbeats 4000000 in
theorem w_X12_part_10 {p : Program} {l : Launch} {e : Env} {s : State} {m : MethodId} {args : Array Value} {below : List Frame} {meth : Method} {c : Code} {G : Gv} (h : Cx p s m args meth c G cX12_part 4 RX12) (hr : meth.sig.returnType = (some .int)) : ∀ (σ : Sto) (i1 : Int32) (i2 : Int32) (e1 : Int32) (z : (Int32 × Sto)), F_X12_part_10 σ i1 i2 e1 = some z → AW p l e (rmD 2 0 0) s m args below meth c (MQ below (QcR G shM νM (some (.int z.1)) (ovM z.2)) args s 0 0 (gA G)) 0 0 G 4 10 [none, some (.int i1), some (.int i2), none] [.int e1, .ref 0] shM νM (ovM σ) := by
  intro σ i1 i2 e1 z hF
  rw [F_X12_part_10] at hF
  refine st_iload_1 h dX12_part_10 ?_
  refine st_iload_2 h dX12_part_11 ?_
  obtain ⟨x1, hx1, hF⟩ := bI hF
  refine st_cSi (vs := [.int i1, .int i2]) (st := [.int e1, .ref 0]) h (w_X12_common hx1) mi_X12_common ms_X12_common ml_X12_318 dX12_part_12 rfl ⟨Nat.le_of_ble_eq_true rfl, Nat.le_of_ble_eq_true rfl⟩ (Nat.le_of_ble_eq_true rfl) rfl ?_
  obtain ⟨g1, hF⟩ := gI hF
  refine st_idiv h g1 dX12_part_15 ?_
  obtain ⟨x2, hx2, hF⟩ := bI hF
  refine st_cVi (vs := [.int (e1 / x1)]) (st := []) h (w_X12_tells hx2) mi_X12_tells mv_X12_tells ml_X12_233 dX12_part_16 kM_0 rfl ⟨Nat.le_of_ble_eq_true rfl, Nat.le_of_ble_eq_true rfl⟩ (Nat.le_of_ble_eq_true rfl) rfl ?_
  cases hF
  exact st_iret h hr dX12_part_19
set_option maxRecDepth 100000 in
set_option maxHeartbeats 4000000 in
theorem w_X12_part {l : Launch} {G : Gv} {σ : Sto} {i1 : Int32} {i2 : Int32} {i3 : Int32} {z : (Int32 × Sto)} (hF : F_X12_part σ i1 i2 i3 = some z) : Con l yX12_part cX12_part 4 (some .int) 2 G shM νM [.ref 0, .int i1, .int i2, .int i3] (ovM σ) (some (.int z.1)) (ovM z.2) := by
  rw [F_X12_part] at hF
  refine Con_enter (own := RX12) 0 (lv := [some (.ref 0), some (.int i1), some (.int i2), some (.int i3)]) mi_X12_part.2.2.2 rfl (Nat.le_of_ble_eq_true rfl) rfl (fun h hr hin => ?_)
  refine st_aload_0 h dX12_part_0 ?_
  refine st_iload_3 h dX12_part_1 ?_
  refine st_if_ne (t := 9) h dX12_part_2 (by decide) (fun q1 => ?_) (fun q1 => ?_)
  · have hF := qI q1 hF
    refine st_iload_2 h dX12_part_9 ?_
    exact st_sub (ls_n (ls_s (ls_s (ls_n ls_e)))) (w_X12_part_10 h hr σ i1 i2 i2 z hF)
  · have hF := pI q1 hF
    refine st_iload_1 h dX12_part_5 ?_
    refine st_goto (t := 10) h dX12_part_6 (by decide) ?_
    exact st_sub (ls_n (ls_s (ls_s (ls_n ls_e)))) (w_X12_part_10 h hr σ i1 i2 i1 z hF)
set_option maxRecDepth 100000 in
set_option maxHeartbeats 4000000 in
theorem w_X12_level_30 {p : Program} {l : Launch} {e : Env} {s : State} {m : MethodId} {args : Array Value} {below : List Frame} {meth : Method} {c : Code} {G : Gv} (h : Cx p s m args meth c G cX12_level 7 RX12) (hr : meth.sig.returnType = (some .int)) : ∀ (σ : Sto) (z : (Int32 × Sto)), F_X12_level_30 σ  = some z → AW p l e (rmD 4 0 0) s m args below meth c (MQ below (QcR G shM νM (some (.int z.1)) (ovM z.2)) args s 0 0 (gA G)) 0 0 G 7 30 [some (.ref 0), none, none, none, none, none, none] [] shM νM (ovM σ) := by
  intro σ z hF
  rw [F_X12_level_30] at hF
  refine st_aload_0 h dX12_level_30 ?_
  refine st_ic_1 h dX12_level_31 ?_
  obtain ⟨x1, hx1, hF⟩ := bI hF
  refine st_cVi (vs := [.int 1]) (st := []) h (w_X12_refused hx1) mi_X12_refused mv_X12_refused ml_X12_213 dX12_level_32 kM_0 rfl ⟨Nat.le_of_ble_eq_true rfl, Nat.le_of_ble_eq_true rfl⟩ (Nat.le_of_ble_eq_true rfl) rfl ?_
  cases hF
  exact st_iret h hr dX12_level_35
set_option maxRecDepth 100000 in
set_option maxHeartbeats 4000000 in
theorem w_X12_level_79 {p : Program} {l : Launch} {e : Env} {s : State} {m : MethodId} {args : Array Value} {below : List Frame} {meth : Method} {c : Code} {G : Gv} (h : Cx p s m args meth c G cX12_level 7 RX12) (hr : meth.sig.returnType = (some .int)) {k44 : Sto → Int32 → Int32 → Int32 → Int32 → Int32 → Option (Int32 × Sto)} (H44 : ∀ (σ : Sto) (i1 : Int32) (i2 : Int32) (i3 : Int32) (i4 : Int32) (i5 : Int32) (z : (Int32 × Sto)), k44 σ i1 i2 i3 i4 i5 = some z → AW p l e (rmD 4 0 0) s m args below meth c (MQ below (QcR G shM νM (some (.int z.1)) (ovM z.2)) args s 0 0 (gA G)) 0 0 G 7 44 [some (.ref 0), some (.int i1), some (.int i2), some (.int i3), some (.int i4), some (.int i5), none] [] shM νM (ovM σ)) : ∀ (σ : Sto) (i1 : Int32) (i2 : Int32) (i3 : Int32) (i4 : Int32) (i5 : Int32) (e0 : Int32) (z : (Int32 × Sto)), F_X12_level_79 k44 σ i1 i2 i3 i4 i5 e0 = some z → AW p l e (rmD 4 0 0) s m args below meth c (MQ below (QcR G shM νM (some (.int z.1)) (ovM z.2)) args s 0 0 (gA G)) 0 0 G 7 79 [some (.ref 0), some (.int i1), some (.int i2), some (.int i3), some (.int i4), some (.int i5), none] [.int e0] shM νM (ovM σ) := by
  intro σ i1 i2 i3 i4 i5 e0 z hF
  rw [F_X12_level_79] at hF
  refine st_istore_6 h dX12_level_79 ?_
  refine st_iload_3 h dX12_level_81 ?_
  refine st_aload_0 h dX12_level_82 ?_
  refine st_iload_5 h dX12_level_83 ?_
  refine st_ic_1 h dX12_level_85 ?_
  obtain ⟨x1, hx1, hF⟩ := bI hF
  refine st_cVi (vs := [.int i5, .int 1]) (st := [.int i3]) h (w_X12_of hx1) mi_X12_of mv_X12_of ml_X12_236 dX12_level_86 kM_0 rfl ⟨Nat.le_of_ble_eq_true rfl, Nat.le_of_ble_eq_true rfl⟩ (Nat.le_of_ble_eq_true rfl) rfl ?_
  refine st_iload_6 h dX12_level_89 ?_
  refine st_imul h dX12_level_91 ?_
  refine st_iadd h dX12_level_92 ?_
  refine st_istore_3 h dX12_level_93 ?_
  refine st_iload_4 h dX12_level_94 ?_
  refine st_aload_0 h dX12_level_96 ?_
  refine st_iload_5 h dX12_level_97 ?_
  refine st_ic_0 h dX12_level_99 ?_
  obtain ⟨x2, hx2, hF⟩ := bI hF
  refine st_cVi (vs := [.int i5, .int 0]) (st := [.int i4]) h (w_X12_of hx2) mi_X12_of mv_X12_of ml_X12_236 dX12_level_100 kM_0 rfl ⟨Nat.le_of_ble_eq_true rfl, Nat.le_of_ble_eq_true rfl⟩ (Nat.le_of_ble_eq_true rfl) rfl ?_
  refine st_iload_6 h dX12_level_103 ?_
  refine st_imul h dX12_level_105 ?_
  refine st_iadd h dX12_level_106 ?_
  refine st_istore_4 h dX12_level_107 ?_
  refine st_iinc_5 (y := i5 + 1) h dX12_level_109 (ii_1 _) ?_
  refine st_goto (t := 44) h dX12_level_112 (by decide) ?_
  exact st_sub (ls_s (ls_s (ls_s (ls_s (ls_s (ls_s (ls_n ls_e))))))) (H44 σ i1 i2 (i3 + (x1 * e0)) (i4 + (x2 * e0)) (i5 + 1) z hF)
set_option maxRecDepth 100000 in
set_option maxHeartbeats 4000000 in
theorem w_X12_level_44 {p : Program} {l : Launch} {e : Env} {s : State} {m : MethodId} {args : Array Value} {below : List Frame} {meth : Method} {c : Code} {G : Gv} (h : Cx p s m args meth c G cX12_level 7 RX12) (hr : meth.sig.returnType = (some .int)) : ∀ (n : Nat) (σ : Sto) (i1 : Int32) (i2 : Int32) (i3 : Int32) (i4 : Int32) (i5 : Int32) (z : (Int32 × Sto)), F_X12_level_44 n σ i1 i2 i3 i4 i5 = some z → AW p l e (rmD 4 0 0) s m args below meth c (MQ below (QcR G shM νM (some (.int z.1)) (ovM z.2)) args s 0 0 (gA G)) 0 0 G 7 44 [some (.ref 0), some (.int i1), some (.int i2), some (.int i3), some (.int i4), some (.int i5), none] [] shM νM (ovM σ) := by
  intro n
  induction n with
  | zero => intro σ i1 i2 i3 i4 i5 z hF; cases hF
  | succ n ih =>
    intro σ i1 i2 i3 i4 i5 z hF
    rw [F_X12_level_44] at hF
    refine st_iload_5 h dX12_level_44 ?_
    refine st_aload_0 h dX12_level_46 ?_
    refine gX12_22 h fl_X12_220 dX12_level_47 (congrArg Prod.fst kM_0) ?_
    refine st_icmp_ge (t := 115) h dX12_level_50 (by decide) (fun q1 => ?_) (fun q1 => ?_)
    · have hF := pI q1 hF
      refine st_iload_4 h dX12_level_115 ?_
      refine st_if_ne (t := 128) h dX12_level_117 (by decide) (fun q2 => ?_) (fun q2 => ?_)
      · have hF := qI q2 hF
        refine st_aload_0 h dX12_level_128 ?_
        refine st_iload_3 h dX12_level_129 ?_
        refine st_iload_4 h dX12_level_130 ?_
        refine st_iload_2 h dX12_level_132 ?_
        obtain ⟨x1, hx1, hF⟩ := bI hF
        refine st_cVi (vs := [.int i3, .int i4, .int i2]) (st := []) h (w_X12_part hx1) mi_X12_part mv_X12_part ml_X12_321 dX12_level_133 kM_0 rfl ⟨Nat.le_of_ble_eq_true rfl, Nat.le_of_ble_eq_true rfl⟩ (Nat.le_of_ble_eq_true rfl) rfl ?_
        cases hF
        exact st_iret h hr dX12_level_136
      · have hF := pI q2 hF
        refine st_aload_0 h dX12_level_120 ?_
        refine st_ic_5 h dX12_level_121 ?_
        obtain ⟨x2, hx2, hF⟩ := bI hF
        refine st_cVi (vs := [.int 5]) (st := []) h (w_X12_refused hx2) mi_X12_refused mv_X12_refused ml_X12_213 dX12_level_122 kM_0 rfl ⟨Nat.le_of_ble_eq_true rfl, Nat.le_of_ble_eq_true rfl⟩ (Nat.le_of_ble_eq_true rfl) rfl ?_
        refine st_goto (t := 136) h dX12_level_125 (by decide) ?_
        cases hF
        exact st_iret h hr dX12_level_136
    · have hF := qI q1 hF
      refine st_iload_1 h dX12_level_53 ?_
      refine st_if_ne (t := 66) h dX12_level_54 (by decide) (fun q3 => ?_) (fun q3 => ?_)
      · have hF := qI q3 hF
        refine st_aload_0 h dX12_level_66 ?_
        refine st_iload_5 h dX12_level_67 ?_
        refine st_aload_0 h dX12_level_69 ?_
        refine st_iload_5 h dX12_level_70 ?_
        refine st_ic_1 h dX12_level_72 ?_
        obtain ⟨x3, hx3, hF⟩ := bI hF
        refine st_cVi (vs := [.int i5, .int 1]) (st := [.int i5, .ref 0]) h (w_X12_of hx3) mi_X12_of mv_X12_of ml_X12_236 dX12_level_73 kM_0 rfl ⟨Nat.le_of_ble_eq_true rfl, Nat.le_of_ble_eq_true rfl⟩ (Nat.le_of_ble_eq_true rfl) rfl ?_
        obtain ⟨x4, hx4, hF⟩ := bI hF
        refine st_cVi (vs := [.int i5, .int x3]) (st := []) h (w_X12_boughtAt hx4) mi_X12_boughtAt mv_X12_boughtAt ml_X12_239 dX12_level_76 kM_0 rfl ⟨Nat.le_of_ble_eq_true rfl, Nat.le_of_ble_eq_true rfl⟩ (Nat.le_of_ble_eq_true rfl) rfl ?_
        exact st_sub (ls_s (ls_s (ls_s (ls_s (ls_s (ls_s (ls_n ls_e))))))) (w_X12_level_79 h hr ih σ i1 i2 i3 i4 i5 x4 z hF)
      · have hF := pI q3 hF
        refine st_aload_0 h dX12_level_57 ?_
        refine st_iload_5 h dX12_level_58 ?_
        obtain ⟨x5, hx5, hF⟩ := bI hF
        refine st_cVi (vs := [.int i5]) (st := []) h (w_X12_weight hx5) mi_X12_weight mv_X12_weight ml_X12_245 dX12_level_60 kM_0 rfl ⟨Nat.le_of_ble_eq_true rfl, Nat.le_of_ble_eq_true rfl⟩ (Nat.le_of_ble_eq_true rfl) rfl ?_
        refine st_goto (t := 79) h dX12_level_63 (by decide) ?_
        exact st_sub (ls_s (ls_s (ls_s (ls_s (ls_s (ls_s (ls_n ls_e))))))) (w_X12_level_79 h hr ih σ i1 i2 i3 i4 i5 x5 z hF)
set_option maxRecDepth 100000 in
set_option maxHeartbeats 4000000 in
theorem w_X12_level {l : Launch} {G : Gv} {σ : Sto} {i1 : Int32} {i2 : Int32} {z : (Int32 × Sto)} (hF : F_X12_level σ i1 i2 = some z) : Con l yX12_level cX12_level 7 (some .int) 4 G shM νM [.ref 0, .int i1, .int i2] (ovM σ) (some (.int z.1)) (ovM z.2) := by
  rw [F_X12_level] at hF
  refine Con_enter (own := RX12) 4 (lv := [some (.ref 0), some (.int i1), some (.int i2), none, none, none, none]) mi_X12_level.2.2.2 rfl (Nat.le_of_ble_eq_true rfl) rfl (fun h hr hin => ?_)
  refine st_aload_0 h dX12_level_0 ?_
  refine st_ic_0 h dX12_level_1 ?_
  obtain ⟨s1, hs1, hF⟩ := swI hF
  refine pX12_0 h fl_X12_73 dX12_level_2 (congrArg Prod.fst kM_0) hs1 ?_
  refine st_aload_0 h dX12_level_5 ?_
  refine gX12_25 h fl_X12_229 dX12_level_6 (congrArg Prod.fst kM_0) ?_
  refine st_if_eq (t := 30) h dX12_level_9 (by decide) (fun q1 => ?_) (fun q1 => ?_)
  · have hF := pI q1 hF
    exact st_sub (ls_s (ls_n (ls_n (ls_n (ls_n (ls_n (ls_n ls_e))))))) (w_X12_level_30 h hr s1  z hF)
  · have hF := qI q1 hF
    refine st_iload_1 h dX12_level_12 ?_
    refine st_ic_0 h dX12_level_13 ?_
    refine st_ic_1 h dX12_level_14 ?_
    obtain ⟨x1, hx1, hF⟩ := bI hF
    refine st_cSi (vs := [.int i1, .int 0, .int 1]) (st := []) h (w_X12_in hx1) mi_X12_in ms_X12_in ml_X12_94 dX12_level_15 rfl ⟨Nat.le_of_ble_eq_true rfl, Nat.le_of_ble_eq_true rfl⟩ (Nat.le_of_ble_eq_true rfl) rfl ?_
    refine st_if_eq (t := 30) h dX12_level_18 (by decide) (fun q2 => ?_) (fun q2 => ?_)
    · have hF := pI q2 hF
      exact st_sub (ls_s (ls_n (ls_n (ls_n (ls_n (ls_n (ls_n ls_e))))))) (w_X12_level_30 h hr s1  z hF)
    · have hF := qI q2 hF
      refine st_iload_2 h dX12_level_21 ?_
      refine st_ic_0 h dX12_level_22 ?_
      refine st_ic_1 h dX12_level_23 ?_
      obtain ⟨x2, hx2, hF⟩ := bI hF
      refine st_cSi (vs := [.int i2, .int 0, .int 1]) (st := []) h (w_X12_in hx2) mi_X12_in ms_X12_in ml_X12_94 dX12_level_24 rfl ⟨Nat.le_of_ble_eq_true rfl, Nat.le_of_ble_eq_true rfl⟩ (Nat.le_of_ble_eq_true rfl) rfl ?_
      refine st_if_ne (t := 36) h dX12_level_27 (by decide) (fun q3 => ?_) (fun q3 => ?_)
      · have hF := qI q3 hF
        refine st_ic_0 h dX12_level_36 ?_
        refine st_istore_3 h dX12_level_37 ?_
        refine st_ic_0 h dX12_level_38 ?_
        refine st_istore_4 h dX12_level_39 ?_
        refine st_ic_0 h dX12_level_41 ?_
        refine st_istore_5 h dX12_level_42 ?_
        exact st_sub (ls_s (ls_s (ls_s (ls_s (ls_s (ls_s (ls_n ls_e))))))) (w_X12_level_44 h hr FU s1 i1 i2 0 0 0 z hF)
      · have hF := pI q3 hF
        exact st_sub (ls_s (ls_n (ls_n (ls_n (ls_n (ls_n (ls_n ls_e))))))) (w_X12_level_30 h hr s1  z hF)
set_option maxRecDepth 100000 in
set_option maxHeartbeats 4000000 in
theorem w_X12_share_22 {p : Program} {l : Launch} {e : Env} {s : State} {m : MethodId} {args : Array Value} {below : List Frame} {meth : Method} {c : Code} {G : Gv} (h : Cx p s m args meth c G cX12_share 3 RX12) (hr : meth.sig.returnType = (some .int)) : ∀ (σ : Sto) (z : (Int32 × Sto)), F_X12_share_22 σ  = some z → AW p l e (rmD 5 0 0) s m args below meth c (MQ below (QcR G shM νM (some (.int z.1)) (ovM z.2)) args s 0 0 (gA G)) 0 0 G 3 22 [some (.ref 0), none, none] [] shM νM (ovM σ) := by
  intro σ z hF
  rw [F_X12_share_22] at hF
  refine st_aload_0 h dX12_share_22 ?_
  refine st_ic_1 h dX12_share_23 ?_
  obtain ⟨x1, hx1, hF⟩ := bI hF
  refine st_cVi (vs := [.int 1]) (st := []) h (w_X12_refused hx1) mi_X12_refused mv_X12_refused ml_X12_213 dX12_share_24 kM_0 rfl ⟨Nat.le_of_ble_eq_true rfl, Nat.le_of_ble_eq_true rfl⟩ (Nat.le_of_ble_eq_true rfl) rfl ?_
  cases hF
  exact st_iret h hr dX12_share_27
set_option maxRecDepth 100000 in
set_option maxHeartbeats 4000000 in
theorem w_X12_share {l : Launch} {G : Gv} {σ : Sto} {i1 : Int32} {i2 : Int32} {z : (Int32 × Sto)} (hF : F_X12_share σ i1 i2 = some z) : Con l yX12_share cX12_share 3 (some .int) 5 G shM νM [.ref 0, .int i1, .int i2] (ovM σ) (some (.int z.1)) (ovM z.2) := by
  rw [F_X12_share] at hF
  refine Con_enter (own := RX12) 0 (lv := [some (.ref 0), some (.int i1), some (.int i2)]) mi_X12_share.2.2.2 rfl (Nat.le_of_ble_eq_true rfl) rfl (fun h hr hin => ?_)
  refine st_aload_0 h dX12_share_0 ?_
  refine st_ic_0 h dX12_share_1 ?_
  obtain ⟨s1, hs1, hF⟩ := swI hF
  refine pX12_0 h fl_X12_73 dX12_share_2 (congrArg Prod.fst kM_0) hs1 ?_
  refine st_aload_0 h dX12_share_5 ?_
  refine st_iload_1 h dX12_share_6 ?_
  obtain ⟨x1, hx1, hF⟩ := bI hF
  refine st_cVi (vs := [.int i1]) (st := []) h (w_X12_isService hx1) mi_X12_isService mv_X12_isService ml_X12_272 dX12_share_7 kM_0 rfl ⟨Nat.le_of_ble_eq_true rfl, Nat.le_of_ble_eq_true rfl⟩ (Nat.le_of_ble_eq_true rfl) rfl ?_
  refine st_if_eq (t := 22) h dX12_share_10 (by decide) (fun q1 => ?_) (fun q1 => ?_)
  · have hF := pI q1 hF
    exact st_sub (ls_s (ls_n (ls_n ls_e))) (w_X12_share_22 h hr s1  z hF)
  · have hF := qI q1 hF
    refine st_iload_2 h dX12_share_13 ?_
    refine st_ic_0 h dX12_share_14 ?_
    refine st_ic_1 h dX12_share_15 ?_
    obtain ⟨x2, hx2, hF⟩ := bI hF
    refine st_cSi (vs := [.int i2, .int 0, .int 1]) (st := []) h (w_X12_in hx2) mi_X12_in ms_X12_in ml_X12_94 dX12_share_16 rfl ⟨Nat.le_of_ble_eq_true rfl, Nat.le_of_ble_eq_true rfl⟩ (Nat.le_of_ble_eq_true rfl) rfl ?_
    refine st_if_ne (t := 28) h dX12_share_19 (by decide) (fun q2 => ?_) (fun q2 => ?_)
    · have hF := qI q2 hF
      refine st_aload_0 h dX12_share_28 ?_
      obtain ⟨x3, hx3, hF⟩ := bI hF
      refine st_cVi (vs := []) (st := []) h (w_X12_spent hx3) mi_X12_spent mv_X12_spent ml_X12_257 dX12_share_29 kM_0 rfl ⟨Nat.le_of_ble_eq_true rfl, Nat.le_of_ble_eq_true rfl⟩ (Nat.le_of_ble_eq_true rfl) rfl ?_
      refine st_if_ne (t := 43) h dX12_share_32 (by decide) (fun q3 => ?_) (fun q3 => ?_)
      · have hF := qI q3 hF
        refine st_aload_0 h dX12_share_43 ?_
        refine st_aload_0 h dX12_share_44 ?_
        refine st_iload_1 h dX12_share_45 ?_
        refine st_ic_1 h dX12_share_46 ?_
        obtain ⟨x4, hx4, hF⟩ := bI hF
        refine st_cVi (vs := [.int i1, .int 1]) (st := [.ref 0]) h (w_X12_of hx4) mi_X12_of mv_X12_of ml_X12_236 dX12_share_47 kM_0 rfl ⟨Nat.le_of_ble_eq_true rfl, Nat.le_of_ble_eq_true rfl⟩ (Nat.le_of_ble_eq_true rfl) rfl ?_
        refine st_aload_0 h dX12_share_50 ?_
        refine st_iload_1 h dX12_share_51 ?_
        obtain ⟨x5, hx5, hF⟩ := bI hF
        refine st_cVi (vs := [.int i1]) (st := [.int x4, .ref 0]) h (w_X12_weight hx5) mi_X12_weight mv_X12_weight ml_X12_245 dX12_share_52 kM_0 rfl ⟨Nat.le_of_ble_eq_true rfl, Nat.le_of_ble_eq_true rfl⟩ (Nat.le_of_ble_eq_true rfl) rfl ?_
        refine st_imul h dX12_share_55 ?_
        refine st_aload_0 h dX12_share_56 ?_
        obtain ⟨x6, hx6, hF⟩ := bI hF
        refine st_cVi (vs := []) (st := [.int (x4 * x5), .ref 0]) h (w_X12_spent hx6) mi_X12_spent mv_X12_spent ml_X12_257 dX12_share_57 kM_0 rfl ⟨Nat.le_of_ble_eq_true rfl, Nat.le_of_ble_eq_true rfl⟩ (Nat.le_of_ble_eq_true rfl) rfl ?_
        refine st_iload_2 h dX12_share_60 ?_
        obtain ⟨x7, hx7, hF⟩ := bI hF
        refine st_cVi (vs := [.int (x4 * x5), .int x6, .int i2]) (st := []) h (w_X12_part hx7) mi_X12_part mv_X12_part ml_X12_321 dX12_share_61 kM_0 rfl ⟨Nat.le_of_ble_eq_true rfl, Nat.le_of_ble_eq_true rfl⟩ (Nat.le_of_ble_eq_true rfl) rfl ?_
        cases hF
        exact st_iret h hr dX12_share_64
      · have hF := pI q3 hF
        refine st_aload_0 h dX12_share_35 ?_
        refine st_ic_5 h dX12_share_36 ?_
        obtain ⟨x8, hx8, hF⟩ := bI hF
        refine st_cVi (vs := [.int 5]) (st := []) h (w_X12_refused hx8) mi_X12_refused mv_X12_refused ml_X12_213 dX12_share_37 kM_0 rfl ⟨Nat.le_of_ble_eq_true rfl, Nat.le_of_ble_eq_true rfl⟩ (Nat.le_of_ble_eq_true rfl) rfl ?_
        refine st_goto (t := 64) h dX12_share_40 (by decide) ?_
        cases hF
        exact st_iret h hr dX12_share_64
    · have hF := pI q2 hF
      exact st_sub (ls_s (ls_n (ls_n ls_e))) (w_X12_share_22 h hr s1  z hF)
set_option maxRecDepth 100000 in
set_option maxHeartbeats 4000000 in
theorem w_X12_gains_60 {p : Program} {l : Launch} {e : Env} {s : State} {m : MethodId} {args : Array Value} {below : List Frame} {meth : Method} {c : Code} {G : Gv} (h : Cx p s m args meth c G cX12_gains 5 RX12) (hr : meth.sig.returnType = (some .int)) : ∀ (σ : Sto) (i1 : Int32) (i2 : Int32) (i3 : Int32) (z : (Int32 × Sto)), F_X12_gains_60 σ i1 i2 i3 = some z → AW p l e (rmD 6 0 0) s m args below meth c (MQ below (QcR G shM νM (some (.int z.1)) (ovM z.2)) args s 0 0 (gA G)) 0 0 G 5 60 [some (.ref 0), some (.int i1), some (.int i2), some (.int i3), none] [] shM νM (ovM σ) := by
  intro σ i1 i2 i3 z hF
  rw [F_X12_gains_60] at hF
  refine st_aload_0 h dX12_gains_60 ?_
  obtain ⟨x1, hx1, hF⟩ := bI hF
  refine st_cVi (vs := []) (st := []) h (w_X12_allowed hx1) mi_X12_allowed mv_X12_allowed ml_X12_260 dX12_gains_61 kM_0 rfl ⟨Nat.le_of_ble_eq_true rfl, Nat.le_of_ble_eq_true rfl⟩ (Nat.le_of_ble_eq_true rfl) rfl ?_
  refine st_istore_4 h dX12_gains_64 ?_
  refine st_aload_0 h dX12_gains_66 ?_
  refine gX12_14 h fl_X12_17 dX12_gains_67 (congrArg Prod.fst kM_0) ?_
  refine st_bipush (v := 7) h dX12_gains_70 (by decide) ?_
  refine st_iload_1 h dX12_gains_72 ?_
  refine st_imul h dX12_gains_73 ?_
  refine st_ic_5 h dX12_gains_74 ?_
  refine st_iadd h dX12_gains_75 ?_
  refine st_iload_2 h dX12_gains_76 ?_
  obtain ⟨g1, hF⟩ := gI hF
  obtain ⟨s1, hs1, hF⟩ := swI hF
  refine isM h dX12_gains_77 kM_2 g1 hs1 ?_
  refine st_aload_0 h dX12_gains_78 ?_
  refine st_iload_4 h dX12_gains_79 ?_
  refine st_iload_3 h dX12_gains_81 ?_
  refine st_isub h dX12_gains_82 ?_
  obtain ⟨x2, hx2, hF⟩ := bI hF
  refine st_cVi (vs := [.int (x1 - i3)]) (st := []) h (w_X12_tells hx2) mi_X12_tells mv_X12_tells ml_X12_233 dX12_gains_83 kM_0 rfl ⟨Nat.le_of_ble_eq_true rfl, Nat.le_of_ble_eq_true rfl⟩ (Nat.le_of_ble_eq_true rfl) rfl ?_
  cases hF
  exact st_iret h hr dX12_gains_86
set_option maxRecDepth 100000 in
set_option maxHeartbeats 4000000 in
theorem w_X12_gains {l : Launch} {G : Gv} {σ : Sto} {i1 : Int32} {z : (Int32 × Sto)} (hF : F_X12_gains σ i1 = some z) : Con l yX12_gains cX12_gains 5 (some .int) 6 G shM νM [.ref 0, .int i1] (ovM σ) (some (.int z.1)) (ovM z.2) := by
  rw [F_X12_gains] at hF
  refine Con_enter (own := RX12) 3 (lv := [some (.ref 0), some (.int i1), none, none, none]) mi_X12_gains.2.2.2 rfl (Nat.le_of_ble_eq_true rfl) rfl (fun h hr hin => ?_)
  refine st_aload_0 h dX12_gains_0 ?_
  refine st_ic_0 h dX12_gains_1 ?_
  obtain ⟨s1, hs1, hF⟩ := swI hF
  refine pX12_0 h fl_X12_73 dX12_gains_2 (congrArg Prod.fst kM_0) hs1 ?_
  refine st_aload_0 h dX12_gains_5 ?_
  refine st_iload_1 h dX12_gains_6 ?_
  obtain ⟨x1, hx1, hF⟩ := bI hF
  refine st_cVi (vs := [.int i1]) (st := []) h (w_X12_isService hx1) mi_X12_isService mv_X12_isService ml_X12_272 dX12_gains_7 kM_0 rfl ⟨Nat.le_of_ble_eq_true rfl, Nat.le_of_ble_eq_true rfl⟩ (Nat.le_of_ble_eq_true rfl) rfl ?_
  refine st_if_ne (t := 19) h dX12_gains_10 (by decide) (fun q1 => ?_) (fun q1 => ?_)
  · have hF := qI q1 hF
    refine st_aload_0 h dX12_gains_19 ?_
    refine st_iload_1 h dX12_gains_20 ?_
    refine st_ic_5 h dX12_gains_21 ?_
    obtain ⟨x2, hx2, hF⟩ := bI hF
    refine st_cVi (vs := [.int i1, .int 5]) (st := []) h (w_X12_of hx2) mi_X12_of mv_X12_of ml_X12_236 dX12_gains_22 kM_0 rfl ⟨Nat.le_of_ble_eq_true rfl, Nat.le_of_ble_eq_true rfl⟩ (Nat.le_of_ble_eq_true rfl) rfl ?_
    refine st_istore_2 h dX12_gains_25 ?_
    refine st_aload_0 h dX12_gains_26 ?_
    obtain ⟨x3, hx3, hF⟩ := bI hF
    refine st_cVi (vs := []) (st := []) h (w_X12_allowed hx3) mi_X12_allowed mv_X12_allowed ml_X12_260 dX12_gains_27 kM_0 rfl ⟨Nat.le_of_ble_eq_true rfl, Nat.le_of_ble_eq_true rfl⟩ (Nat.le_of_ble_eq_true rfl) rfl ?_
    refine st_istore_3 h dX12_gains_30 ?_
    refine st_aload_0 h dX12_gains_31 ?_
    refine st_iload_1 h dX12_gains_32 ?_
    refine st_bipush (v := 6) h dX12_gains_33 (by decide) ?_
    obtain ⟨x4, hx4, hF⟩ := bI hF
    refine st_cVi (vs := [.int i1, .int 6]) (st := []) h (w_X12_of hx4) mi_X12_of mv_X12_of ml_X12_236 dX12_gains_35 kM_0 rfl ⟨Nat.le_of_ble_eq_true rfl, Nat.le_of_ble_eq_true rfl⟩ (Nat.le_of_ble_eq_true rfl) rfl ?_
    refine st_iload_2 h dX12_gains_38 ?_
    refine st_icmp_le (t := 60) h dX12_gains_39 (by decide) (fun q2 => ?_) (fun q2 => ?_)
    · have hF := pI q2 hF
      exact st_sub (ls_s (ls_s (ls_s (ls_s (ls_n ls_e))))) (w_X12_gains_60 h hr s1 i1 x2 x3 z hF)
    · have hF := qI q2 hF
      refine st_aload_0 h dX12_gains_42 ?_
      refine gX12_14 h fl_X12_17 dX12_gains_43 (congrArg Prod.fst kM_0) ?_
      refine st_bipush (v := 7) h dX12_gains_46 (by decide) ?_
      refine st_iload_1 h dX12_gains_48 ?_
      refine st_imul h dX12_gains_49 ?_
      refine st_ic_5 h dX12_gains_50 ?_
      refine st_iadd h dX12_gains_51 ?_
      refine st_aload_0 h dX12_gains_52 ?_
      refine st_iload_1 h dX12_gains_53 ?_
      refine st_bipush (v := 6) h dX12_gains_54 (by decide) ?_
      obtain ⟨x5, hx5, hF⟩ := bI hF
      refine st_cVi (vs := [.int i1, .int 6]) (st := [.int ((7 * i1) + 5), .ref 2]) h (w_X12_of hx5) mi_X12_of mv_X12_of ml_X12_236 dX12_gains_56 kM_0 rfl ⟨Nat.le_of_ble_eq_true rfl, Nat.le_of_ble_eq_true rfl⟩ (Nat.le_of_ble_eq_true rfl) rfl ?_
      obtain ⟨g1, hF⟩ := gI hF
      obtain ⟨s2, hs2, hF⟩ := swI hF
      refine isM h dX12_gains_59 kM_2 g1 hs2 ?_
      exact st_sub (ls_s (ls_s (ls_s (ls_s (ls_n ls_e))))) (w_X12_gains_60 h hr s2 i1 x2 x3 z hF)
  · have hF := pI q1 hF
    refine st_aload_0 h dX12_gains_13 ?_
    refine st_ic_1 h dX12_gains_14 ?_
    obtain ⟨x6, hx6, hF⟩ := bI hF
    refine st_cVi (vs := [.int 1]) (st := []) h (w_X12_refused hx6) mi_X12_refused mv_X12_refused ml_X12_213 dX12_gains_15 kM_0 rfl ⟨Nat.le_of_ble_eq_true rfl, Nat.le_of_ble_eq_true rfl⟩ (Nat.le_of_ble_eq_true rfl) rfl ?_
    cases hF
    exact st_iret h hr dX12_gains_18
set_option maxRecDepth 100000 in
set_option maxHeartbeats 4000000 in
theorem w_X12_trades_186 {p : Program} {l : Launch} {e : Env} {s : State} {m : MethodId} {args : Array Value} {below : List Frame} {meth : Method} {c : Code} {G : Gv} (h : Cx p s m args meth c G cX12_trades 6 RX12) (hr : meth.sig.returnType = (some .boolean)) {k17 : Sto → Int32 → Int32 → Option (Int32 × Sto)} (H17 : ∀ (σ : Sto) (i1 : Int32) (i2 : Int32) (z : (Int32 × Sto)), k17 σ i1 i2 = some z → AW p l e (rmD 6 0 0) s m args below meth c (MQ below (QcR G shM νM (some (.int z.1)) (ovM z.2)) args s 0 0 (gA G)) 0 0 G 6 17 [some (.ref 0), some (.int i1), some (.int i2), none, none, none] [] shM νM (ovM σ)) {k27 : Sto → Int32 → Int32 → Int32 → Option (Int32 × Sto)} (H27 : ∀ (σ : Sto) (i1 : Int32) (i2 : Int32) (i3 : Int32) (z : (Int32 × Sto)), k27 σ i1 i2 i3 = some z → AW p l e (rmD 6 0 0) s m args below meth c (MQ below (QcR G shM νM (some (.int z.1)) (ovM z.2)) args s 0 0 (gA G)) 0 0 G 6 27 [some (.ref 0), some (.int i1), some (.int i2), some (.int i3), none, none] [] shM νM (ovM σ)) : ∀ (σ : Sto) (i1 : Int32) (i2 : Int32) (i3 : Int32) (i4 : Int32) (i5 : Int32) (z : (Int32 × Sto)), F_X12_trades_186 k17 k27 σ i1 i2 i3 i4 i5 = some z → AW p l e (rmD 6 0 0) s m args below meth c (MQ below (QcR G shM νM (some (.int z.1)) (ovM z.2)) args s 0 0 (gA G)) 0 0 G 6 186 [some (.ref 0), some (.int i1), some (.int i2), some (.int i3), some (.int i4), some (.int i5)] [] shM νM (ovM σ) := by
  intro σ i1 i2 i3 i4 i5 z hF
  rw [F_X12_trades_186] at hF
  refine st_aload_0 h dX12_trades_186 ?_
  refine st_iload_5 h dX12_trades_187 ?_
  obtain ⟨s1, hs1, hF⟩ := swI hF
  refine pX12_41 h fl_X12_331 dX12_trades_189 (congrArg Prod.fst kM_0) hs1 ?_
  refine st_aload_0 h dX12_trades_192 ?_
  refine st_iload_2 h dX12_trades_193 ?_
  obtain ⟨s2, hs2, hF⟩ := swI hF
  refine pX12_42 h fl_X12_325 dX12_trades_194 (congrArg Prod.fst kM_0) hs2 ?_
  refine st_aload_0 h dX12_trades_197 ?_
  refine st_iload_3 h dX12_trades_198 ?_
  obtain ⟨s3, hs3, hF⟩ := swI hF
  refine pX12_43 h fl_X12_334 dX12_trades_199 (congrArg Prod.fst kM_0) hs3 ?_
  refine st_aload_0 h dX12_trades_202 ?_
  refine st_iload_4 h dX12_trades_203 ?_
  obtain ⟨s4, hs4, hF⟩ := swI hF
  refine pX12_44 h fl_X12_337 dX12_trades_205 (congrArg Prod.fst kM_0) hs4 ?_
  refine st_iinc_3 (y := i3 + 1) h dX12_trades_208 (ii_1 _) ?_
  refine st_goto (t := 27) h dX12_trades_211 (by decide) ?_
  exact st_sub (ls_s (ls_s (ls_s (ls_s (ls_n (ls_n ls_e)))))) (H27 s4 i1 i2 (i3 + 1) z hF)
set_option maxRecDepth 100000 in
set_option maxHeartbeats 4000000 in
theorem w_X12_trades_92 {p : Program} {l : Launch} {e : Env} {s : State} {m : MethodId} {args : Array Value} {below : List Frame} {meth : Method} {c : Code} {G : Gv} (h : Cx p s m args meth c G cX12_trades 6 RX12) (hr : meth.sig.returnType = (some .boolean)) {k17 : Sto → Int32 → Int32 → Option (Int32 × Sto)} (H17 : ∀ (σ : Sto) (i1 : Int32) (i2 : Int32) (z : (Int32 × Sto)), k17 σ i1 i2 = some z → AW p l e (rmD 6 0 0) s m args below meth c (MQ below (QcR G shM νM (some (.int z.1)) (ovM z.2)) args s 0 0 (gA G)) 0 0 G 6 17 [some (.ref 0), some (.int i1), some (.int i2), none, none, none] [] shM νM (ovM σ)) {k27 : Sto → Int32 → Int32 → Int32 → Option (Int32 × Sto)} (H27 : ∀ (σ : Sto) (i1 : Int32) (i2 : Int32) (i3 : Int32) (z : (Int32 × Sto)), k27 σ i1 i2 i3 = some z → AW p l e (rmD 6 0 0) s m args below meth c (MQ below (QcR G shM νM (some (.int z.1)) (ovM z.2)) args s 0 0 (gA G)) 0 0 G 6 27 [some (.ref 0), some (.int i1), some (.int i2), some (.int i3), none, none] [] shM νM (ovM σ)) : ∀ (σ : Sto) (i1 : Int32) (i2 : Int32) (i3 : Int32) (i4 : Int32) (z : (Int32 × Sto)), F_X12_trades_92 k17 k27 σ i1 i2 i3 i4 = some z → AW p l e (rmD 6 0 0) s m args below meth c (MQ below (QcR G shM νM (some (.int z.1)) (ovM z.2)) args s 0 0 (gA G)) 0 0 G 6 92 [some (.ref 0), some (.int i1), some (.int i2), some (.int i3), some (.int i4), none] [] shM νM (ovM σ) := by
  intro σ i1 i2 i3 i4 z hF
  rw [F_X12_trades_92] at hF
  refine st_iload_4 h dX12_trades_92 ?_
  refine st_aload_0 h dX12_trades_94 ?_
  refine st_iload_3 h dX12_trades_95 ?_
  refine st_ic_1 h dX12_trades_96 ?_
  obtain ⟨x1, hx1, hF⟩ := bI hF
  refine st_cVi (vs := [.int i3, .int 1]) (st := [.int i4]) h (w_X12_of hx1) mi_X12_of mv_X12_of ml_X12_236 dX12_trades_97 kM_0 rfl ⟨Nat.le_of_ble_eq_true rfl, Nat.le_of_ble_eq_true rfl⟩ (Nat.le_of_ble_eq_true rfl) rfl ?_
  refine st_icmp_le (t := 106) h dX12_trades_100 (by decide) (fun q1 => ?_) (fun q1 => ?_)
  · have hF := pI q1 hF
    refine st_aload_0 h dX12_trades_106 ?_
    refine st_ic_0 h dX12_trades_107 ?_
    obtain ⟨x2, hx2, hF⟩ := bI hF
    refine st_cVi (vs := [.int 0]) (st := []) h (w_X12_all hx2) mi_X12_all mv_X12_all ml_X12_328 dX12_trades_108 kM_0 rfl ⟨Nat.le_of_ble_eq_true rfl, Nat.le_of_ble_eq_true rfl⟩ (Nat.le_of_ble_eq_true rfl) rfl ?_
    refine st_aload_0 h dX12_trades_111 ?_
    refine st_iload_2 h dX12_trades_112 ?_
    refine st_aload_0 h dX12_trades_113 ?_
    refine st_iload_2 h dX12_trades_114 ?_
    refine st_ic_1 h dX12_trades_115 ?_
    obtain ⟨x3, hx3, hF⟩ := bI hF
    refine st_cVi (vs := [.int i2, .int 1]) (st := [.int i2, .ref 0, .int x2]) h (w_X12_of hx3) mi_X12_of mv_X12_of ml_X12_236 dX12_trades_116 kM_0 rfl ⟨Nat.le_of_ble_eq_true rfl, Nat.le_of_ble_eq_true rfl⟩ (Nat.le_of_ble_eq_true rfl) rfl ?_
    obtain ⟨x4, hx4, hF⟩ := bI hF
    refine st_cVi (vs := [.int i2, .int x3]) (st := [.int x2]) h (w_X12_profitAt hx4) mi_X12_profitAt mv_X12_profitAt ml_X12_242 dX12_trades_119 kM_0 rfl ⟨Nat.le_of_ble_eq_true rfl, Nat.le_of_ble_eq_true rfl⟩ (Nat.le_of_ble_eq_true rfl) rfl ?_
    refine st_isub h dX12_trades_122 ?_
    refine st_aload_0 h dX12_trades_123 ?_
    refine st_iload_2 h dX12_trades_124 ?_
    refine st_aload_0 h dX12_trades_125 ?_
    refine st_iload_2 h dX12_trades_126 ?_
    refine st_ic_1 h dX12_trades_127 ?_
    obtain ⟨x5, hx5, hF⟩ := bI hF
    refine st_cVi (vs := [.int i2, .int 1]) (st := [.int i2, .ref 0, .int (x2 - x4)]) h (w_X12_of hx5) mi_X12_of mv_X12_of ml_X12_236 dX12_trades_128 kM_0 rfl ⟨Nat.le_of_ble_eq_true rfl, Nat.le_of_ble_eq_true rfl⟩ (Nat.le_of_ble_eq_true rfl) rfl ?_
    refine st_ic_1 h dX12_trades_131 ?_
    refine st_iadd h dX12_trades_132 ?_
    obtain ⟨x6, hx6, hF⟩ := bI hF
    refine st_cVi (vs := [.int i2, .int (x5 + 1)]) (st := [.int (x2 - x4)]) h (w_X12_profitAt hx6) mi_X12_profitAt mv_X12_profitAt ml_X12_242 dX12_trades_133 kM_0 rfl ⟨Nat.le_of_ble_eq_true rfl, Nat.le_of_ble_eq_true rfl⟩ (Nat.le_of_ble_eq_true rfl) rfl ?_
    refine st_iadd h dX12_trades_136 ?_
    refine st_aload_0 h dX12_trades_137 ?_
    refine st_iload_3 h dX12_trades_138 ?_
    refine st_aload_0 h dX12_trades_139 ?_
    refine st_iload_3 h dX12_trades_140 ?_
    refine st_ic_1 h dX12_trades_141 ?_
    obtain ⟨x7, hx7, hF⟩ := bI hF
    refine st_cVi (vs := [.int i3, .int 1]) (st := [.int i3, .ref 0, .int ((x2 - x4) + x6)]) h (w_X12_of hx7) mi_X12_of mv_X12_of ml_X12_236 dX12_trades_142 kM_0 rfl ⟨Nat.le_of_ble_eq_true rfl, Nat.le_of_ble_eq_true rfl⟩ (Nat.le_of_ble_eq_true rfl) rfl ?_
    obtain ⟨x8, hx8, hF⟩ := bI hF
    refine st_cVi (vs := [.int i3, .int x7]) (st := [.int ((x2 - x4) + x6)]) h (w_X12_profitAt hx8) mi_X12_profitAt mv_X12_profitAt ml_X12_242 dX12_trades_145 kM_0 rfl ⟨Nat.le_of_ble_eq_true rfl, Nat.le_of_ble_eq_true rfl⟩ (Nat.le_of_ble_eq_true rfl) rfl ?_
    refine st_isub h dX12_trades_148 ?_
    refine st_aload_0 h dX12_trades_149 ?_
    refine st_iload_3 h dX12_trades_150 ?_
    refine st_aload_0 h dX12_trades_151 ?_
    refine st_iload_3 h dX12_trades_152 ?_
    refine st_ic_1 h dX12_trades_153 ?_
    obtain ⟨x9, hx9, hF⟩ := bI hF
    refine st_cVi (vs := [.int i3, .int 1]) (st := [.int i3, .ref 0, .int (((x2 - x4) + x6) - x8)]) h (w_X12_of hx9) mi_X12_of mv_X12_of ml_X12_236 dX12_trades_154 kM_0 rfl ⟨Nat.le_of_ble_eq_true rfl, Nat.le_of_ble_eq_true rfl⟩ (Nat.le_of_ble_eq_true rfl) rfl ?_
    refine st_iload_4 h dX12_trades_157 ?_
    refine st_isub h dX12_trades_159 ?_
    obtain ⟨x10, hx10, hF⟩ := bI hF
    refine st_cVi (vs := [.int i3, .int (x9 - i4)]) (st := [.int (((x2 - x4) + x6) - x8)]) h (w_X12_profitAt hx10) mi_X12_profitAt mv_X12_profitAt ml_X12_242 dX12_trades_160 kM_0 rfl ⟨Nat.le_of_ble_eq_true rfl, Nat.le_of_ble_eq_true rfl⟩ (Nat.le_of_ble_eq_true rfl) rfl ?_
    refine st_iadd h dX12_trades_163 ?_
    obtain ⟨v1, hv1, hF⟩ := swI hF
    refine st_nmi hv1 ?_
    refine st_istore_5 h dX12_trades_164 ?_
    refine st_aload_0 h dX12_trades_166 ?_
    refine gX12_42 h fl_X12_325 dX12_trades_167 (congrArg Prod.fst kM_0) ?_
    refine st_ic_m1 h dX12_trades_170 ?_
    refine st_icmp_eq (t := 186) h dX12_trades_171 (by decide) (fun q2 => ?_) (fun q2 => ?_)
    · have hF := pI q2 hF
      exact st_sub (ls_s (ls_s (ls_s (ls_s (ls_s (ls_s ls_e)))))) (w_X12_trades_186 h hr H17 H27 σ i1 i2 i3 i4 v1 z hF)
    · have hF := qI q2 hF
      refine st_iload_5 h dX12_trades_174 ?_
      refine st_aload_0 h dX12_trades_176 ?_
      refine gX12_41 h fl_X12_331 dX12_trades_177 (congrArg Prod.fst kM_0) ?_
      refine st_icmp_gt (t := 186) h dX12_trades_180 (by decide) (fun q3 => ?_) (fun q3 => ?_)
      · have hF := pI q3 hF
        exact st_sub (ls_s (ls_s (ls_s (ls_s (ls_s (ls_s ls_e)))))) (w_X12_trades_186 h hr H17 H27 σ i1 i2 i3 i4 v1 z hF)
      · have hF := qI q3 hF
        refine st_goto (t := 208) h dX12_trades_183 (by decide) ?_
        refine st_iinc_3 (y := i3 + 1) h dX12_trades_208 (ii_1 _) ?_
        refine st_goto (t := 27) h dX12_trades_211 (by decide) ?_
        exact st_sub (ls_s (ls_s (ls_s (ls_s (ls_n (ls_n ls_e)))))) (H27 σ i1 i2 (i3 + 1) z hF)
  · have hF := qI q1 hF
    refine st_goto (t := 208) h dX12_trades_103 (by decide) ?_
    refine st_iinc_3 (y := i3 + 1) h dX12_trades_208 (ii_1 _) ?_
    refine st_goto (t := 27) h dX12_trades_211 (by decide) ?_
    exact st_sub (ls_s (ls_s (ls_s (ls_s (ls_n (ls_n ls_e)))))) (H27 σ i1 i2 (i3 + 1) z hF)
set_option maxRecDepth 100000 in
set_option maxHeartbeats 4000000 in
theorem w_X12_trades_57 {p : Program} {l : Launch} {e : Env} {s : State} {m : MethodId} {args : Array Value} {below : List Frame} {meth : Method} {c : Code} {G : Gv} (h : Cx p s m args meth c G cX12_trades 6 RX12) (hr : meth.sig.returnType = (some .boolean)) {k17 : Sto → Int32 → Int32 → Option (Int32 × Sto)} (H17 : ∀ (σ : Sto) (i1 : Int32) (i2 : Int32) (z : (Int32 × Sto)), k17 σ i1 i2 = some z → AW p l e (rmD 6 0 0) s m args below meth c (MQ below (QcR G shM νM (some (.int z.1)) (ovM z.2)) args s 0 0 (gA G)) 0 0 G 6 17 [some (.ref 0), some (.int i1), some (.int i2), none, none, none] [] shM νM (ovM σ)) {k27 : Sto → Int32 → Int32 → Int32 → Option (Int32 × Sto)} (H27 : ∀ (σ : Sto) (i1 : Int32) (i2 : Int32) (i3 : Int32) (z : (Int32 × Sto)), k27 σ i1 i2 i3 = some z → AW p l e (rmD 6 0 0) s m args below meth c (MQ below (QcR G shM νM (some (.int z.1)) (ovM z.2)) args s 0 0 (gA G)) 0 0 G 6 27 [some (.ref 0), some (.int i1), some (.int i2), some (.int i3), none, none] [] shM νM (ovM σ)) : ∀ (n : Nat) (σ : Sto) (i1 : Int32) (i2 : Int32) (i3 : Int32) (i4 : Int32) (z : (Int32 × Sto)), F_X12_trades_57 k17 k27 n σ i1 i2 i3 i4 = some z → AW p l e (rmD 6 0 0) s m args below meth c (MQ below (QcR G shM νM (some (.int z.1)) (ovM z.2)) args s 0 0 (gA G)) 0 0 G 6 57 [some (.ref 0), some (.int i1), some (.int i2), some (.int i3), some (.int i4), none] [] shM νM (ovM σ) := by
  intro n
  induction n with
  | zero => intro σ i1 i2 i3 i4 z hF; cases hF
  | succ n ih =>
    intro σ i1 i2 i3 i4 z hF
    rw [F_X12_trades_57] at hF
    refine st_iload_4 h dX12_trades_57 ?_
    refine st_aload_0 h dX12_trades_59 ?_
    refine st_iload_3 h dX12_trades_60 ?_
    refine st_ic_1 h dX12_trades_61 ?_
    obtain ⟨x1, hx1, hF⟩ := bI hF
    refine st_cVi (vs := [.int i3, .int 1]) (st := [.int i4]) h (w_X12_of hx1) mi_X12_of mv_X12_of ml_X12_236 dX12_trades_62 kM_0 rfl ⟨Nat.le_of_ble_eq_true rfl, Nat.le_of_ble_eq_true rfl⟩ (Nat.le_of_ble_eq_true rfl) rfl ?_
    refine st_icmp_gt (t := 92) h dX12_trades_65 (by decide) (fun q1 => ?_) (fun q1 => ?_)
    · have hF := pI q1 hF
      exact st_sub (ls_s (ls_s (ls_s (ls_s (ls_s (ls_n ls_e)))))) (w_X12_trades_92 h hr H17 H27 σ i1 i2 i3 i4 z hF)
    · have hF := qI q1 hF
      refine st_aload_0 h dX12_trades_68 ?_
      refine st_iload_2 h dX12_trades_69 ?_
      obtain ⟨x2, hx2, hF⟩ := bI hF
      refine st_cVi (vs := [.int i2]) (st := []) h (w_X12_weight hx2) mi_X12_weight mv_X12_weight ml_X12_245 dX12_trades_70 kM_0 rfl ⟨Nat.le_of_ble_eq_true rfl, Nat.le_of_ble_eq_true rfl⟩ (Nat.le_of_ble_eq_true rfl) rfl ?_
      refine st_iload_4 h dX12_trades_73 ?_
      refine st_aload_0 h dX12_trades_75 ?_
      refine st_iload_3 h dX12_trades_76 ?_
      obtain ⟨x3, hx3, hF⟩ := bI hF
      refine st_cVi (vs := [.int i3]) (st := [.int i4, .int x2]) h (w_X12_weight hx3) mi_X12_weight mv_X12_weight ml_X12_245 dX12_trades_77 kM_0 rfl ⟨Nat.le_of_ble_eq_true rfl, Nat.le_of_ble_eq_true rfl⟩ (Nat.le_of_ble_eq_true rfl) rfl ?_
      refine st_imul h dX12_trades_80 ?_
      refine st_isub h dX12_trades_81 ?_
      refine st_iload_1 h dX12_trades_82 ?_
      refine st_icmp_le (t := 92) h dX12_trades_83 (by decide) (fun q2 => ?_) (fun q2 => ?_)
      · have hF := pI q2 hF
        exact st_sub (ls_s (ls_s (ls_s (ls_s (ls_s (ls_n ls_e)))))) (w_X12_trades_92 h hr H17 H27 σ i1 i2 i3 i4 z hF)
      · have hF := qI q2 hF
        refine st_iinc_4 (y := i4 + 1) h dX12_trades_86 (ii_1 _) ?_
        refine st_goto (t := 57) h dX12_trades_89 (by decide) ?_
        exact st_sub (ls_s (ls_s (ls_s (ls_s (ls_s (ls_n ls_e)))))) (ih σ i1 i2 i3 (i4 + 1) z hF)
set_option maxRecDepth 100000 in
set_option maxHeartbeats 4000000 in
theorem w_X12_trades_27 {p : Program} {l : Launch} {e : Env} {s : State} {m : MethodId} {args : Array Value} {below : List Frame} {meth : Method} {c : Code} {G : Gv} (h : Cx p s m args meth c G cX12_trades 6 RX12) (hr : meth.sig.returnType = (some .boolean)) {k17 : Sto → Int32 → Int32 → Option (Int32 × Sto)} (H17 : ∀ (σ : Sto) (i1 : Int32) (i2 : Int32) (z : (Int32 × Sto)), k17 σ i1 i2 = some z → AW p l e (rmD 6 0 0) s m args below meth c (MQ below (QcR G shM νM (some (.int z.1)) (ovM z.2)) args s 0 0 (gA G)) 0 0 G 6 17 [some (.ref 0), some (.int i1), some (.int i2), none, none, none] [] shM νM (ovM σ)) : ∀ (n : Nat) (σ : Sto) (i1 : Int32) (i2 : Int32) (i3 : Int32) (z : (Int32 × Sto)), F_X12_trades_27 k17 n σ i1 i2 i3 = some z → AW p l e (rmD 6 0 0) s m args below meth c (MQ below (QcR G shM νM (some (.int z.1)) (ovM z.2)) args s 0 0 (gA G)) 0 0 G 6 27 [some (.ref 0), some (.int i1), some (.int i2), some (.int i3), none, none] [] shM νM (ovM σ) := by
  intro n
  induction n with
  | zero => intro σ i1 i2 i3 z hF; cases hF
  | succ n ih =>
    intro σ i1 i2 i3 z hF
    rw [F_X12_trades_27] at hF
    refine st_iload_3 h dX12_trades_27 ?_
    refine st_aload_0 h dX12_trades_28 ?_
    refine gX12_22 h fl_X12_220 dX12_trades_29 (congrArg Prod.fst kM_0) ?_
    refine st_icmp_ge (t := 214) h dX12_trades_32 (by decide) (fun q1 => ?_) (fun q1 => ?_)
    · have hF := pI q1 hF
      refine st_iinc_2 (y := i2 + 1) h dX12_trades_214 (ii_1 _) ?_
      refine st_goto (t := 17) h dX12_trades_217 (by decide) ?_
      exact st_sub (ls_s (ls_s (ls_s (ls_n (ls_n (ls_n ls_e)))))) (H17 σ i1 (i2 + 1) z hF)
    · have hF := qI q1 hF
      refine st_iload_3 h dX12_trades_35 ?_
      refine st_iload_2 h dX12_trades_36 ?_
      refine st_icmp_eq (t := 208) h dX12_trades_37 (by decide) (fun q2 => ?_) (fun q2 => ?_)
      · have hF := pI q2 hF
        refine st_iinc_3 (y := i3 + 1) h dX12_trades_208 (ii_1 _) ?_
        refine st_goto (t := 27) h dX12_trades_211 (by decide) ?_
        exact st_sub (ls_s (ls_s (ls_s (ls_s (ls_n (ls_n ls_e)))))) (ih σ i1 i2 (i3 + 1) z hF)
      · have hF := qI q2 hF
        refine st_aload_0 h dX12_trades_40 ?_
        refine st_iload_2 h dX12_trades_41 ?_
        refine st_ic_1 h dX12_trades_42 ?_
        obtain ⟨x1, hx1, hF⟩ := bI hF
        refine st_cVi (vs := [.int i2, .int 1]) (st := []) h (w_X12_of hx1) mi_X12_of mv_X12_of ml_X12_236 dX12_trades_43 kM_0 rfl ⟨Nat.le_of_ble_eq_true rfl, Nat.le_of_ble_eq_true rfl⟩ (Nat.le_of_ble_eq_true rfl) rfl ?_
        refine st_bipush (v := 20) h dX12_trades_46 (by decide) ?_
        refine st_icmp_ne (t := 54) h dX12_trades_48 (by decide) (fun q3 => ?_) (fun q3 => ?_)
        · have hF := qI q3 hF
          refine st_ic_0 h dX12_trades_54 ?_
          refine st_istore_4 h dX12_trades_55 ?_
          exact st_sub (ls_s (ls_s (ls_s (ls_s (ls_s (ls_n ls_e)))))) (w_X12_trades_57 h hr H17 ih FU σ i1 i2 i3 0 z hF)
        · have hF := pI q3 hF
          refine st_goto (t := 208) h dX12_trades_51 (by decide) ?_
          refine st_iinc_3 (y := i3 + 1) h dX12_trades_208 (ii_1 _) ?_
          refine st_goto (t := 27) h dX12_trades_211 (by decide) ?_
          exact st_sub (ls_s (ls_s (ls_s (ls_s (ls_n (ls_n ls_e)))))) (ih σ i1 i2 (i3 + 1) z hF)
set_option maxRecDepth 100000 in
set_option maxHeartbeats 4000000 in
theorem w_X12_trades_17 {p : Program} {l : Launch} {e : Env} {s : State} {m : MethodId} {args : Array Value} {below : List Frame} {meth : Method} {c : Code} {G : Gv} (h : Cx p s m args meth c G cX12_trades 6 RX12) (hr : meth.sig.returnType = (some .boolean)) : ∀ (n : Nat) (σ : Sto) (i1 : Int32) (i2 : Int32) (z : (Int32 × Sto)), F_X12_trades_17 n σ i1 i2 = some z → AW p l e (rmD 6 0 0) s m args below meth c (MQ below (QcR G shM νM (some (.int z.1)) (ovM z.2)) args s 0 0 (gA G)) 0 0 G 6 17 [some (.ref 0), some (.int i1), some (.int i2), none, none, none] [] shM νM (ovM σ) := by
  intro n
  induction n with
  | zero => intro σ i1 i2 z hF; cases hF
  | succ n ih =>
    intro σ i1 i2 z hF
    rw [F_X12_trades_17] at hF
    refine st_iload_2 h dX12_trades_17 ?_
    refine st_aload_0 h dX12_trades_18 ?_
    refine gX12_22 h fl_X12_220 dX12_trades_19 (congrArg Prod.fst kM_0) ?_
    refine st_icmp_ge (t := 220) h dX12_trades_22 (by decide) (fun q1 => ?_) (fun q1 => ?_)
    · have hF := pI q1 hF
      refine st_aload_0 h dX12_trades_220 ?_
      refine gX12_42 h fl_X12_325 dX12_trades_221 (congrArg Prod.fst kM_0) ?_
      refine st_ic_m1 h dX12_trades_224 ?_
      refine st_icmp_eq (t := 232) h dX12_trades_225 (by decide) (fun q2 => ?_) (fun q2 => ?_)
      · have hF := pI q2 hF
        refine st_ic_0 h dX12_trades_232 ?_
        cases hF
        exact st_zret h hr (Or.inl rfl) dX12_trades_233
      · have hF := qI q2 hF
        refine st_ic_1 h dX12_trades_228 ?_
        refine st_goto (t := 233) h dX12_trades_229 (by decide) ?_
        cases hF
        exact st_zret h hr (Or.inr rfl) dX12_trades_233
    · have hF := qI q1 hF
      refine st_ic_0 h dX12_trades_25 ?_
      refine st_istore_3 h dX12_trades_26 ?_
      exact st_sub (ls_s (ls_s (ls_s (ls_s (ls_n (ls_n ls_e)))))) (w_X12_trades_27 h hr ih FU σ i1 i2 0 z hF)
set_option maxRecDepth 100000 in
set_option maxHeartbeats 4000000 in
theorem w_X12_trades {l : Launch} {G : Gv} {σ : Sto} {z : (Int32 × Sto)} (hF : F_X12_trades σ  = some z) : Con l yX12_trades cX12_trades 6 (some .boolean) 6 G shM νM [.ref 0] (ovM σ) (some (.int z.1)) (ovM z.2) := by
  rw [F_X12_trades] at hF
  refine Con_enter (own := RX12) 5 (lv := [some (.ref 0), none, none, none, none, none]) mi_X12_trades.2.2.2 rfl (Nat.le_of_ble_eq_true rfl) rfl (fun h hr hin => ?_)
  refine st_aload_0 h dX12_trades_0 ?_
  refine st_ic_m1 h dX12_trades_1 ?_
  obtain ⟨s1, hs1, hF⟩ := swI hF
  refine pX12_42 h fl_X12_325 dX12_trades_2 (congrArg Prod.fst kM_0) hs1 ?_
  refine st_aload_0 h dX12_trades_5 ?_
  obtain ⟨x1, hx1, hF⟩ := bI hF
  refine st_cVi (vs := []) (st := []) h (w_X12_allowed hx1) mi_X12_allowed mv_X12_allowed ml_X12_260 dX12_trades_6 kM_0 rfl ⟨Nat.le_of_ble_eq_true rfl, Nat.le_of_ble_eq_true rfl⟩ (Nat.le_of_ble_eq_true rfl) rfl ?_
  refine st_aload_0 h dX12_trades_9 ?_
  obtain ⟨x2, hx2, hF⟩ := bI hF
  refine st_cVi (vs := []) (st := [.int x1]) h (w_X12_spent hx2) mi_X12_spent mv_X12_spent ml_X12_257 dX12_trades_10 kM_0 rfl ⟨Nat.le_of_ble_eq_true rfl, Nat.le_of_ble_eq_true rfl⟩ (Nat.le_of_ble_eq_true rfl) rfl ?_
  refine st_isub h dX12_trades_13 ?_
  refine st_istore_1 h dX12_trades_14 ?_
  refine st_ic_0 h dX12_trades_15 ?_
  refine st_istore_2 h dX12_trades_16 ?_
  exact st_sub (ls_s (ls_s (ls_s (ls_n (ls_n (ls_n ls_e)))))) (w_X12_trades_17 h hr FU s1 (x1 - x2) 0 z hF)
set_option maxRecDepth 100000 in
set_option maxHeartbeats 4000000 in
theorem w_X12_trade_21 {p : Program} {l : Launch} {e : Env} {s : State} {m : MethodId} {args : Array Value} {below : List Frame} {meth : Method} {c : Code} {G : Gv} (h : Cx p s m args meth c G cX12_trade 2 RX12) (hr : meth.sig.returnType = (some .int)) : ∀ (σ : Sto) (z : (Int32 × Sto)), F_X12_trade_21 σ  = some z → AW p l e (rmD 7 0 0) s m args below meth c (MQ below (QcR G shM νM (some (.int z.1)) (ovM z.2)) args s 0 0 (gA G)) 0 0 G 2 21 [some (.ref 0), none] [] shM νM (ovM σ) := by
  intro σ z hF
  rw [F_X12_trade_21] at hF
  refine st_aload_0 h dX12_trade_21 ?_
  refine st_ic_1 h dX12_trade_22 ?_
  obtain ⟨x1, hx1, hF⟩ := bI hF
  refine st_cVi (vs := [.int 1]) (st := []) h (w_X12_refused hx1) mi_X12_refused mv_X12_refused ml_X12_213 dX12_trade_23 kM_0 rfl ⟨Nat.le_of_ble_eq_true rfl, Nat.le_of_ble_eq_true rfl⟩ (Nat.le_of_ble_eq_true rfl) rfl ?_
  cases hF
  exact st_iret h hr dX12_trade_26
set_option maxRecDepth 100000 in
set_option maxHeartbeats 4000000 in
theorem w_X12_trade_81 {p : Program} {l : Launch} {e : Env} {s : State} {m : MethodId} {args : Array Value} {below : List Frame} {meth : Method} {c : Code} {G : Gv} (h : Cx p s m args meth c G cX12_trade 2 RX12) (hr : meth.sig.returnType = (some .int)) : ∀ (σ : Sto) (e1 : Int32) (z : (Int32 × Sto)), F_X12_trade_81 σ e1 = some z → AW p l e (rmD 7 0 0) s m args below meth c (MQ below (QcR G shM νM (some (.int z.1)) (ovM z.2)) args s 0 0 (gA G)) 0 0 G 2 81 [none, none] [.int e1, .ref 0] shM νM (ovM σ) := by
  intro σ e1 z hF
  rw [F_X12_trade_81] at hF
  obtain ⟨x1, hx1, hF⟩ := bI hF
  refine st_cVi (vs := [.int e1]) (st := []) h (w_X12_tells hx1) mi_X12_tells mv_X12_tells ml_X12_233 dX12_trade_81 kM_0 rfl ⟨Nat.le_of_ble_eq_true rfl, Nat.le_of_ble_eq_true rfl⟩ (Nat.le_of_ble_eq_true rfl) rfl ?_
  cases hF
  exact st_iret h hr dX12_trade_84
set_option maxRecDepth 100000 in
set_option maxHeartbeats 4000000 in
theorem w_X12_trade {l : Launch} {G : Gv} {σ : Sto} {i1 : Int32} {z : (Int32 × Sto)} (hF : F_X12_trade σ i1 = some z) : Con l yX12_trade cX12_trade 2 (some .int) 7 G shM νM [.ref 0, .int i1] (ovM σ) (some (.int z.1)) (ovM z.2) := by
  rw [F_X12_trade] at hF
  refine Con_enter (own := RX12) 0 (lv := [some (.ref 0), some (.int i1)]) mi_X12_trade.2.2.2 rfl (Nat.le_of_ble_eq_true rfl) rfl (fun h hr hin => ?_)
  refine st_aload_0 h dX12_trade_0 ?_
  refine st_ic_0 h dX12_trade_1 ?_
  obtain ⟨s1, hs1, hF⟩ := swI hF
  refine pX12_0 h fl_X12_73 dX12_trade_2 (congrArg Prod.fst kM_0) hs1 ?_
  refine st_aload_0 h dX12_trade_5 ?_
  refine gX12_25 h fl_X12_229 dX12_trade_6 (congrArg Prod.fst kM_0) ?_
  refine st_if_eq (t := 21) h dX12_trade_9 (by decide) (fun q1 => ?_) (fun q1 => ?_)
  · have hF := pI q1 hF
    exact st_sub (ls_s (ls_n ls_e)) (w_X12_trade_21 h hr s1  z hF)
  · have hF := qI q1 hF
    refine st_iload_1 h dX12_trade_12 ?_
    refine st_ic_0 h dX12_trade_13 ?_
    refine st_ic_3 h dX12_trade_14 ?_
    obtain ⟨x1, hx1, hF⟩ := bI hF
    refine st_cSi (vs := [.int i1, .int 0, .int 3]) (st := []) h (w_X12_in hx1) mi_X12_in ms_X12_in ml_X12_94 dX12_trade_15 rfl ⟨Nat.le_of_ble_eq_true rfl, Nat.le_of_ble_eq_true rfl⟩ (Nat.le_of_ble_eq_true rfl) rfl ?_
    refine st_if_ne (t := 27) h dX12_trade_18 (by decide) (fun q2 => ?_) (fun q2 => ?_)
    · have hF := qI q2 hF
      refine st_aload_0 h dX12_trade_27 ?_
      obtain ⟨x2, hx2, hF⟩ := bI hF
      refine st_cVi (vs := []) (st := []) h (w_X12_trades hx2) mi_X12_trades mv_X12_trades ml_X12_340 dX12_trade_28 kM_0 rfl ⟨Nat.le_of_ble_eq_true rfl, Nat.le_of_ble_eq_true rfl⟩ (Nat.le_of_ble_eq_true rfl) rfl ?_
      refine st_if_ne (t := 41) h dX12_trade_31 (by decide) (fun q3 => ?_) (fun q3 => ?_)
      · have hF := qI q3 hF
        refine st_aload_0 h dX12_trade_41 ?_
        refine st_iload_1 h dX12_trade_42 ?_
        refine st_if_ne (t := 53) h dX12_trade_43 (by decide) (fun q4 => ?_) (fun q4 => ?_)
        · have hF := qI q4 hF
          refine st_iload_1 h dX12_trade_53 ?_
          refine st_ic_1 h dX12_trade_54 ?_
          refine st_icmp_ne (t := 65) h dX12_trade_55 (by decide) (fun q5 => ?_) (fun q5 => ?_)
          · have hF := qI q5 hF
            refine st_iload_1 h dX12_trade_65 ?_
            refine st_ic_2 h dX12_trade_66 ?_
            refine st_icmp_ne (t := 77) h dX12_trade_67 (by decide) (fun q6 => ?_) (fun q6 => ?_)
            · have hF := qI q6 hF
              refine st_aload_0 h dX12_trade_77 ?_
              refine gX12_44 h fl_X12_337 dX12_trade_78 (congrArg Prod.fst kM_0) ?_
              exact st_sub (ls_n (ls_n ls_e)) (w_X12_trade_81 h hr x2.2 (x2.2.1 0 44) z hF)
            · have hF := pI q6 hF
              refine st_aload_0 h dX12_trade_70 ?_
              refine gX12_43 h fl_X12_334 dX12_trade_71 (congrArg Prod.fst kM_0) ?_
              refine st_goto (t := 81) h dX12_trade_74 (by decide) ?_
              exact st_sub (ls_n (ls_n ls_e)) (w_X12_trade_81 h hr x2.2 (x2.2.1 0 43) z hF)
          · have hF := pI q5 hF
            refine st_aload_0 h dX12_trade_58 ?_
            refine gX12_42 h fl_X12_325 dX12_trade_59 (congrArg Prod.fst kM_0) ?_
            refine st_goto (t := 81) h dX12_trade_62 (by decide) ?_
            exact st_sub (ls_n (ls_n ls_e)) (w_X12_trade_81 h hr x2.2 (x2.2.1 0 42) z hF)
        · have hF := pI q4 hF
          refine st_aload_0 h dX12_trade_46 ?_
          refine gX12_41 h fl_X12_331 dX12_trade_47 (congrArg Prod.fst kM_0) ?_
          refine st_goto (t := 81) h dX12_trade_50 (by decide) ?_
          exact st_sub (ls_n (ls_n ls_e)) (w_X12_trade_81 h hr x2.2 (x2.2.1 0 41) z hF)
      · have hF := pI q3 hF
        refine st_aload_0 h dX12_trade_34 ?_
        refine st_bipush (v := 6) h dX12_trade_35 (by decide) ?_
        obtain ⟨x3, hx3, hF⟩ := bI hF
        refine st_cVi (vs := [.int 6]) (st := []) h (w_X12_refused hx3) mi_X12_refused mv_X12_refused ml_X12_213 dX12_trade_37 kM_0 rfl ⟨Nat.le_of_ble_eq_true rfl, Nat.le_of_ble_eq_true rfl⟩ (Nat.le_of_ble_eq_true rfl) rfl ?_
        cases hF
        exact st_iret h hr dX12_trade_40
    · have hF := pI q2 hF
      exact st_sub (ls_s (ls_n ls_e)) (w_X12_trade_21 h hr s1  z hF)
set_option maxRecDepth 100000 in
set_option maxHeartbeats 4000000 in
theorem w_X12_writes {l : Launch} {G : Gv} {σ : Sto} {i1 : Int32} {z : Sto} (hF : F_X12_writes σ i1 = some z) : Con l yX12_writes cX12_writes 2 none 1 G shM νM [.ref 0, .int i1] (ovM σ) none (ovM z) := by
  rw [F_X12_writes] at hF
  refine Con_enter (own := RX12) 0 (lv := [some (.ref 0), some (.int i1)]) mi_X12_writes.2.2.2 rfl (Nat.le_of_ble_eq_true rfl) rfl (fun h hr hin => ?_)
  refine st_aload_0 h dX12_writes_0 ?_
  refine gX12_45 h fl_X12_70 dX12_writes_1 (congrArg Prod.fst kM_0) ?_
  refine st_aload_0 h dX12_writes_4 ?_
  refine gX12_46 h fl_X12_343 dX12_writes_5 (congrArg Prod.fst kM_0) ?_
  refine st_iload_1 h dX12_writes_8 ?_
  obtain ⟨g1, hF⟩ := gI hF
  obtain ⟨s1, hs1, hF⟩ := swI hF
  refine isM h dX12_writes_9 kM_18 g1 hs1 ?_
  refine st_aload_0 h dX12_writes_10 ?_
  refine st_dup h rfl dX12_writes_11 ?_
  refine gX12_46 h fl_X12_343 dX12_writes_12 (congrArg Prod.fst kM_0) ?_
  refine st_ic_1 h dX12_writes_15 ?_
  refine st_iadd h dX12_writes_16 ?_
  obtain ⟨s2, hs2, hF⟩ := swI hF
  refine pX12_46 h fl_X12_343 dX12_writes_17 (congrArg Prod.fst kM_0) hs2 ?_
  cases hF
  exact st_vret h hr dX12_writes_20
set_option maxRecDepth 100000 in
set_option maxHeartbeats 4000000 in
theorem w_X12_write_70 {p : Program} {l : Launch} {e : Env} {s : State} {m : MethodId} {args : Array Value} {below : List Frame} {meth : Method} {c : Code} {G : Gv} (h : Cx p s m args meth c G cX12_write 2 RX12) (hr : meth.sig.returnType = (some .int)) {k25 : Sto → Int32 → Option (Int32 × Sto)} (H25 : ∀ (σ : Sto) (i1 : Int32) (z : (Int32 × Sto)), k25 σ i1 = some z → AW p l e (rmD 2 0 0) s m args below meth c (MQ below (QcR G shM νM (some (.int z.1)) (ovM z.2)) args s 0 0 (gA G)) 0 0 G 2 25 [some (.ref 0), some (.int i1)] [] shM νM (ovM σ)) : ∀ (σ : Sto) (i1 : Int32) (z : (Int32 × Sto)), F_X12_write_70 k25 σ i1 = some z → AW p l e (rmD 2 0 0) s m args below meth c (MQ below (QcR G shM νM (some (.int z.1)) (ovM z.2)) args s 0 0 (gA G)) 0 0 G 2 70 [some (.ref 0), some (.int i1)] [] shM νM (ovM σ) := by
  intro σ i1 z hF
  rw [F_X12_write_70] at hF
  refine st_aload_0 h dX12_write_70 ?_
  refine st_bipush (v := 48) h dX12_write_71 (by decide) ?_
  refine st_aload_0 h dX12_write_73 ?_
  refine st_iload_1 h dX12_write_74 ?_
  refine st_ic_1 h dX12_write_75 ?_
  obtain ⟨x1, hx1, hF⟩ := bI hF
  refine st_cVi (vs := [.int i1, .int 1]) (st := [.int 48, .ref 0]) h (w_X12_of hx1) mi_X12_of mv_X12_of ml_X12_236 dX12_write_76 kM_0 rfl ⟨Nat.le_of_ble_eq_true rfl, Nat.le_of_ble_eq_true rfl⟩ (Nat.le_of_ble_eq_true rfl) rfl ?_
  refine st_bipush (v := 10) h dX12_write_79 (by decide) ?_
  refine st_irem h (by decide) dX12_write_81 ?_
  refine st_iadd h dX12_write_82 ?_
  obtain ⟨x2, hx2, hF⟩ := bI hF
  refine st_cVv (vs := [.int (48 + (x1 - x1 / 10 * 10))]) (st := []) h (w_X12_writes hx2) mi_X12_writes mv_X12_writes ml_X12_346 dX12_write_83 kM_0 rfl ⟨Nat.le_of_ble_eq_true rfl, Nat.le_of_ble_eq_true rfl⟩ (Nat.le_of_ble_eq_true rfl) rfl ?_
  refine st_iinc_1 (y := i1 + 1) h dX12_write_86 (ii_1 _) ?_
  refine st_goto (t := 25) h dX12_write_89 (by decide) ?_
  exact st_sub (ls_s (ls_s ls_e)) (H25 x2 (i1 + 1) z hF)
set_option maxRecDepth 100000 in
set_option maxHeartbeats 4000000 in
theorem w_X12_write_43 {p : Program} {l : Launch} {e : Env} {s : State} {m : MethodId} {args : Array Value} {below : List Frame} {meth : Method} {c : Code} {G : Gv} (h : Cx p s m args meth c G cX12_write 2 RX12) (hr : meth.sig.returnType = (some .int)) {k25 : Sto → Int32 → Option (Int32 × Sto)} (H25 : ∀ (σ : Sto) (i1 : Int32) (z : (Int32 × Sto)), k25 σ i1 = some z → AW p l e (rmD 2 0 0) s m args below meth c (MQ below (QcR G shM νM (some (.int z.1)) (ovM z.2)) args s 0 0 (gA G)) 0 0 G 2 25 [some (.ref 0), some (.int i1)] [] shM νM (ovM σ)) : ∀ (σ : Sto) (i1 : Int32) (z : (Int32 × Sto)), F_X12_write_43 k25 σ i1 = some z → AW p l e (rmD 2 0 0) s m args below meth c (MQ below (QcR G shM νM (some (.int z.1)) (ovM z.2)) args s 0 0 (gA G)) 0 0 G 2 43 [some (.ref 0), some (.int i1)] [] shM νM (ovM σ) := by
  intro σ i1 z hF
  rw [F_X12_write_43] at hF
  refine st_aload_0 h dX12_write_43 ?_
  refine st_iload_1 h dX12_write_44 ?_
  refine st_ic_1 h dX12_write_45 ?_
  obtain ⟨x1, hx1, hF⟩ := bI hF
  refine st_cVi (vs := [.int i1, .int 1]) (st := []) h (w_X12_of hx1) mi_X12_of mv_X12_of ml_X12_236 dX12_write_46 kM_0 rfl ⟨Nat.le_of_ble_eq_true rfl, Nat.le_of_ble_eq_true rfl⟩ (Nat.le_of_ble_eq_true rfl) rfl ?_
  refine st_bipush (v := 9) h dX12_write_49 (by decide) ?_
  refine st_icmp_le (t := 70) h dX12_write_51 (by decide) (fun q1 => ?_) (fun q1 => ?_)
  · have hF := pI q1 hF
    exact st_sub (ls_s (ls_s ls_e)) (w_X12_write_70 h hr H25 σ i1 z hF)
  · have hF := qI q1 hF
    refine st_aload_0 h dX12_write_54 ?_
    refine st_bipush (v := 48) h dX12_write_55 (by decide) ?_
    refine st_aload_0 h dX12_write_57 ?_
    refine st_iload_1 h dX12_write_58 ?_
    refine st_ic_1 h dX12_write_59 ?_
    obtain ⟨x2, hx2, hF⟩ := bI hF
    refine st_cVi (vs := [.int i1, .int 1]) (st := [.int 48, .ref 0]) h (w_X12_of hx2) mi_X12_of mv_X12_of ml_X12_236 dX12_write_60 kM_0 rfl ⟨Nat.le_of_ble_eq_true rfl, Nat.le_of_ble_eq_true rfl⟩ (Nat.le_of_ble_eq_true rfl) rfl ?_
    refine st_bipush (v := 10) h dX12_write_63 (by decide) ?_
    refine st_idiv h (by decide) dX12_write_65 ?_
    refine st_iadd h dX12_write_66 ?_
    obtain ⟨x3, hx3, hF⟩ := bI hF
    refine st_cVv (vs := [.int (48 + (x2 / 10))]) (st := []) h (w_X12_writes hx3) mi_X12_writes mv_X12_writes ml_X12_346 dX12_write_67 kM_0 rfl ⟨Nat.le_of_ble_eq_true rfl, Nat.le_of_ble_eq_true rfl⟩ (Nat.le_of_ble_eq_true rfl) rfl ?_
    exact st_sub (ls_s (ls_s ls_e)) (w_X12_write_70 h hr H25 x3 i1 z hF)
set_option maxRecDepth 100000 in
set_option maxHeartbeats 4000000 in
theorem w_X12_write_25 {p : Program} {l : Launch} {e : Env} {s : State} {m : MethodId} {args : Array Value} {below : List Frame} {meth : Method} {c : Code} {G : Gv} (h : Cx p s m args meth c G cX12_write 2 RX12) (hr : meth.sig.returnType = (some .int)) : ∀ (n : Nat) (σ : Sto) (i1 : Int32) (z : (Int32 × Sto)), F_X12_write_25 n σ i1 = some z → AW p l e (rmD 2 0 0) s m args below meth c (MQ below (QcR G shM νM (some (.int z.1)) (ovM z.2)) args s 0 0 (gA G)) 0 0 G 2 25 [some (.ref 0), some (.int i1)] [] shM νM (ovM σ) := by
  intro n
  induction n with
  | zero => intro σ i1 z hF; cases hF
  | succ n ih =>
    intro σ i1 z hF
    rw [F_X12_write_25] at hF
    refine st_iload_1 h dX12_write_25 ?_
    refine st_aload_0 h dX12_write_26 ?_
    refine gX12_22 h fl_X12_220 dX12_write_27 (congrArg Prod.fst kM_0) ?_
    refine st_icmp_ge (t := 92) h dX12_write_30 (by decide) (fun q1 => ?_) (fun q1 => ?_)
    · have hF := pI q1 hF
      refine st_aload_0 h dX12_write_92 ?_
      refine st_aload_0 h dX12_write_93 ?_
      refine gX12_46 h fl_X12_343 dX12_write_94 (congrArg Prod.fst kM_0) ?_
      obtain ⟨x1, hx1, hF⟩ := bI hF
      refine st_cVi (vs := [.int (σ.1 0 46)]) (st := []) h (w_X12_tells hx1) mi_X12_tells mv_X12_tells ml_X12_233 dX12_write_97 kM_0 rfl ⟨Nat.le_of_ble_eq_true rfl, Nat.le_of_ble_eq_true rfl⟩ (Nat.le_of_ble_eq_true rfl) rfl ?_
      cases hF
      exact st_iret h hr dX12_write_100
    · have hF := qI q1 hF
      refine st_iload_1 h dX12_write_33 ?_
      refine st_if_le (t := 43) h dX12_write_34 (by decide) (fun q2 => ?_) (fun q2 => ?_)
      · have hF := pI q2 hF
        exact st_sub (ls_s (ls_s ls_e)) (w_X12_write_43 h hr ih σ i1 z hF)
      · have hF := qI q2 hF
        refine st_aload_0 h dX12_write_37 ?_
        refine st_bipush (v := 44) h dX12_write_38 (by decide) ?_
        obtain ⟨x2, hx2, hF⟩ := bI hF
        refine st_cVv (vs := [.int 44]) (st := []) h (w_X12_writes hx2) mi_X12_writes mv_X12_writes ml_X12_346 dX12_write_40 kM_0 rfl ⟨Nat.le_of_ble_eq_true rfl, Nat.le_of_ble_eq_true rfl⟩ (Nat.le_of_ble_eq_true rfl) rfl ?_
        exact st_sub (ls_s (ls_s ls_e)) (w_X12_write_43 h hr ih x2 i1 z hF)
set_option maxRecDepth 100000 in
set_option maxHeartbeats 4000000 in
theorem w_X12_write {l : Launch} {G : Gv} {σ : Sto} {z : (Int32 × Sto)} (hF : F_X12_write σ  = some z) : Con l yX12_write cX12_write 2 (some .int) 2 G shM νM [.ref 0] (ovM σ) (some (.int z.1)) (ovM z.2) := by
  rw [F_X12_write] at hF
  refine Con_enter (own := RX12) 1 (lv := [some (.ref 0), none]) mi_X12_write.2.2.2 rfl (Nat.le_of_ble_eq_true rfl) rfl (fun h hr hin => ?_)
  refine st_aload_0 h dX12_write_0 ?_
  refine st_ic_0 h dX12_write_1 ?_
  obtain ⟨s1, hs1, hF⟩ := swI hF
  refine pX12_0 h fl_X12_73 dX12_write_2 (congrArg Prod.fst kM_0) hs1 ?_
  refine st_aload_0 h dX12_write_5 ?_
  refine gX12_25 h fl_X12_229 dX12_write_6 (congrArg Prod.fst kM_0) ?_
  refine st_if_ne (t := 18) h dX12_write_9 (by decide) (fun q1 => ?_) (fun q1 => ?_)
  · have hF := qI q1 hF
    refine st_aload_0 h dX12_write_18 ?_
    refine st_ic_0 h dX12_write_19 ?_
    obtain ⟨s2, hs2, hF⟩ := swI hF
    refine pX12_46 h fl_X12_343 dX12_write_20 (congrArg Prod.fst kM_0) hs2 ?_
    refine st_ic_0 h dX12_write_23 ?_
    refine st_istore_1 h dX12_write_24 ?_
    exact st_sub (ls_s (ls_s ls_e)) (w_X12_write_25 h hr FU s2 0 z hF)
  · have hF := pI q1 hF
    refine st_aload_0 h dX12_write_12 ?_
    refine st_ic_1 h dX12_write_13 ?_
    obtain ⟨x1, hx1, hF⟩ := bI hF
    refine st_cVi (vs := [.int 1]) (st := []) h (w_X12_refused hx1) mi_X12_refused mv_X12_refused ml_X12_213 dX12_write_14 kM_0 rfl ⟨Nat.le_of_ble_eq_true rfl, Nat.le_of_ble_eq_true rfl⟩ (Nat.le_of_ble_eq_true rfl) rfl ?_
    cases hF
    exact st_iret h hr dX12_write_17
set_option maxRecDepth 100000 in
set_option maxHeartbeats 4000000 in
theorem w_X12_octet_20 {p : Program} {l : Launch} {e : Env} {s : State} {m : MethodId} {args : Array Value} {below : List Frame} {meth : Method} {c : Code} {G : Gv} (h : Cx p s m args meth c G cX12_octet 2 RX12) (hr : meth.sig.returnType = (some .int)) : ∀ (σ : Sto) (i1 : Int32) (e1 : Int32) (z : (Int32 × Sto)), F_X12_octet_20 σ i1 e1 = some z → AW p l e (rmD 2 0 0) s m args below meth c (MQ below (QcR G shM νM (some (.int z.1)) (ovM z.2)) args s 0 0 (gA G)) 0 0 G 2 20 [some (.ref 0), some (.int i1)] [.int e1, .ref 0] shM νM (ovM σ) := by
  intro σ i1 e1 z hF
  rw [F_X12_octet_20] at hF
  obtain ⟨s1, hs1, hF⟩ := swI hF
  refine pX12_0 h fl_X12_73 dX12_octet_20 (congrArg Prod.fst kM_0) hs1 ?_
  refine st_aload_0 h dX12_octet_23 ?_
  refine gX12_0 h fl_X12_73 dX12_octet_24 (congrArg Prod.fst kM_0) ?_
  refine st_ic_1 h dX12_octet_27 ?_
  refine st_icmp_ne (t := 35) h dX12_octet_28 (by decide) (fun q1 => ?_) (fun q1 => ?_)
  · have hF := qI q1 hF
    refine st_aload_0 h dX12_octet_35 ?_
    refine gX12_45 h fl_X12_70 dX12_octet_36 (congrArg Prod.fst kM_0) ?_
    refine st_iload_1 h dX12_octet_39 ?_
    obtain ⟨g1, hF⟩ := gI hF
    refine iaM h dX12_octet_40 kM_18 g1 ?_
    cases hF
    exact st_iret h hr dX12_octet_41
  · have hF := pI q1 hF
    refine st_ic_0 h dX12_octet_31 ?_
    refine st_goto (t := 41) h dX12_octet_32 (by decide) ?_
    cases hF
    exact st_iret h hr dX12_octet_41
set_option maxRecDepth 100000 in
set_option maxHeartbeats 4000000 in
theorem w_X12_octet {l : Launch} {G : Gv} {σ : Sto} {i1 : Int32} {z : (Int32 × Sto)} (hF : F_X12_octet σ i1 = some z) : Con l yX12_octet cX12_octet 2 (some .int) 2 G shM νM [.ref 0, .int i1] (ovM σ) (some (.int z.1)) (ovM z.2) := by
  rw [F_X12_octet] at hF
  refine Con_enter (own := RX12) 0 (lv := [some (.ref 0), some (.int i1)]) mi_X12_octet.2.2.2 rfl (Nat.le_of_ble_eq_true rfl) rfl (fun h hr hin => ?_)
  refine st_aload_0 h dX12_octet_0 ?_
  refine st_iload_1 h dX12_octet_1 ?_
  refine st_ic_0 h dX12_octet_2 ?_
  refine st_aload_0 h dX12_octet_3 ?_
  refine gX12_46 h fl_X12_343 dX12_octet_4 (congrArg Prod.fst kM_0) ?_
  refine st_ic_1 h dX12_octet_7 ?_
  refine st_isub h dX12_octet_8 ?_
  obtain ⟨x1, hx1, hF⟩ := bI hF
  refine st_cSi (vs := [.int i1, .int 0, .int ((σ.1 0 46) - 1)]) (st := [.ref 0]) h (w_X12_in hx1) mi_X12_in ms_X12_in ml_X12_94 dX12_octet_9 rfl ⟨Nat.le_of_ble_eq_true rfl, Nat.le_of_ble_eq_true rfl⟩ (Nat.le_of_ble_eq_true rfl) rfl ?_
  refine st_if_eq (t := 19) h dX12_octet_12 (by decide) (fun q1 => ?_) (fun q1 => ?_)
  · have hF := pI q1 hF
    refine st_ic_1 h dX12_octet_19 ?_
    exact st_sub (ls_s (ls_s ls_e)) (w_X12_octet_20 h hr σ i1 1 z hF)
  · have hF := qI q1 hF
    refine st_ic_0 h dX12_octet_15 ?_
    refine st_goto (t := 20) h dX12_octet_16 (by decide) ?_
    exact st_sub (ls_s (ls_s ls_e)) (w_X12_octet_20 h hr σ i1 0 z hF)
set_option maxRecDepth 100000 in
set_option maxHeartbeats 4000000 in
theorem w_X12_countsRows_21 {p : Program} {l : Launch} {e : Env} {s : State} {m : MethodId} {args : Array Value} {below : List Frame} {meth : Method} {c : Code} {G : Gv} (h : Cx p s m args meth c G cX12_countsRows 4 RX12) (hr : meth.sig.returnType = none) {d : Nat} {kr : Sto → Int32 → Int32 → Option Sto} (Hr : ∀ (σ : Sto) (i1 : Int32) (i2 : Int32) (z : Sto), kr σ i1 i2 = some z → Con l yX12_countsRows cX12_countsRows 4 none (d + 1) G shM νM [.ref 0, .int i1, .int i2] (ovM σ) none (ovM z)) : ∀ (n : Nat) (σ : Sto) (i1 : Int32) (i2 : Int32) (i3 : Int32) (z : Sto), F_X12_countsRows_21 kr n σ i1 i2 i3 = some z → AW p l e (rmD (d + 1 + 1) 0 0) s m args below meth c (MQ below (QcR G shM νM none (ovM z)) args s 0 0 (gA G)) 0 0 G 4 21 [some (.ref 0), some (.int i1), some (.int i2), some (.int i3)] [] shM νM (ovM σ) := by
  intro n
  induction n with
  | zero => intro σ i1 i2 i3 z hF; cases hF
  | succ n ih =>
    intro σ i1 i2 i3 z hF
    rw [F_X12_countsRows_21] at hF
    refine st_iload_3 h dX12_countsRows_21 ?_
    refine st_bipush (v := 20) h dX12_countsRows_22 (by decide) ?_
    refine st_icmp_gt (t := 62) h dX12_countsRows_24 (by decide) (fun q1 => ?_) (fun q1 => ?_)
    · have hF := pI q1 hF
      cases hF
      exact st_vret h hr dX12_countsRows_62
    · have hF := qI q1 hF
      refine st_iload_3 h dX12_countsRows_27 ?_
      refine st_aload_0 h dX12_countsRows_28 ?_
      refine gX12_33 h fl_X12_55 dX12_countsRows_29 (congrArg Prod.fst kM_0) ?_
      refine st_iload_1 h dX12_countsRows_32 ?_
      obtain ⟨g1, hF⟩ := gI hF
      refine iaM h dX12_countsRows_33 kM_14 g1 ?_
      refine st_imul h dX12_countsRows_34 ?_
      refine st_iload_2 h dX12_countsRows_35 ?_
      refine st_icmp_gt (t := 62) h dX12_countsRows_36 (by decide) (fun q2 => ?_) (fun q2 => ?_)
      · have hF := pI q2 hF
        cases hF
        exact st_vret h hr dX12_countsRows_62
      · have hF := qI q2 hF
        refine st_aload_0 h dX12_countsRows_39 ?_
        refine st_iload_1 h dX12_countsRows_40 ?_
        refine st_ic_1 h dX12_countsRows_41 ?_
        refine st_iadd h dX12_countsRows_42 ?_
        refine st_iload_2 h dX12_countsRows_43 ?_
        refine st_iload_3 h dX12_countsRows_44 ?_
        refine st_aload_0 h dX12_countsRows_45 ?_
        refine gX12_33 h fl_X12_55 dX12_countsRows_46 (congrArg Prod.fst kM_0) ?_
        refine st_iload_1 h dX12_countsRows_49 ?_
        refine iaM h dX12_countsRows_50 kM_14 g1 ?_
        refine st_imul h dX12_countsRows_51 ?_
        refine st_isub h dX12_countsRows_52 ?_
        obtain ⟨x1, hx1, hF⟩ := bI hF
        refine st_cVv (vs := [.int (i1 + 1), .int (i2 - (i3 * (σ.1 14 (ix i1))))]) (st := []) h (Hr σ (i1 + 1) (i2 - (i3 * (σ.1 14 (ix i1)))) x1 hx1) mi_X12_countsRows mv_X12_countsRows ml_X12_352 dX12_countsRows_53 kM_0 rfl (by constructor <;> simp only [rmD] <;> omega) (Nat.le_of_ble_eq_true rfl) rfl ?_
        refine st_iinc_3 (y := i3 + 1) h dX12_countsRows_56 (ii_1 _) ?_
        refine st_goto (t := 21) h dX12_countsRows_59 (by decide) ?_
        exact st_sub (ls_s (ls_s (ls_s (ls_s ls_e)))) (ih x1 i1 i2 (i3 + 1) z hF)
set_option maxRecDepth 100000 in
set_option maxHeartbeats 4000000 in
theorem w_X12_countsRows {l : Launch} {G : Gv} : ∀ (d : Nat) (σ : Sto) (i1 : Int32) (i2 : Int32) (z : Sto), F_X12_countsRows d σ i1 i2 = some z → Con l yX12_countsRows cX12_countsRows 4 none (d + 1) G shM νM [.ref 0, .int i1, .int i2] (ovM σ) none (ovM z) := by
  intro d
  induction d with
  | zero => intro σ i1 i2 z hF; cases hF
  | succ d Hr =>
    intro σ i1 i2 z hF
    rw [F_X12_countsRows] at hF
    refine Con_enter (own := RX12) 1 (lv := [some (.ref 0), some (.int i1), some (.int i2), none]) mi_X12_countsRows.2.2.2 rfl (Nat.le_of_ble_eq_true rfl) rfl (fun h hr hin => ?_)
    refine st_iload_1 h dX12_countsRows_0 ?_
    refine st_aload_0 h dX12_countsRows_1 ?_
    refine gX12_22 h fl_X12_220 dX12_countsRows_2 (congrArg Prod.fst kM_0) ?_
    refine st_icmp_ne (t := 19) h dX12_countsRows_5 (by decide) (fun q1 => ?_) (fun q1 => ?_)
    · have hF := qI q1 hF
      refine st_ic_0 h dX12_countsRows_19 ?_
      refine st_istore_3 h dX12_countsRows_20 ?_
      exact st_sub (ls_s (ls_s (ls_s (ls_s ls_e)))) (w_X12_countsRows_21 h hr Hr FU σ i1 i2 0 z hF)
    · have hF := pI q1 hF
      refine st_aload_0 h dX12_countsRows_8 ?_
      refine st_dup h rfl dX12_countsRows_9 ?_
      refine gX12_37 h fl_X12_349 dX12_countsRows_10 (congrArg Prod.fst kM_0) ?_
      refine st_ic_1 h dX12_countsRows_13 ?_
      refine st_iadd h dX12_countsRows_14 ?_
      obtain ⟨s1, hs1, hF⟩ := swI hF
      refine pX12_37 h fl_X12_349 dX12_countsRows_15 (congrArg Prod.fst kM_0) hs1 ?_
      cases hF
      exact st_vret h hr dX12_countsRows_18
set_option maxRecDepth 100000 in
set_option maxHeartbeats 4000000 in
theorem w_X12_best {l : Launch} {G : Gv} {σ : Sto} {z : (Int32 × Sto)} (hF : F_X12_best σ  = some z) : Con l yX12_best cX12_best 1 (some .int) 11 G shM νM [.ref 0] (ovM σ) (some (.int z.1)) (ovM z.2) := by
  rw [F_X12_best] at hF
  refine Con_enter (own := RX12) 0 (lv := [some (.ref 0)]) mi_X12_best.2.2.2 rfl (Nat.le_of_ble_eq_true rfl) rfl (fun h hr hin => ?_)
  refine st_aload_0 h dX12_best_0 ?_
  refine st_ic_0 h dX12_best_1 ?_
  obtain ⟨s1, hs1, hF⟩ := swI hF
  refine pX12_0 h fl_X12_73 dX12_best_2 (congrArg Prod.fst kM_0) hs1 ?_
  refine st_aload_0 h dX12_best_5 ?_
  refine gX12_25 h fl_X12_229 dX12_best_6 (congrArg Prod.fst kM_0) ?_
  refine st_if_eq (t := 24) h dX12_best_9 (by decide) (fun q1 => ?_) (fun q1 => ?_)
  · have hF := pI q1 hF
    refine st_aload_0 h dX12_best_24 ?_
    refine st_ic_1 h dX12_best_25 ?_
    obtain ⟨x1, hx1, hF⟩ := bI hF
    refine st_cVi (vs := [.int 1]) (st := []) h (w_X12_refused hx1) mi_X12_refused mv_X12_refused ml_X12_213 dX12_best_26 kM_0 rfl ⟨Nat.le_of_ble_eq_true rfl, Nat.le_of_ble_eq_true rfl⟩ (Nat.le_of_ble_eq_true rfl) rfl ?_
    cases hF
    exact st_iret h hr dX12_best_29
  · have hF := qI q1 hF
    refine st_aload_0 h dX12_best_12 ?_
    refine st_aload_0 h dX12_best_13 ?_
    refine st_ic_0 h dX12_best_14 ?_
    obtain ⟨x2, hx2, hF⟩ := bI hF
    refine st_cVi (vs := [.int 0]) (st := [.ref 0]) h (w_X12_finds hx2) mi_X12_finds mv_X12_finds ml_X12_305 dX12_best_15 kM_0 rfl ⟨Nat.le_of_ble_eq_true rfl, Nat.le_of_ble_eq_true rfl⟩ (Nat.le_of_ble_eq_true rfl) rfl ?_
    obtain ⟨x3, hx3, hF⟩ := bI hF
    refine st_cVi (vs := [.int x2.1]) (st := []) h (w_X12_tells hx3) mi_X12_tells mv_X12_tells ml_X12_233 dX12_best_18 kM_0 rfl ⟨Nat.le_of_ble_eq_true rfl, Nat.le_of_ble_eq_true rfl⟩ (Nat.le_of_ble_eq_true rfl) rfl ?_
    refine st_goto (t := 29) h dX12_best_21 (by decide) ?_
    cases hF
    exact st_iret h hr dX12_best_29
set_option maxRecDepth 100000 in
set_option maxHeartbeats 4000000 in
theorem w_X12_bestOf_43 {p : Program} {l : Launch} {e : Env} {s : State} {m : MethodId} {args : Array Value} {below : List Frame} {meth : Method} {c : Code} {G : Gv} (h : Cx p s m args meth c G cX12_bestOf 3 RX12) (hr : meth.sig.returnType = (some .int)) : ∀ (σ : Sto) (e1 : Int32) (z : (Int32 × Sto)), F_X12_bestOf_43 σ e1 = some z → AW p l e (rmD 11 0 0) s m args below meth c (MQ below (QcR G shM νM (some (.int z.1)) (ovM z.2)) args s 0 0 (gA G)) 0 0 G 3 43 [none, none, none] [.int e1, .ref 0] shM νM (ovM σ) := by
  intro σ e1 z hF
  rw [F_X12_bestOf_43] at hF
  obtain ⟨x1, hx1, hF⟩ := bI hF
  refine st_cVi (vs := [.int e1]) (st := []) h (w_X12_tells hx1) mi_X12_tells mv_X12_tells ml_X12_233 dX12_bestOf_43 kM_0 rfl ⟨Nat.le_of_ble_eq_true rfl, Nat.le_of_ble_eq_true rfl⟩ (Nat.le_of_ble_eq_true rfl) rfl ?_
  cases hF
  exact st_iret h hr dX12_bestOf_46
set_option maxRecDepth 100000 in
set_option maxHeartbeats 4000000 in
theorem w_X12_bestOf {l : Launch} {G : Gv} {σ : Sto} {i1 : Int32} {z : (Int32 × Sto)} (hF : F_X12_bestOf σ i1 = some z) : Con l yX12_bestOf cX12_bestOf 3 (some .int) 11 G shM νM [.ref 0, .int i1] (ovM σ) (some (.int z.1)) (ovM z.2) := by
  rw [F_X12_bestOf] at hF
  refine Con_enter (own := RX12) 1 (lv := [some (.ref 0), some (.int i1), none]) mi_X12_bestOf.2.2.2 rfl (Nat.le_of_ble_eq_true rfl) rfl (fun h hr hin => ?_)
  refine st_aload_0 h dX12_bestOf_0 ?_
  refine st_ic_0 h dX12_bestOf_1 ?_
  obtain ⟨s1, hs1, hF⟩ := swI hF
  refine pX12_0 h fl_X12_73 dX12_bestOf_2 (congrArg Prod.fst kM_0) hs1 ?_
  refine st_aload_0 h dX12_bestOf_5 ?_
  refine st_iload_1 h dX12_bestOf_6 ?_
  obtain ⟨x1, hx1, hF⟩ := bI hF
  refine st_cVi (vs := [.int i1]) (st := []) h (w_X12_isService hx1) mi_X12_isService mv_X12_isService ml_X12_272 dX12_bestOf_7 kM_0 rfl ⟨Nat.le_of_ble_eq_true rfl, Nat.le_of_ble_eq_true rfl⟩ (Nat.le_of_ble_eq_true rfl) rfl ?_
  refine st_if_ne (t := 19) h dX12_bestOf_10 (by decide) (fun q1 => ?_) (fun q1 => ?_)
  · have hF := qI q1 hF
    refine st_aload_0 h dX12_bestOf_19 ?_
    refine st_ic_0 h dX12_bestOf_20 ?_
    obtain ⟨x2, hx2, hF⟩ := bI hF
    refine st_cVi (vs := [.int 0]) (st := []) h (w_X12_finds hx2) mi_X12_finds mv_X12_finds ml_X12_305 dX12_bestOf_21 kM_0 rfl ⟨Nat.le_of_ble_eq_true rfl, Nat.le_of_ble_eq_true rfl⟩ (Nat.le_of_ble_eq_true rfl) rfl ?_
    refine st_istore_2 h dX12_bestOf_24 ?_
    refine st_aload_0 h dX12_bestOf_25 ?_
    refine st_iload_2 h dX12_bestOf_26 ?_
    refine st_ldcw h ck_X12_282 dX12_bestOf_27 ?_
    refine st_icmp_le (t := 42) h dX12_bestOf_30 (by decide) (fun q2 => ?_) (fun q2 => ?_)
    · have hF := pI q2 hF
      refine st_ic_0 h dX12_bestOf_42 ?_
      exact st_sub (ls_n (ls_n (ls_n ls_e))) (w_X12_bestOf_43 h hr x2.2 0 z hF)
    · have hF := qI q2 hF
      refine st_aload_0 h dX12_bestOf_33 ?_
      refine gX12_35 h fl_X12_61 dX12_bestOf_34 (congrArg Prod.fst kM_0) ?_
      refine st_iload_1 h dX12_bestOf_37 ?_
      obtain ⟨g1, hF⟩ := gI hF
      refine iaM h dX12_bestOf_38 kM_16 g1 ?_
      refine st_goto (t := 43) h dX12_bestOf_39 (by decide) ?_
      exact st_sub (ls_n (ls_n (ls_n ls_e))) (w_X12_bestOf_43 h hr x2.2 (x2.2.1 16 (ix i1)) z hF)
  · have hF := pI q1 hF
    refine st_aload_0 h dX12_bestOf_13 ?_
    refine st_ic_1 h dX12_bestOf_14 ?_
    obtain ⟨x3, hx3, hF⟩ := bI hF
    refine st_cVi (vs := [.int 1]) (st := []) h (w_X12_refused hx3) mi_X12_refused mv_X12_refused ml_X12_213 dX12_bestOf_15 kM_0 rfl ⟨Nat.le_of_ble_eq_true rfl, Nat.le_of_ble_eq_true rfl⟩ (Nat.le_of_ble_eq_true rfl) rfl ?_
    cases hF
    exact st_iret h hr dX12_bestOf_18
set_option maxRecDepth 100000 in
set_option maxHeartbeats 4000000 in
theorem w_X12_fair {l : Launch} {G : Gv} {σ : Sto} {z : (Int32 × Sto)} (hF : F_X12_fair σ  = some z) : Con l yX12_fair cX12_fair 1 (some .int) 11 G shM νM [.ref 0] (ovM σ) (some (.int z.1)) (ovM z.2) := by
  rw [F_X12_fair] at hF
  refine Con_enter (own := RX12) 0 (lv := [some (.ref 0)]) mi_X12_fair.2.2.2 rfl (Nat.le_of_ble_eq_true rfl) rfl (fun h hr hin => ?_)
  refine st_aload_0 h dX12_fair_0 ?_
  refine st_ic_0 h dX12_fair_1 ?_
  obtain ⟨s1, hs1, hF⟩ := swI hF
  refine pX12_0 h fl_X12_73 dX12_fair_2 (congrArg Prod.fst kM_0) hs1 ?_
  refine st_aload_0 h dX12_fair_5 ?_
  refine gX12_25 h fl_X12_229 dX12_fair_6 (congrArg Prod.fst kM_0) ?_
  refine st_if_eq (t := 24) h dX12_fair_9 (by decide) (fun q1 => ?_) (fun q1 => ?_)
  · have hF := pI q1 hF
    refine st_aload_0 h dX12_fair_24 ?_
    refine st_ic_1 h dX12_fair_25 ?_
    obtain ⟨x1, hx1, hF⟩ := bI hF
    refine st_cVi (vs := [.int 1]) (st := []) h (w_X12_refused hx1) mi_X12_refused mv_X12_refused ml_X12_213 dX12_fair_26 kM_0 rfl ⟨Nat.le_of_ble_eq_true rfl, Nat.le_of_ble_eq_true rfl⟩ (Nat.le_of_ble_eq_true rfl) rfl ?_
    cases hF
    exact st_iret h hr dX12_fair_29
  · have hF := qI q1 hF
    refine st_aload_0 h dX12_fair_12 ?_
    refine st_aload_0 h dX12_fair_13 ?_
    refine st_ic_1 h dX12_fair_14 ?_
    obtain ⟨x2, hx2, hF⟩ := bI hF
    refine st_cVi (vs := [.int 1]) (st := [.ref 0]) h (w_X12_finds hx2) mi_X12_finds mv_X12_finds ml_X12_305 dX12_fair_15 kM_0 rfl ⟨Nat.le_of_ble_eq_true rfl, Nat.le_of_ble_eq_true rfl⟩ (Nat.le_of_ble_eq_true rfl) rfl ?_
    obtain ⟨x3, hx3, hF⟩ := bI hF
    refine st_cVi (vs := [.int x2.1]) (st := []) h (w_X12_tells hx3) mi_X12_tells mv_X12_tells ml_X12_233 dX12_fair_18 kM_0 rfl ⟨Nat.le_of_ble_eq_true rfl, Nat.le_of_ble_eq_true rfl⟩ (Nat.le_of_ble_eq_true rfl) rfl ?_
    refine st_goto (t := 29) h dX12_fair_21 (by decide) ?_
    cases hF
    exact st_iret h hr dX12_fair_29
set_option maxRecDepth 100000 in
set_option maxHeartbeats 4000000 in
theorem w_X12_fairOf_43 {p : Program} {l : Launch} {e : Env} {s : State} {m : MethodId} {args : Array Value} {below : List Frame} {meth : Method} {c : Code} {G : Gv} (h : Cx p s m args meth c G cX12_fairOf 3 RX12) (hr : meth.sig.returnType = (some .int)) : ∀ (σ : Sto) (e1 : Int32) (z : (Int32 × Sto)), F_X12_fairOf_43 σ e1 = some z → AW p l e (rmD 11 0 0) s m args below meth c (MQ below (QcR G shM νM (some (.int z.1)) (ovM z.2)) args s 0 0 (gA G)) 0 0 G 3 43 [none, none, none] [.int e1, .ref 0] shM νM (ovM σ) := by
  intro σ e1 z hF
  rw [F_X12_fairOf_43] at hF
  obtain ⟨x1, hx1, hF⟩ := bI hF
  refine st_cVi (vs := [.int e1]) (st := []) h (w_X12_tells hx1) mi_X12_tells mv_X12_tells ml_X12_233 dX12_fairOf_43 kM_0 rfl ⟨Nat.le_of_ble_eq_true rfl, Nat.le_of_ble_eq_true rfl⟩ (Nat.le_of_ble_eq_true rfl) rfl ?_
  cases hF
  exact st_iret h hr dX12_fairOf_46
set_option maxRecDepth 100000 in
set_option maxHeartbeats 4000000 in
theorem w_X12_fairOf {l : Launch} {G : Gv} {σ : Sto} {i1 : Int32} {z : (Int32 × Sto)} (hF : F_X12_fairOf σ i1 = some z) : Con l yX12_fairOf cX12_fairOf 3 (some .int) 11 G shM νM [.ref 0, .int i1] (ovM σ) (some (.int z.1)) (ovM z.2) := by
  rw [F_X12_fairOf] at hF
  refine Con_enter (own := RX12) 1 (lv := [some (.ref 0), some (.int i1), none]) mi_X12_fairOf.2.2.2 rfl (Nat.le_of_ble_eq_true rfl) rfl (fun h hr hin => ?_)
  refine st_aload_0 h dX12_fairOf_0 ?_
  refine st_ic_0 h dX12_fairOf_1 ?_
  obtain ⟨s1, hs1, hF⟩ := swI hF
  refine pX12_0 h fl_X12_73 dX12_fairOf_2 (congrArg Prod.fst kM_0) hs1 ?_
  refine st_aload_0 h dX12_fairOf_5 ?_
  refine st_iload_1 h dX12_fairOf_6 ?_
  obtain ⟨x1, hx1, hF⟩ := bI hF
  refine st_cVi (vs := [.int i1]) (st := []) h (w_X12_isService hx1) mi_X12_isService mv_X12_isService ml_X12_272 dX12_fairOf_7 kM_0 rfl ⟨Nat.le_of_ble_eq_true rfl, Nat.le_of_ble_eq_true rfl⟩ (Nat.le_of_ble_eq_true rfl) rfl ?_
  refine st_if_ne (t := 19) h dX12_fairOf_10 (by decide) (fun q1 => ?_) (fun q1 => ?_)
  · have hF := qI q1 hF
    refine st_aload_0 h dX12_fairOf_19 ?_
    refine st_ic_1 h dX12_fairOf_20 ?_
    obtain ⟨x2, hx2, hF⟩ := bI hF
    refine st_cVi (vs := [.int 1]) (st := []) h (w_X12_finds hx2) mi_X12_finds mv_X12_finds ml_X12_305 dX12_fairOf_21 kM_0 rfl ⟨Nat.le_of_ble_eq_true rfl, Nat.le_of_ble_eq_true rfl⟩ (Nat.le_of_ble_eq_true rfl) rfl ?_
    refine st_istore_2 h dX12_fairOf_24 ?_
    refine st_aload_0 h dX12_fairOf_25 ?_
    refine st_iload_2 h dX12_fairOf_26 ?_
    refine st_ldcw h ck_X12_282 dX12_fairOf_27 ?_
    refine st_icmp_le (t := 42) h dX12_fairOf_30 (by decide) (fun q2 => ?_) (fun q2 => ?_)
    · have hF := pI q2 hF
      refine st_ic_0 h dX12_fairOf_42 ?_
      exact st_sub (ls_n (ls_n (ls_n ls_e))) (w_X12_fairOf_43 h hr x2.2 0 z hF)
    · have hF := qI q2 hF
      refine st_aload_0 h dX12_fairOf_33 ?_
      refine gX12_35 h fl_X12_61 dX12_fairOf_34 (congrArg Prod.fst kM_0) ?_
      refine st_iload_1 h dX12_fairOf_37 ?_
      obtain ⟨g1, hF⟩ := gI hF
      refine iaM h dX12_fairOf_38 kM_16 g1 ?_
      refine st_goto (t := 43) h dX12_fairOf_39 (by decide) ?_
      exact st_sub (ls_n (ls_n (ls_n ls_e))) (w_X12_fairOf_43 h hr x2.2 (x2.2.1 16 (ix i1)) z hF)
  · have hF := pI q1 hF
    refine st_aload_0 h dX12_fairOf_13 ?_
    refine st_ic_1 h dX12_fairOf_14 ?_
    obtain ⟨x3, hx3, hF⟩ := bI hF
    refine st_cVi (vs := [.int 1]) (st := []) h (w_X12_refused hx3) mi_X12_refused mv_X12_refused ml_X12_213 dX12_fairOf_15 kM_0 rfl ⟨Nat.le_of_ble_eq_true rfl, Nat.le_of_ble_eq_true rfl⟩ (Nat.le_of_ble_eq_true rfl) rfl ?_
    cases hF
    exact st_iret h hr dX12_fairOf_18
set_option maxRecDepth 100000 in
set_option maxHeartbeats 4000000 in
theorem w_X12_rows {l : Launch} {G : Gv} {σ : Sto} {z : (Int32 × Sto)} (hF : F_X12_rows σ  = some z) : Con l yX12_rows cX12_rows 1 (some .int) 8 G shM νM [.ref 0] (ovM σ) (some (.int z.1)) (ovM z.2) := by
  rw [F_X12_rows] at hF
  refine Con_enter (own := RX12) 0 (lv := [some (.ref 0)]) mi_X12_rows.2.2.2 rfl (Nat.le_of_ble_eq_true rfl) rfl (fun h hr hin => ?_)
  refine st_aload_0 h dX12_rows_0 ?_
  refine st_ic_0 h dX12_rows_1 ?_
  obtain ⟨s1, hs1, hF⟩ := swI hF
  refine pX12_0 h fl_X12_73 dX12_rows_2 (congrArg Prod.fst kM_0) hs1 ?_
  refine st_aload_0 h dX12_rows_5 ?_
  refine gX12_25 h fl_X12_229 dX12_rows_6 (congrArg Prod.fst kM_0) ?_
  refine st_if_ne (t := 18) h dX12_rows_9 (by decide) (fun q1 => ?_) (fun q1 => ?_)
  · have hF := qI q1 hF
    refine st_aload_0 h dX12_rows_18 ?_
    refine st_ic_0 h dX12_rows_19 ?_
    obtain ⟨x1, hx1, hF⟩ := bI hF
    refine st_cVv (vs := [.int 0]) (st := []) h (w_X12_laysWorth hx1) mi_X12_laysWorth mv_X12_laysWorth ml_X12_298 dX12_rows_20 kM_0 rfl ⟨Nat.le_of_ble_eq_true rfl, Nat.le_of_ble_eq_true rfl⟩ (Nat.le_of_ble_eq_true rfl) rfl ?_
    refine st_aload_0 h dX12_rows_23 ?_
    refine st_ic_0 h dX12_rows_24 ?_
    obtain ⟨s2, hs2, hF⟩ := swI hF
    refine pX12_37 h fl_X12_349 dX12_rows_25 (congrArg Prod.fst kM_0) hs2 ?_
    refine st_aload_0 h dX12_rows_28 ?_
    refine st_ic_0 h dX12_rows_29 ?_
    refine st_aload_0 h dX12_rows_30 ?_
    obtain ⟨x2, hx2, hF⟩ := bI hF
    refine st_cVi (vs := []) (st := [.int 0, .ref 0]) h (w_X12_allowed hx2) mi_X12_allowed mv_X12_allowed ml_X12_260 dX12_rows_31 kM_0 rfl ⟨Nat.le_of_ble_eq_true rfl, Nat.le_of_ble_eq_true rfl⟩ (Nat.le_of_ble_eq_true rfl) rfl ?_
    obtain ⟨x3, hx3, hF⟩ := bI hF
    refine st_cVv (vs := [.int 0, .int x2]) (st := []) h (w_X12_countsRows 6 s2 0 x2 x3 hx3) mi_X12_countsRows mv_X12_countsRows ml_X12_352 dX12_rows_34 kM_0 rfl ⟨Nat.le_of_ble_eq_true rfl, Nat.le_of_ble_eq_true rfl⟩ (Nat.le_of_ble_eq_true rfl) rfl ?_
    refine st_aload_0 h dX12_rows_37 ?_
    refine st_aload_0 h dX12_rows_38 ?_
    refine gX12_37 h fl_X12_349 dX12_rows_39 (congrArg Prod.fst kM_0) ?_
    obtain ⟨x4, hx4, hF⟩ := bI hF
    refine st_cVi (vs := [.int (x3.1 0 37)]) (st := []) h (w_X12_tells hx4) mi_X12_tells mv_X12_tells ml_X12_233 dX12_rows_42 kM_0 rfl ⟨Nat.le_of_ble_eq_true rfl, Nat.le_of_ble_eq_true rfl⟩ (Nat.le_of_ble_eq_true rfl) rfl ?_
    cases hF
    exact st_iret h hr dX12_rows_45
  · have hF := pI q1 hF
    refine st_aload_0 h dX12_rows_12 ?_
    refine st_ic_1 h dX12_rows_13 ?_
    obtain ⟨x5, hx5, hF⟩ := bI hF
    refine st_cVi (vs := [.int 1]) (st := []) h (w_X12_refused hx5) mi_X12_refused mv_X12_refused ml_X12_213 dX12_rows_14 kM_0 rfl ⟨Nat.le_of_ble_eq_true rfl, Nat.le_of_ble_eq_true rfl⟩ (Nat.le_of_ble_eq_true rfl) rfl ?_
    cases hF
    exact st_iret h hr dX12_rows_17
set_option maxRecDepth 100000 in
set_option maxHeartbeats 4000000 in
theorem w_X12_keepsAside_2 {p : Program} {l : Launch} {e : Env} {s : State} {m : MethodId} {args : Array Value} {below : List Frame} {meth : Method} {c : Code} {G : Gv} (h : Cx p s m args meth c G cX12_keepsAside 2 RX12) (hr : meth.sig.returnType = none) : ∀ (n : Nat) (σ : Sto) (i1 : Int32) (z : Sto), F_X12_keepsAside_2 n σ i1 = some z → AW p l e (rmD 1 0 0) s m args below meth c (MQ below (QcR G shM νM none (ovM z)) args s 0 0 (gA G)) 0 0 G 2 2 [some (.ref 0), some (.int i1)] [] shM νM (ovM σ) := by
  intro n
  induction n with
  | zero => intro σ i1 z hF; cases hF
  | succ n ih =>
    intro σ i1 z hF
    rw [F_X12_keepsAside_2] at hF
    refine st_iload_1 h dX12_keepsAside_2 ?_
    refine st_bipush (v := 34) h dX12_keepsAside_3 (by decide) ?_
    refine st_icmp_ge (t := 26) h dX12_keepsAside_5 (by decide) (fun q1 => ?_) (fun q1 => ?_)
    · have hF := pI q1 hF
      cases hF
      exact st_vret h hr dX12_keepsAside_26
    · have hF := qI q1 hF
      refine st_aload_0 h dX12_keepsAside_8 ?_
      refine gX12_16 h fl_X12_23 dX12_keepsAside_9 (congrArg Prod.fst kM_0) ?_
      refine st_iload_1 h dX12_keepsAside_12 ?_
      refine st_aload_0 h dX12_keepsAside_13 ?_
      refine gX12_14 h fl_X12_17 dX12_keepsAside_14 (congrArg Prod.fst kM_0) ?_
      refine st_iload_1 h dX12_keepsAside_17 ?_
      obtain ⟨g1, hF⟩ := gI hF
      refine iaM h dX12_keepsAside_18 kM_2 g1 ?_
      obtain ⟨s1, hs1, hF⟩ := swI hF
      refine isM h dX12_keepsAside_19 kM_4 g1 hs1 ?_
      refine st_iinc_1 (y := i1 + 1) h dX12_keepsAside_20 (ii_1 _) ?_
      refine st_goto (t := 2) h dX12_keepsAside_23 (by decide) ?_
      exact st_sub (ls_s (ls_s ls_e)) (ih s1 (i1 + 1) z hF)
set_option maxRecDepth 100000 in
set_option maxHeartbeats 4000000 in
theorem w_X12_keepsAside {l : Launch} {G : Gv} {σ : Sto} {z : Sto} (hF : F_X12_keepsAside σ  = some z) : Con l yX12_keepsAside cX12_keepsAside 2 none 1 G shM νM [.ref 0] (ovM σ) none (ovM z) := by
  rw [F_X12_keepsAside] at hF
  refine Con_enter (own := RX12) 1 (lv := [some (.ref 0), none]) mi_X12_keepsAside.2.2.2 rfl (Nat.le_of_ble_eq_true rfl) rfl (fun h hr hin => ?_)
  refine st_ic_0 h dX12_keepsAside_0 ?_
  refine st_istore_1 h dX12_keepsAside_1 ?_
  exact st_sub (ls_s (ls_s ls_e)) (w_X12_keepsAside_2 h hr FU σ 0 z hF)
set_option maxRecDepth 100000 in
set_option maxHeartbeats 4000000 in
theorem w_X12_putsBack_2 {p : Program} {l : Launch} {e : Env} {s : State} {m : MethodId} {args : Array Value} {below : List Frame} {meth : Method} {c : Code} {G : Gv} (h : Cx p s m args meth c G cX12_putsBack 2 RX12) (hr : meth.sig.returnType = none) : ∀ (n : Nat) (σ : Sto) (i1 : Int32) (z : Sto), F_X12_putsBack_2 n σ i1 = some z → AW p l e (rmD 1 0 0) s m args below meth c (MQ below (QcR G shM νM none (ovM z)) args s 0 0 (gA G)) 0 0 G 2 2 [some (.ref 0), some (.int i1)] [] shM νM (ovM σ) := by
  intro n
  induction n with
  | zero => intro σ i1 z hF; cases hF
  | succ n ih =>
    intro σ i1 z hF
    rw [F_X12_putsBack_2] at hF
    refine st_iload_1 h dX12_putsBack_2 ?_
    refine st_bipush (v := 34) h dX12_putsBack_3 (by decide) ?_
    refine st_icmp_ge (t := 26) h dX12_putsBack_5 (by decide) (fun q1 => ?_) (fun q1 => ?_)
    · have hF := pI q1 hF
      cases hF
      exact st_vret h hr dX12_putsBack_26
    · have hF := qI q1 hF
      refine st_aload_0 h dX12_putsBack_8 ?_
      refine gX12_14 h fl_X12_17 dX12_putsBack_9 (congrArg Prod.fst kM_0) ?_
      refine st_iload_1 h dX12_putsBack_12 ?_
      refine st_aload_0 h dX12_putsBack_13 ?_
      refine gX12_16 h fl_X12_23 dX12_putsBack_14 (congrArg Prod.fst kM_0) ?_
      refine st_iload_1 h dX12_putsBack_17 ?_
      obtain ⟨g1, hF⟩ := gI hF
      refine iaM h dX12_putsBack_18 kM_4 g1 ?_
      obtain ⟨s1, hs1, hF⟩ := swI hF
      refine isM h dX12_putsBack_19 kM_2 g1 hs1 ?_
      refine st_iinc_1 (y := i1 + 1) h dX12_putsBack_20 (ii_1 _) ?_
      refine st_goto (t := 2) h dX12_putsBack_23 (by decide) ?_
      exact st_sub (ls_s (ls_s ls_e)) (ih s1 (i1 + 1) z hF)
set_option maxRecDepth 100000 in
set_option maxHeartbeats 4000000 in
theorem w_X12_putsBack {l : Launch} {G : Gv} {σ : Sto} {z : Sto} (hF : F_X12_putsBack σ  = some z) : Con l yX12_putsBack cX12_putsBack 2 none 1 G shM νM [.ref 0] (ovM σ) none (ovM z) := by
  rw [F_X12_putsBack] at hF
  refine Con_enter (own := RX12) 1 (lv := [some (.ref 0), none]) mi_X12_putsBack.2.2.2 rfl (Nat.le_of_ble_eq_true rfl) rfl (fun h hr hin => ?_)
  refine st_ic_0 h dX12_putsBack_0 ?_
  refine st_istore_1 h dX12_putsBack_1 ?_
  exact st_sub (ls_s (ls_s ls_e)) (w_X12_putsBack_2 h hr FU σ 0 z hF)
set_option maxRecDepth 100000 in
set_option maxHeartbeats 4000000 in
theorem w_X12_ends_55 {p : Program} {l : Launch} {e : Env} {s : State} {m : MethodId} {args : Array Value} {below : List Frame} {meth : Method} {c : Code} {G : Gv} (h : Cx p s m args meth c G cX12_ends 5 RX12) (hr : meth.sig.returnType = none) : ∀ (n : Nat) (σ : Sto) (i4 : Int32) (z : Sto), F_X12_ends_55 n σ i4 = some z → AW p l e (rmD 6 0 0) s m args below meth c (MQ below (QcR G shM νM none (ovM z)) args s 0 0 (gA G)) 0 0 G 5 55 [some (.ref 0), none, none, none, some (.int i4)] [] shM νM (ovM σ) := by
  intro n
  induction n with
  | zero => intro σ i4 z hF; cases hF
  | succ n ih =>
    intro σ i4 z hF
    rw [F_X12_ends_55] at hF
    refine st_iload_4 h dX12_ends_55 ?_
    refine st_aload_0 h dX12_ends_57 ?_
    refine gX12_22 h fl_X12_220 dX12_ends_58 (congrArg Prod.fst kM_0) ?_
    refine st_icmp_ge (t := 89) h dX12_ends_61 (by decide) (fun q1 => ?_) (fun q1 => ?_)
    · have hF := pI q1 hF
      cases hF
      exact st_vret h hr dX12_ends_89
    · have hF := qI q1 hF
      refine st_aload_0 h dX12_ends_64 ?_
      refine gX12_14 h fl_X12_17 dX12_ends_65 (congrArg Prod.fst kM_0) ?_
      refine st_bipush (v := 7) h dX12_ends_68 (by decide) ?_
      refine st_iload_4 h dX12_ends_70 ?_
      refine st_imul h dX12_ends_72 ?_
      refine st_ic_0 h dX12_ends_73 ?_
      refine st_iadd h dX12_ends_74 ?_
      refine st_aload_0 h dX12_ends_75 ?_
      refine st_iload_4 h dX12_ends_76 ?_
      refine st_ic_1 h dX12_ends_78 ?_
      obtain ⟨x1, hx1, hF⟩ := bI hF
      refine st_cVi (vs := [.int i4, .int 1]) (st := [.int ((7 * i4) + 0), .ref 2]) h (w_X12_of hx1) mi_X12_of mv_X12_of ml_X12_236 dX12_ends_79 kM_0 rfl ⟨Nat.le_of_ble_eq_true rfl, Nat.le_of_ble_eq_true rfl⟩ (Nat.le_of_ble_eq_true rfl) rfl ?_
      obtain ⟨g1, hF⟩ := gI hF
      obtain ⟨s1, hs1, hF⟩ := swI hF
      refine isM h dX12_ends_82 kM_2 g1 hs1 ?_
      refine st_iinc_4 (y := i4 + 1) h dX12_ends_83 (ii_1 _) ?_
      refine st_goto (t := 55) h dX12_ends_86 (by decide) ?_
      exact st_sub (ls_s (ls_n (ls_n (ls_n (ls_s ls_e))))) (ih s1 (i4 + 1) z hF)
set_option maxRecDepth 100000 in
set_option maxHeartbeats 4000000 in
theorem w_X12_ends {l : Launch} {G : Gv} {σ : Sto} {z : Sto} (hF : F_X12_ends σ  = some z) : Con l yX12_ends cX12_ends 5 none 6 G shM νM [.ref 0] (ovM σ) none (ovM z) := by
  rw [F_X12_ends] at hF
  refine Con_enter (own := RX12) 4 (lv := [some (.ref 0), none, none, none, none]) mi_X12_ends.2.2.2 rfl (Nat.le_of_ble_eq_true rfl) rfl (fun h hr hin => ?_)
  refine st_aload_0 h dX12_ends_0 ?_
  obtain ⟨x1, hx1, hF⟩ := bI hF
  refine st_cVi (vs := []) (st := []) h (w_X12_allowed hx1) mi_X12_allowed mv_X12_allowed ml_X12_260 dX12_ends_1 kM_0 rfl ⟨Nat.le_of_ble_eq_true rfl, Nat.le_of_ble_eq_true rfl⟩ (Nat.le_of_ble_eq_true rfl) rfl ?_
  refine st_istore_1 h dX12_ends_4 ?_
  refine st_iload_1 h dX12_ends_5 ?_
  refine st_aload_0 h dX12_ends_6 ?_
  obtain ⟨x2, hx2, hF⟩ := bI hF
  refine st_cVi (vs := []) (st := [.int x1]) h (w_X12_spent hx2) mi_X12_spent mv_X12_spent ml_X12_257 dX12_ends_7 kM_0 rfl ⟨Nat.le_of_ble_eq_true rfl, Nat.le_of_ble_eq_true rfl⟩ (Nat.le_of_ble_eq_true rfl) rfl ?_
  refine st_isub h dX12_ends_10 ?_
  refine st_istore_2 h dX12_ends_11 ?_
  refine st_aload_0 h dX12_ends_12 ?_
  refine gX12_14 h fl_X12_17 dX12_ends_13 (congrArg Prod.fst kM_0) ?_
  refine st_bipush (v := 30) h dX12_ends_16 (by decide) ?_
  refine iaM h dX12_ends_18 kM_2 (by decide) ?_
  refine st_iload_1 h dX12_ends_19 ?_
  refine st_imul h dX12_ends_20 ?_
  refine st_bipush (v := 100) h dX12_ends_21 (by decide) ?_
  refine st_idiv h (by decide) dX12_ends_23 ?_
  refine st_istore_3 h dX12_ends_24 ?_
  refine st_aload_0 h dX12_ends_25 ?_
  refine gX12_14 h fl_X12_17 dX12_ends_26 (congrArg Prod.fst kM_0) ?_
  refine st_bipush (v := 33) h dX12_ends_29 (by decide) ?_
  refine st_iload_2 h dX12_ends_31 ?_
  refine st_if_ge (t := 41) h dX12_ends_32 (by decide) (fun q1 => ?_) (fun q1 => ?_)
  · have hF := pI q1 hF
    refine st_iload_2 h dX12_ends_41 ?_
    refine st_iload_3 h dX12_ends_42 ?_
    refine st_icmp_ge (t := 50) h dX12_ends_43 (by decide) (fun q2 => ?_) (fun q2 => ?_)
    · have hF := pI q2 hF
      refine st_iload_3 h dX12_ends_50 ?_
      obtain ⟨s1, hs1, hF⟩ := swI hF
      refine isM h dX12_ends_51 kM_2 (by decide) hs1 ?_
      refine st_ic_0 h dX12_ends_52 ?_
      refine st_istore_4 h dX12_ends_53 ?_
      exact st_sub (ls_s (ls_n (ls_n (ls_n (ls_s ls_e))))) (w_X12_ends_55 h hr FU s1 0 z hF)
    · have hF := qI q2 hF
      refine st_iload_2 h dX12_ends_46 ?_
      refine st_goto (t := 51) h dX12_ends_47 (by decide) ?_
      obtain ⟨s2, hs2, hF⟩ := swI hF
      refine isM h dX12_ends_51 kM_2 (by decide) hs2 ?_
      refine st_ic_0 h dX12_ends_52 ?_
      refine st_istore_4 h dX12_ends_53 ?_
      exact st_sub (ls_s (ls_n (ls_n (ls_n (ls_s ls_e))))) (w_X12_ends_55 h hr FU s2 0 z hF)
  · have hF := qI q1 hF
    refine st_ic_2 h dX12_ends_35 ?_
    refine st_iload_2 h dX12_ends_36 ?_
    refine st_imul h dX12_ends_37 ?_
    refine st_goto (t := 51) h dX12_ends_38 (by decide) ?_
    obtain ⟨s3, hs3, hF⟩ := swI hF
    refine isM h dX12_ends_51 kM_2 (by decide) hs3 ?_
    refine st_ic_0 h dX12_ends_52 ?_
    refine st_istore_4 h dX12_ends_53 ?_
    exact st_sub (ls_s (ls_n (ls_n (ls_n (ls_s ls_e))))) (w_X12_ends_55 h hr FU s3 0 z hF)
set_option maxRecDepth 100000 in
set_option maxHeartbeats 4000000 in
theorem w_X12_plays_94 {p : Program} {l : Launch} {e : Env} {s : State} {m : MethodId} {args : Array Value} {below : List Frame} {meth : Method} {c : Code} {G : Gv} (h : Cx p s m args meth c G cX12_plays 5 RX12) (hr : meth.sig.returnType = (some .boolean)) {k11 : Sto → Int32 → Option (Int32 × Sto)} (H11 : ∀ (σ : Sto) (i1 : Int32) (z : (Int32 × Sto)), k11 σ i1 = some z → AW p l e (rmD 11 0 0) s m args below meth c (MQ below (QcR G shM νM (some (.int z.1)) (ovM z.2)) args s 0 0 (gA G)) 0 0 G 5 11 [some (.ref 0), some (.int i1), none, none, none] [] shM νM (ovM σ)) {k21 : Sto → Int32 → Int32 → Option (Int32 × Sto)} (H21 : ∀ (σ : Sto) (i1 : Int32) (i2 : Int32) (z : (Int32 × Sto)), k21 σ i1 i2 = some z → AW p l e (rmD 11 0 0) s m args below meth c (MQ below (QcR G shM νM (some (.int z.1)) (ovM z.2)) args s 0 0 (gA G)) 0 0 G 5 21 [some (.ref 0), some (.int i1), some (.int i2), none, none] [] shM νM (ovM σ)) : ∀ (σ : Sto) (i1 : Int32) (i2 : Int32) (i3 : Int32) (i4 : Int32) (z : (Int32 × Sto)), F_X12_plays_94 k11 k21 σ i1 i2 i3 i4 = some z → AW p l e (rmD 11 0 0) s m args below meth c (MQ below (QcR G shM νM (some (.int z.1)) (ovM z.2)) args s 0 0 (gA G)) 0 0 G 5 94 [some (.ref 0), some (.int i1), some (.int i2), some (.int i3), some (.int i4)] [] shM νM (ovM σ) := by
  intro σ i1 i2 i3 i4 z hF
  rw [F_X12_plays_94] at hF
  refine st_aload_0 h dX12_plays_94 ?_
  refine st_iload_4 h dX12_plays_95 ?_
  obtain ⟨s1, hs1, hF⟩ := swI hF
  refine pX12_47 h fl_X12_368 dX12_plays_97 (congrArg Prod.fst kM_0) hs1 ?_
  refine st_aload_0 h dX12_plays_100 ?_
  refine st_iload_1 h dX12_plays_101 ?_
  obtain ⟨s2, hs2, hF⟩ := swI hF
  refine pX12_48 h fl_X12_356 dX12_plays_102 (congrArg Prod.fst kM_0) hs2 ?_
  refine st_aload_0 h dX12_plays_105 ?_
  refine st_iload_2 h dX12_plays_106 ?_
  obtain ⟨s3, hs3, hF⟩ := swI hF
  refine pX12_49 h fl_X12_371 dX12_plays_107 (congrArg Prod.fst kM_0) hs3 ?_
  refine st_aload_0 h dX12_plays_110 ?_
  refine st_iload_3 h dX12_plays_111 ?_
  obtain ⟨s4, hs4, hF⟩ := swI hF
  refine pX12_50 h fl_X12_374 dX12_plays_112 (congrArg Prod.fst kM_0) hs4 ?_
  refine st_iinc_2 (y := i2 + 1) h dX12_plays_115 (ii_1 _) ?_
  refine st_goto (t := 21) h dX12_plays_118 (by decide) ?_
  exact st_sub (ls_s (ls_s (ls_s (ls_n (ls_n ls_e))))) (H21 s4 i1 (i2 + 1) z hF)
set_option maxRecDepth 100000 in
set_option maxHeartbeats 4000000 in
theorem w_X12_plays_21 {p : Program} {l : Launch} {e : Env} {s : State} {m : MethodId} {args : Array Value} {below : List Frame} {meth : Method} {c : Code} {G : Gv} (h : Cx p s m args meth c G cX12_plays 5 RX12) (hr : meth.sig.returnType = (some .boolean)) {k11 : Sto → Int32 → Option (Int32 × Sto)} (H11 : ∀ (σ : Sto) (i1 : Int32) (z : (Int32 × Sto)), k11 σ i1 = some z → AW p l e (rmD 11 0 0) s m args below meth c (MQ below (QcR G shM νM (some (.int z.1)) (ovM z.2)) args s 0 0 (gA G)) 0 0 G 5 11 [some (.ref 0), some (.int i1), none, none, none] [] shM νM (ovM σ)) : ∀ (n : Nat) (σ : Sto) (i1 : Int32) (i2 : Int32) (z : (Int32 × Sto)), F_X12_plays_21 k11 n σ i1 i2 = some z → AW p l e (rmD 11 0 0) s m args below meth c (MQ below (QcR G shM νM (some (.int z.1)) (ovM z.2)) args s 0 0 (gA G)) 0 0 G 5 21 [some (.ref 0), some (.int i1), some (.int i2), none, none] [] shM νM (ovM σ) := by
  intro n
  induction n with
  | zero => intro σ i1 i2 z hF; cases hF
  | succ n ih =>
    intro σ i1 i2 z hF
    rw [F_X12_plays_21] at hF
    refine st_iload_2 h dX12_plays_21 ?_
    refine st_bipush (v := 20) h dX12_plays_22 (by decide) ?_
    refine st_icmp_gt (t := 121) h dX12_plays_24 (by decide) (fun q1 => ?_) (fun q1 => ?_)
    · have hF := pI q1 hF
      refine st_iinc_1 (y := i1 + 1) h dX12_plays_121 (ii_1 _) ?_
      refine st_goto (t := 11) h dX12_plays_124 (by decide) ?_
      exact st_sub (ls_s (ls_s (ls_n (ls_n (ls_n ls_e))))) (H11 σ (i1 + 1) z hF)
    · have hF := qI q1 hF
      refine st_aload_0 h dX12_plays_27 ?_
      refine st_iload_1 h dX12_plays_28 ?_
      refine st_iload_2 h dX12_plays_29 ?_
      obtain ⟨x1, hx1, hF⟩ := bI hF
      refine st_cVi (vs := [.int i1, .int i2]) (st := []) h (w_X12_isKeptBy hx1) mi_X12_isKeptBy mv_X12_isKeptBy ml_X12_278 dX12_plays_30 kM_0 rfl ⟨Nat.le_of_ble_eq_true rfl, Nat.le_of_ble_eq_true rfl⟩ (Nat.le_of_ble_eq_true rfl) rfl ?_
      refine st_if_ne (t := 39) h dX12_plays_33 (by decide) (fun q2 => ?_) (fun q2 => ?_)
      · have hF := qI q2 hF
        refine st_aload_0 h dX12_plays_39 ?_
        refine gX12_14 h fl_X12_17 dX12_plays_40 (congrArg Prod.fst kM_0) ?_
        refine st_bipush (v := 7) h dX12_plays_43 (by decide) ?_
        refine st_iload_1 h dX12_plays_45 ?_
        refine st_imul h dX12_plays_46 ?_
        refine st_ic_1 h dX12_plays_47 ?_
        refine st_iadd h dX12_plays_48 ?_
        refine st_iload_2 h dX12_plays_49 ?_
        obtain ⟨g1, hF⟩ := gI hF
        obtain ⟨s1, hs1, hF⟩ := swI hF
        refine isM h dX12_plays_50 kM_2 g1 hs1 ?_
        refine st_aload_0 h dX12_plays_51 ?_
        refine st_ic_0 h dX12_plays_52 ?_
        obtain ⟨x2, hx2, hF⟩ := bI hF
        refine st_cVi (vs := [.int 0]) (st := []) h (w_X12_all hx2) mi_X12_all mv_X12_all ml_X12_328 dX12_plays_53 kM_0 rfl ⟨Nat.le_of_ble_eq_true rfl, Nat.le_of_ble_eq_true rfl⟩ (Nat.le_of_ble_eq_true rfl) rfl ?_
        refine st_istore_3 h dX12_plays_56 ?_
        refine st_aload_0 h dX12_plays_57 ?_
        obtain ⟨x3, hx3, hF⟩ := bI hF
        refine st_cVv (vs := []) (st := []) h (w_X12_ends hx3) mi_X12_ends mv_X12_ends ml_X12_362 dX12_plays_58 kM_0 rfl ⟨Nat.le_of_ble_eq_true rfl, Nat.le_of_ble_eq_true rfl⟩ (Nat.le_of_ble_eq_true rfl) rfl ?_
        refine st_iload_3 h dX12_plays_61 ?_
        refine st_aload_0 h dX12_plays_62 ?_
        refine st_ic_0 h dX12_plays_63 ?_
        obtain ⟨x4, hx4, hF⟩ := bI hF
        refine st_cVi (vs := [.int 0]) (st := [.int x2]) h (w_X12_finds hx4) mi_X12_finds mv_X12_finds ml_X12_305 dX12_plays_64 kM_0 rfl ⟨Nat.le_of_ble_eq_true rfl, Nat.le_of_ble_eq_true rfl⟩ (Nat.le_of_ble_eq_true rfl) rfl ?_
        refine st_iadd h dX12_plays_67 ?_
        refine st_istore_4 h dX12_plays_68 ?_
        refine st_aload_0 h dX12_plays_70 ?_
        obtain ⟨x5, hx5, hF⟩ := bI hF
        refine st_cVv (vs := []) (st := []) h (w_X12_putsBack hx5) mi_X12_putsBack mv_X12_putsBack ml_X12_365 dX12_plays_71 kM_0 rfl ⟨Nat.le_of_ble_eq_true rfl, Nat.le_of_ble_eq_true rfl⟩ (Nat.le_of_ble_eq_true rfl) rfl ?_
        refine st_aload_0 h dX12_plays_74 ?_
        refine gX12_48 h fl_X12_356 dX12_plays_75 (congrArg Prod.fst kM_0) ?_
        refine st_ic_m1 h dX12_plays_78 ?_
        refine st_icmp_eq (t := 94) h dX12_plays_79 (by decide) (fun q3 => ?_) (fun q3 => ?_)
        · have hF := pI q3 hF
          exact st_sub (ls_s (ls_s (ls_s (ls_s (ls_s ls_e))))) (w_X12_plays_94 h hr H11 ih x5 i1 i2 x2 (x2 + x4.1) z hF)
        · have hF := qI q3 hF
          refine st_iload_4 h dX12_plays_82 ?_
          refine st_aload_0 h dX12_plays_84 ?_
          refine gX12_47 h fl_X12_368 dX12_plays_85 (congrArg Prod.fst kM_0) ?_
          refine st_icmp_gt (t := 94) h dX12_plays_88 (by decide) (fun q4 => ?_) (fun q4 => ?_)
          · have hF := pI q4 hF
            exact st_sub (ls_s (ls_s (ls_s (ls_s (ls_s ls_e))))) (w_X12_plays_94 h hr H11 ih x5 i1 i2 x2 (x2 + x4.1) z hF)
          · have hF := qI q4 hF
            refine st_goto (t := 115) h dX12_plays_91 (by decide) ?_
            refine st_iinc_2 (y := i2 + 1) h dX12_plays_115 (ii_1 _) ?_
            refine st_goto (t := 21) h dX12_plays_118 (by decide) ?_
            exact st_sub (ls_s (ls_s (ls_s (ls_n (ls_n ls_e))))) (ih x5 i1 (i2 + 1) z hF)
      · have hF := pI q2 hF
        refine st_goto (t := 115) h dX12_plays_36 (by decide) ?_
        refine st_iinc_2 (y := i2 + 1) h dX12_plays_115 (ii_1 _) ?_
        refine st_goto (t := 21) h dX12_plays_118 (by decide) ?_
        exact st_sub (ls_s (ls_s (ls_s (ls_n (ls_n ls_e))))) (ih σ i1 (i2 + 1) z hF)
set_option maxRecDepth 100000 in
set_option maxHeartbeats 4000000 in
theorem w_X12_plays_11 {p : Program} {l : Launch} {e : Env} {s : State} {m : MethodId} {args : Array Value} {below : List Frame} {meth : Method} {c : Code} {G : Gv} (h : Cx p s m args meth c G cX12_plays 5 RX12) (hr : meth.sig.returnType = (some .boolean)) : ∀ (n : Nat) (σ : Sto) (i1 : Int32) (z : (Int32 × Sto)), F_X12_plays_11 n σ i1 = some z → AW p l e (rmD 11 0 0) s m args below meth c (MQ below (QcR G shM νM (some (.int z.1)) (ovM z.2)) args s 0 0 (gA G)) 0 0 G 5 11 [some (.ref 0), some (.int i1), none, none, none] [] shM νM (ovM σ) := by
  intro n
  induction n with
  | zero => intro σ i1 z hF; cases hF
  | succ n ih =>
    intro σ i1 z hF
    rw [F_X12_plays_11] at hF
    refine st_iload_1 h dX12_plays_11 ?_
    refine st_aload_0 h dX12_plays_12 ?_
    refine gX12_22 h fl_X12_220 dX12_plays_13 (congrArg Prod.fst kM_0) ?_
    refine st_icmp_ge (t := 127) h dX12_plays_16 (by decide) (fun q1 => ?_) (fun q1 => ?_)
    · have hF := pI q1 hF
      refine st_aload_0 h dX12_plays_127 ?_
      refine gX12_48 h fl_X12_356 dX12_plays_128 (congrArg Prod.fst kM_0) ?_
      refine st_ic_m1 h dX12_plays_131 ?_
      refine st_icmp_eq (t := 139) h dX12_plays_132 (by decide) (fun q2 => ?_) (fun q2 => ?_)
      · have hF := pI q2 hF
        refine st_ic_0 h dX12_plays_139 ?_
        cases hF
        exact st_zret h hr (Or.inl rfl) dX12_plays_140
      · have hF := qI q2 hF
        refine st_ic_1 h dX12_plays_135 ?_
        refine st_goto (t := 140) h dX12_plays_136 (by decide) ?_
        cases hF
        exact st_zret h hr (Or.inr rfl) dX12_plays_140
    · have hF := qI q1 hF
      refine st_ic_0 h dX12_plays_19 ?_
      refine st_istore_2 h dX12_plays_20 ?_
      exact st_sub (ls_s (ls_s (ls_s (ls_n (ls_n ls_e))))) (w_X12_plays_21 h hr ih FU σ i1 0 z hF)
set_option maxRecDepth 100000 in
set_option maxHeartbeats 4000000 in
theorem w_X12_plays {l : Launch} {G : Gv} {σ : Sto} {z : (Int32 × Sto)} (hF : F_X12_plays σ  = some z) : Con l yX12_plays cX12_plays 5 (some .boolean) 11 G shM νM [.ref 0] (ovM σ) (some (.int z.1)) (ovM z.2) := by
  rw [F_X12_plays] at hF
  refine Con_enter (own := RX12) 4 (lv := [some (.ref 0), none, none, none, none]) mi_X12_plays.2.2.2 rfl (Nat.le_of_ble_eq_true rfl) rfl (fun h hr hin => ?_)
  refine st_aload_0 h dX12_plays_0 ?_
  refine st_ic_m1 h dX12_plays_1 ?_
  obtain ⟨s1, hs1, hF⟩ := swI hF
  refine pX12_48 h fl_X12_356 dX12_plays_2 (congrArg Prod.fst kM_0) hs1 ?_
  refine st_aload_0 h dX12_plays_5 ?_
  obtain ⟨x1, hx1, hF⟩ := bI hF
  refine st_cVv (vs := []) (st := []) h (w_X12_keepsAside hx1) mi_X12_keepsAside mv_X12_keepsAside ml_X12_359 dX12_plays_6 kM_0 rfl ⟨Nat.le_of_ble_eq_true rfl, Nat.le_of_ble_eq_true rfl⟩ (Nat.le_of_ble_eq_true rfl) rfl ?_
  refine st_ic_0 h dX12_plays_9 ?_
  refine st_istore_1 h dX12_plays_10 ?_
  exact st_sub (ls_s (ls_s (ls_n (ls_n (ls_n ls_e))))) (w_X12_plays_11 h hr FU x1 0 z hF)
set_option maxRecDepth 100000 in
set_option maxHeartbeats 4000000 in
theorem w_X12_game_21 {p : Program} {l : Launch} {e : Env} {s : State} {m : MethodId} {args : Array Value} {below : List Frame} {meth : Method} {c : Code} {G : Gv} (h : Cx p s m args meth c G cX12_game 2 RX12) (hr : meth.sig.returnType = (some .int)) : ∀ (σ : Sto) (z : (Int32 × Sto)), F_X12_game_21 σ  = some z → AW p l e (rmD 12 0 0) s m args below meth c (MQ below (QcR G shM νM (some (.int z.1)) (ovM z.2)) args s 0 0 (gA G)) 0 0 G 2 21 [some (.ref 0), none] [] shM νM (ovM σ) := by
  intro σ z hF
  rw [F_X12_game_21] at hF
  refine st_aload_0 h dX12_game_21 ?_
  refine st_ic_1 h dX12_game_22 ?_
  obtain ⟨x1, hx1, hF⟩ := bI hF
  refine st_cVi (vs := [.int 1]) (st := []) h (w_X12_refused hx1) mi_X12_refused mv_X12_refused ml_X12_213 dX12_game_23 kM_0 rfl ⟨Nat.le_of_ble_eq_true rfl, Nat.le_of_ble_eq_true rfl⟩ (Nat.le_of_ble_eq_true rfl) rfl ?_
  cases hF
  exact st_iret h hr dX12_game_26
set_option maxRecDepth 100000 in
set_option maxHeartbeats 4000000 in
theorem w_X12_game_81 {p : Program} {l : Launch} {e : Env} {s : State} {m : MethodId} {args : Array Value} {below : List Frame} {meth : Method} {c : Code} {G : Gv} (h : Cx p s m args meth c G cX12_game 2 RX12) (hr : meth.sig.returnType = (some .int)) : ∀ (σ : Sto) (e1 : Int32) (z : (Int32 × Sto)), F_X12_game_81 σ e1 = some z → AW p l e (rmD 12 0 0) s m args below meth c (MQ below (QcR G shM νM (some (.int z.1)) (ovM z.2)) args s 0 0 (gA G)) 0 0 G 2 81 [none, none] [.int e1, .ref 0] shM νM (ovM σ) := by
  intro σ e1 z hF
  rw [F_X12_game_81] at hF
  obtain ⟨x1, hx1, hF⟩ := bI hF
  refine st_cVi (vs := [.int e1]) (st := []) h (w_X12_tells hx1) mi_X12_tells mv_X12_tells ml_X12_233 dX12_game_81 kM_0 rfl ⟨Nat.le_of_ble_eq_true rfl, Nat.le_of_ble_eq_true rfl⟩ (Nat.le_of_ble_eq_true rfl) rfl ?_
  cases hF
  exact st_iret h hr dX12_game_84
set_option maxRecDepth 100000 in
set_option maxHeartbeats 4000000 in
theorem w_X12_game {l : Launch} {G : Gv} {σ : Sto} {i1 : Int32} {z : (Int32 × Sto)} (hF : F_X12_game σ i1 = some z) : Con l yX12_game cX12_game 2 (some .int) 12 G shM νM [.ref 0, .int i1] (ovM σ) (some (.int z.1)) (ovM z.2) := by
  rw [F_X12_game] at hF
  refine Con_enter (own := RX12) 0 (lv := [some (.ref 0), some (.int i1)]) mi_X12_game.2.2.2 rfl (Nat.le_of_ble_eq_true rfl) rfl (fun h hr hin => ?_)
  refine st_aload_0 h dX12_game_0 ?_
  refine st_ic_0 h dX12_game_1 ?_
  obtain ⟨s1, hs1, hF⟩ := swI hF
  refine pX12_0 h fl_X12_73 dX12_game_2 (congrArg Prod.fst kM_0) hs1 ?_
  refine st_aload_0 h dX12_game_5 ?_
  refine gX12_25 h fl_X12_229 dX12_game_6 (congrArg Prod.fst kM_0) ?_
  refine st_if_eq (t := 21) h dX12_game_9 (by decide) (fun q1 => ?_) (fun q1 => ?_)
  · have hF := pI q1 hF
    exact st_sub (ls_s (ls_n ls_e)) (w_X12_game_21 h hr s1  z hF)
  · have hF := qI q1 hF
    refine st_iload_1 h dX12_game_12 ?_
    refine st_ic_0 h dX12_game_13 ?_
    refine st_ic_3 h dX12_game_14 ?_
    obtain ⟨x1, hx1, hF⟩ := bI hF
    refine st_cSi (vs := [.int i1, .int 0, .int 3]) (st := []) h (w_X12_in hx1) mi_X12_in ms_X12_in ml_X12_94 dX12_game_15 rfl ⟨Nat.le_of_ble_eq_true rfl, Nat.le_of_ble_eq_true rfl⟩ (Nat.le_of_ble_eq_true rfl) rfl ?_
    refine st_if_ne (t := 27) h dX12_game_18 (by decide) (fun q2 => ?_) (fun q2 => ?_)
    · have hF := qI q2 hF
      refine st_aload_0 h dX12_game_27 ?_
      obtain ⟨x2, hx2, hF⟩ := bI hF
      refine st_cVi (vs := []) (st := []) h (w_X12_plays hx2) mi_X12_plays mv_X12_plays ml_X12_377 dX12_game_28 kM_0 rfl ⟨Nat.le_of_ble_eq_true rfl, Nat.le_of_ble_eq_true rfl⟩ (Nat.le_of_ble_eq_true rfl) rfl ?_
      refine st_if_ne (t := 41) h dX12_game_31 (by decide) (fun q3 => ?_) (fun q3 => ?_)
      · have hF := qI q3 hF
        refine st_aload_0 h dX12_game_41 ?_
        refine st_iload_1 h dX12_game_42 ?_
        refine st_if_ne (t := 53) h dX12_game_43 (by decide) (fun q4 => ?_) (fun q4 => ?_)
        · have hF := qI q4 hF
          refine st_iload_1 h dX12_game_53 ?_
          refine st_ic_1 h dX12_game_54 ?_
          refine st_icmp_ne (t := 65) h dX12_game_55 (by decide) (fun q5 => ?_) (fun q5 => ?_)
          · have hF := qI q5 hF
            refine st_iload_1 h dX12_game_65 ?_
            refine st_ic_2 h dX12_game_66 ?_
            refine st_icmp_ne (t := 77) h dX12_game_67 (by decide) (fun q6 => ?_) (fun q6 => ?_)
            · have hF := qI q6 hF
              refine st_aload_0 h dX12_game_77 ?_
              refine gX12_50 h fl_X12_374 dX12_game_78 (congrArg Prod.fst kM_0) ?_
              exact st_sub (ls_n (ls_n ls_e)) (w_X12_game_81 h hr x2.2 (x2.2.1 0 50) z hF)
            · have hF := pI q6 hF
              refine st_aload_0 h dX12_game_70 ?_
              refine gX12_49 h fl_X12_371 dX12_game_71 (congrArg Prod.fst kM_0) ?_
              refine st_goto (t := 81) h dX12_game_74 (by decide) ?_
              exact st_sub (ls_n (ls_n ls_e)) (w_X12_game_81 h hr x2.2 (x2.2.1 0 49) z hF)
          · have hF := pI q5 hF
            refine st_aload_0 h dX12_game_58 ?_
            refine gX12_48 h fl_X12_356 dX12_game_59 (congrArg Prod.fst kM_0) ?_
            refine st_goto (t := 81) h dX12_game_62 (by decide) ?_
            exact st_sub (ls_n (ls_n ls_e)) (w_X12_game_81 h hr x2.2 (x2.2.1 0 48) z hF)
        · have hF := pI q4 hF
          refine st_aload_0 h dX12_game_46 ?_
          refine gX12_47 h fl_X12_368 dX12_game_47 (congrArg Prod.fst kM_0) ?_
          refine st_goto (t := 81) h dX12_game_50 (by decide) ?_
          exact st_sub (ls_n (ls_n ls_e)) (w_X12_game_81 h hr x2.2 (x2.2.1 0 47) z hF)
      · have hF := pI q3 hF
        refine st_aload_0 h dX12_game_34 ?_
        refine st_bipush (v := 6) h dX12_game_35 (by decide) ?_
        obtain ⟨x3, hx3, hF⟩ := bI hF
        refine st_cVi (vs := [.int 6]) (st := []) h (w_X12_refused hx3) mi_X12_refused mv_X12_refused ml_X12_213 dX12_game_37 kM_0 rfl ⟨Nat.le_of_ble_eq_true rfl, Nat.le_of_ble_eq_true rfl⟩ (Nat.le_of_ble_eq_true rfl) rfl ?_
        cases hF
        exact st_iret h hr dX12_game_40
    · have hF := pI q2 hF
      exact st_sub (ls_s (ls_n ls_e)) (w_X12_game_21 h hr s1  z hF)
set_option maxRecDepth 100000 in
set_option maxHeartbeats 4000000 in
theorem w_X12_takesRow_2 {p : Program} {l : Launch} {e : Env} {s : State} {m : MethodId} {args : Array Value} {below : List Frame} {meth : Method} {c : Code} {G : Gv} (h : Cx p s m args meth c G cX12_takesRow 2 RX12) (hr : meth.sig.returnType = none) : ∀ (n : Nat) (σ : Sto) (i1 : Int32) (z : Sto), F_X12_takesRow_2 n σ i1 = some z → AW p l e (rmD 1 0 0) s m args below meth c (MQ below (QcR G shM νM none (ovM z)) args s 0 0 (gA G)) 0 0 G 2 2 [some (.ref 0), some (.int i1)] [] shM νM (ovM σ) := by
  intro n
  induction n with
  | zero => intro σ i1 z hF; cases hF
  | succ n ih =>
    intro σ i1 z hF
    rw [F_X12_takesRow_2] at hF
    refine st_iload_1 h dX12_takesRow_2 ?_
    refine st_aload_0 h dX12_takesRow_3 ?_
    refine gX12_22 h fl_X12_220 dX12_takesRow_4 (congrArg Prod.fst kM_0) ?_
    refine st_icmp_ge (t := 33) h dX12_takesRow_7 (by decide) (fun q1 => ?_) (fun q1 => ?_)
    · have hF := pI q1 hF
      cases hF
      exact st_vret h hr dX12_takesRow_33
    · have hF := qI q1 hF
      refine st_aload_0 h dX12_takesRow_10 ?_
      refine gX12_14 h fl_X12_17 dX12_takesRow_11 (congrArg Prod.fst kM_0) ?_
      refine st_bipush (v := 7) h dX12_takesRow_14 (by decide) ?_
      refine st_iload_1 h dX12_takesRow_16 ?_
      refine st_imul h dX12_takesRow_17 ?_
      refine st_ic_1 h dX12_takesRow_18 ?_
      refine st_iadd h dX12_takesRow_19 ?_
      refine st_aload_0 h dX12_takesRow_20 ?_
      refine gX12_35 h fl_X12_61 dX12_takesRow_21 (congrArg Prod.fst kM_0) ?_
      refine st_iload_1 h dX12_takesRow_24 ?_
      obtain ⟨g1, hF⟩ := gI hF
      refine iaM h dX12_takesRow_25 kM_16 g1 ?_
      obtain ⟨g2, hF⟩ := gI hF
      obtain ⟨s1, hs1, hF⟩ := swI hF
      refine isM h dX12_takesRow_26 kM_2 g2 hs1 ?_
      refine st_iinc_1 (y := i1 + 1) h dX12_takesRow_27 (ii_1 _) ?_
      refine st_goto (t := 2) h dX12_takesRow_30 (by decide) ?_
      exact st_sub (ls_s (ls_s ls_e)) (ih s1 (i1 + 1) z hF)
set_option maxRecDepth 100000 in
set_option maxHeartbeats 4000000 in
theorem w_X12_takesRow {l : Launch} {G : Gv} {σ : Sto} {z : Sto} (hF : F_X12_takesRow σ  = some z) : Con l yX12_takesRow cX12_takesRow 2 none 1 G shM νM [.ref 0] (ovM σ) none (ovM z) := by
  rw [F_X12_takesRow] at hF
  refine Con_enter (own := RX12) 1 (lv := [some (.ref 0), none]) mi_X12_takesRow.2.2.2 rfl (Nat.le_of_ble_eq_true rfl) rfl (fun h hr hin => ?_)
  refine st_ic_0 h dX12_takesRow_0 ?_
  refine st_istore_1 h dX12_takesRow_1 ?_
  exact st_sub (ls_s (ls_s ls_e)) (w_X12_takesRow_2 h hr FU σ 0 z hF)
set_option maxRecDepth 100000 in
set_option maxHeartbeats 4000000 in
theorem w_X12_isSame_4 {p : Program} {l : Launch} {e : Env} {s : State} {m : MethodId} {args : Array Value} {below : List Frame} {meth : Method} {c : Code} {G : Gv} (h : Cx p s m args meth c G cX12_isSame 3 RX12) (hr : meth.sig.returnType = (some .boolean)) : ∀ (n : Nat) (σ : Sto) (i1 : Int32) (i2 : Int32) (z : Int32), F_X12_isSame_4 n σ i1 i2 = some z → AW p l e (rmD 2 0 0) s m args below meth c (MQ below (QcR G shM νM (some (.int z)) (ovM σ)) args s 0 0 (gA G)) 0 0 G 3 4 [some (.ref 0), some (.int i1), some (.int i2)] [] shM νM (ovM σ) := by
  intro n
  induction n with
  | zero => intro σ i1 i2 z hF; cases hF
  | succ n ih =>
    intro σ i1 i2 z hF
    rw [F_X12_isSame_4] at hF
    refine st_iload_2 h dX12_isSame_4 ?_
    refine st_aload_0 h dX12_isSame_5 ?_
    refine gX12_22 h fl_X12_220 dX12_isSame_6 (congrArg Prod.fst kM_0) ?_
    refine st_icmp_ge (t := 43) h dX12_isSame_9 (by decide) (fun q1 => ?_) (fun q1 => ?_)
    · have hF := pI q1 hF
      refine st_iload_1 h dX12_isSame_43 ?_
      obtain ⟨g1, hF⟩ := gI hF
      cases hF
      exact st_zret h hr g1 dX12_isSame_44
    · have hF := qI q1 hF
      refine st_iload_1 h dX12_isSame_12 ?_
      refine st_if_eq (t := 35) h dX12_isSame_13 (by decide) (fun q2 => ?_) (fun q2 => ?_)
      · have hF := pI q2 hF
        refine st_ic_0 h dX12_isSame_35 ?_
        refine st_istore_1 h dX12_isSame_36 ?_
        refine st_iinc_2 (y := i2 + 1) h dX12_isSame_37 (ii_1 _) ?_
        refine st_goto (t := 4) h dX12_isSame_40 (by decide) ?_
        exact st_sub (ls_s (ls_s (ls_s ls_e))) (ih σ 0 (i2 + 1) z hF)
      · have hF := qI q2 hF
        refine st_aload_0 h dX12_isSame_16 ?_
        refine st_iload_2 h dX12_isSame_17 ?_
        refine st_ic_1 h dX12_isSame_18 ?_
        obtain ⟨x1, hx1, hF⟩ := bI hF
        refine st_cVi (vs := [.int i2, .int 1]) (st := []) h (w_X12_of hx1) mi_X12_of mv_X12_of ml_X12_236 dX12_isSame_19 kM_0 rfl ⟨Nat.le_of_ble_eq_true rfl, Nat.le_of_ble_eq_true rfl⟩ (Nat.le_of_ble_eq_true rfl) rfl ?_
        refine st_aload_0 h dX12_isSame_22 ?_
        refine st_iload_2 h dX12_isSame_23 ?_
        refine st_ic_0 h dX12_isSame_24 ?_
        obtain ⟨x2, hx2, hF⟩ := bI hF
        refine st_cVi (vs := [.int i2, .int 0]) (st := [.int x1]) h (w_X12_of hx2) mi_X12_of mv_X12_of ml_X12_236 dX12_isSame_25 kM_0 rfl ⟨Nat.le_of_ble_eq_true rfl, Nat.le_of_ble_eq_true rfl⟩ (Nat.le_of_ble_eq_true rfl) rfl ?_
        refine st_icmp_ne (t := 35) h dX12_isSame_28 (by decide) (fun q3 => ?_) (fun q3 => ?_)
        · have hF := qI q3 hF
          refine st_ic_0 h dX12_isSame_35 ?_
          refine st_istore_1 h dX12_isSame_36 ?_
          refine st_iinc_2 (y := i2 + 1) h dX12_isSame_37 (ii_1 _) ?_
          refine st_goto (t := 4) h dX12_isSame_40 (by decide) ?_
          exact st_sub (ls_s (ls_s (ls_s ls_e))) (ih σ 0 (i2 + 1) z hF)
        · have hF := pI q3 hF
          refine st_ic_1 h dX12_isSame_31 ?_
          refine st_goto (t := 36) h dX12_isSame_32 (by decide) ?_
          refine st_istore_1 h dX12_isSame_36 ?_
          refine st_iinc_2 (y := i2 + 1) h dX12_isSame_37 (ii_1 _) ?_
          refine st_goto (t := 4) h dX12_isSame_40 (by decide) ?_
          exact st_sub (ls_s (ls_s (ls_s ls_e))) (ih σ 1 (i2 + 1) z hF)
set_option maxRecDepth 100000 in
set_option maxHeartbeats 4000000 in
theorem w_X12_isSame {l : Launch} {G : Gv} {σ : Sto} {z : Int32} (hF : F_X12_isSame σ  = some z) : Con l yX12_isSame cX12_isSame 3 (some .boolean) 2 G shM νM [.ref 0] (ovM σ) (some (.int z)) (ovM σ) := by
  rw [F_X12_isSame] at hF
  refine Con_enter (own := RX12) 2 (lv := [some (.ref 0), none, none]) mi_X12_isSame.2.2.2 rfl (Nat.le_of_ble_eq_true rfl) rfl (fun h hr hin => ?_)
  refine st_ic_1 h dX12_isSame_0 ?_
  refine st_istore_1 h dX12_isSame_1 ?_
  refine st_ic_0 h dX12_isSame_2 ?_
  refine st_istore_2 h dX12_isSame_3 ?_
  exact st_sub (ls_s (ls_s (ls_s ls_e))) (w_X12_isSame_4 h hr FU σ 1 0 z hF)
set_option maxRecDepth 100000 in
set_option maxHeartbeats 4000000 in
theorem w_X12_path_21 {p : Program} {l : Launch} {e : Env} {s : State} {m : MethodId} {args : Array Value} {below : List Frame} {meth : Method} {c : Code} {G : Gv} (h : Cx p s m args meth c G cX12_path 7 RX12) (hr : meth.sig.returnType = (some .int)) : ∀ (σ : Sto) (z : (Int32 × Sto)), F_X12_path_21 σ  = some z → AW p l e (rmD 11 0 0) s m args below meth c (MQ below (QcR G shM νM (some (.int z.1)) (ovM z.2)) args s 0 0 (gA G)) 0 0 G 7 21 [some (.ref 0), none, none, none, none, none, none] [] shM νM (ovM σ) := by
  intro σ z hF
  rw [F_X12_path_21] at hF
  refine st_aload_0 h dX12_path_21 ?_
  refine st_ic_1 h dX12_path_22 ?_
  obtain ⟨x1, hx1, hF⟩ := bI hF
  refine st_cVi (vs := [.int 1]) (st := []) h (w_X12_refused hx1) mi_X12_refused mv_X12_refused ml_X12_213 dX12_path_23 kM_0 rfl ⟨Nat.le_of_ble_eq_true rfl, Nat.le_of_ble_eq_true rfl⟩ (Nat.le_of_ble_eq_true rfl) rfl ?_
  cases hF
  exact st_iret h hr dX12_path_26
set_option maxRecDepth 100000 in
set_option maxHeartbeats 4000000 in
theorem w_X12_path_155 {p : Program} {l : Launch} {e : Env} {s : State} {m : MethodId} {args : Array Value} {below : List Frame} {meth : Method} {c : Code} {G : Gv} (h : Cx p s m args meth c G cX12_path 7 RX12) (hr : meth.sig.returnType = (some .int)) : ∀ (σ : Sto) (e1 : Int32) (z : (Int32 × Sto)), F_X12_path_155 σ e1 = some z → AW p l e (rmD 11 0 0) s m args below meth c (MQ below (QcR G shM νM (some (.int z.1)) (ovM z.2)) args s 0 0 (gA G)) 0 0 G 7 155 [none, none, none, none, none, none, none] [.int e1, .ref 0] shM νM (ovM σ) := by
  intro σ e1 z hF
  rw [F_X12_path_155] at hF
  obtain ⟨x1, hx1, hF⟩ := bI hF
  refine st_cVi (vs := [.int e1]) (st := []) h (w_X12_tells hx1) mi_X12_tells mv_X12_tells ml_X12_233 dX12_path_155 kM_0 rfl ⟨Nat.le_of_ble_eq_true rfl, Nat.le_of_ble_eq_true rfl⟩ (Nat.le_of_ble_eq_true rfl) rfl ?_
  cases hF
  exact st_iret h hr dX12_path_158
set_option maxRecDepth 100000 in
set_option maxHeartbeats 4000000 in
theorem w_X12_path_100 {p : Program} {l : Launch} {e : Env} {s : State} {m : MethodId} {args : Array Value} {below : List Frame} {meth : Method} {c : Code} {G : Gv} (h : Cx p s m args meth c G cX12_path 7 RX12) (hr : meth.sig.returnType = (some .int)) {k58 : Sto → Int32 → Int32 → Int32 → Int32 → Int32 → Int32 → Option (Int32 × Sto)} (H58 : ∀ (σ : Sto) (i1 : Int32) (i2 : Int32) (i3 : Int32) (i4 : Int32) (i5 : Int32) (i6 : Int32) (z : (Int32 × Sto)), k58 σ i1 i2 i3 i4 i5 i6 = some z → AW p l e (rmD 11 0 0) s m args below meth c (MQ below (QcR G shM νM (some (.int z.1)) (ovM z.2)) args s 0 0 (gA G)) 0 0 G 7 58 [some (.ref 0), some (.int i1), some (.int i2), some (.int i3), some (.int i4), some (.int i5), some (.int i6)] [] shM νM (ovM σ)) : ∀ (σ : Sto) (i1 : Int32) (i2 : Int32) (i3 : Int32) (i4 : Int32) (i6 : Int32) (e0 : Int32) (e1 : Int32) (z : (Int32 × Sto)), F_X12_path_100 k58 σ i1 i2 i3 i4 i6 e0 e1 = some z → AW p l e (rmD 11 0 0) s m args below meth c (MQ below (QcR G shM νM (some (.int z.1)) (ovM z.2)) args s 0 0 (gA G)) 0 0 G 7 100 [some (.ref 0), some (.int i1), some (.int i2), some (.int i3), some (.int i4), none, some (.int i6)] [.int e1, .int e0] shM νM (ovM σ) := by
  intro σ i1 i2 i3 i4 i6 e0 e1 z hF
  rw [F_X12_path_100] at hF
  refine st_iadd h dX12_path_100 ?_
  refine st_istore_5 h dX12_path_101 ?_
  refine st_aload_0 h dX12_path_103 ?_
  obtain ⟨x1, hx1, hF⟩ := bI hF
  refine st_cVv (vs := []) (st := []) h (w_X12_ends hx1) mi_X12_ends mv_X12_ends ml_X12_362 dX12_path_104 kM_0 rfl ⟨Nat.le_of_ble_eq_true rfl, Nat.le_of_ble_eq_true rfl⟩ (Nat.le_of_ble_eq_true rfl) rfl ?_
  refine st_iinc_6 (y := i6 + 1) h dX12_path_107 (ii_1 _) ?_
  refine st_goto (t := 58) h dX12_path_110 (by decide) ?_
  exact st_sub (ls_s (ls_s (ls_s (ls_s (ls_s (ls_s (ls_s ls_e))))))) (H58 x1 i1 i2 i3 i4 (e0 + e1) (i6 + 1) z hF)
set_option maxRecDepth 100000 in
set_option maxHeartbeats 4000000 in
theorem w_X12_path_58 {p : Program} {l : Launch} {e : Env} {s : State} {m : MethodId} {args : Array Value} {below : List Frame} {meth : Method} {c : Code} {G : Gv} (h : Cx p s m args meth c G cX12_path 7 RX12) (hr : meth.sig.returnType = (some .int)) : ∀ (n : Nat) (σ : Sto) (i1 : Int32) (i2 : Int32) (i3 : Int32) (i4 : Int32) (i5 : Int32) (i6 : Int32) (z : (Int32 × Sto)), F_X12_path_58 n σ i1 i2 i3 i4 i5 i6 = some z → AW p l e (rmD 11 0 0) s m args below meth c (MQ below (QcR G shM νM (some (.int z.1)) (ovM z.2)) args s 0 0 (gA G)) 0 0 G 7 58 [some (.ref 0), some (.int i1), some (.int i2), some (.int i3), some (.int i4), some (.int i5), some (.int i6)] [] shM νM (ovM σ) := by
  intro n
  induction n with
  | zero => intro σ i1 i2 i3 i4 i5 i6 z hF; cases hF
  | succ n ih =>
    intro σ i1 i2 i3 i4 i5 i6 z hF
    rw [F_X12_path_58] at hF
    refine st_iload_6 h dX12_path_58 ?_
    refine st_iload_1 h dX12_path_60 ?_
    refine st_icmp_ge (t := 113) h dX12_path_61 (by decide) (fun q1 => ?_) (fun q1 => ?_)
    · have hF := pI q1 hF
      refine st_aload_0 h dX12_path_113 ?_
      refine st_ic_0 h dX12_path_114 ?_
      obtain ⟨x1, hx1, hF⟩ := bI hF
      refine st_cVi (vs := [.int 0]) (st := []) h (w_X12_off hx1) mi_X12_off mv_X12_off ml_X12_269 dX12_path_115 kM_0 rfl ⟨Nat.le_of_ble_eq_true rfl, Nat.le_of_ble_eq_true rfl⟩ (Nat.le_of_ble_eq_true rfl) rfl ?_
      refine st_istore_6 h dX12_path_118 ?_
      refine st_aload_0 h dX12_path_120 ?_
      obtain ⟨x2, hx2, hF⟩ := bI hF
      refine st_cVv (vs := []) (st := []) h (w_X12_putsBack hx2) mi_X12_putsBack mv_X12_putsBack ml_X12_365 dX12_path_121 kM_0 rfl ⟨Nat.le_of_ble_eq_true rfl, Nat.le_of_ble_eq_true rfl⟩ (Nat.le_of_ble_eq_true rfl) rfl ?_
      refine st_aload_0 h dX12_path_124 ?_
      refine st_iload_2 h dX12_path_125 ?_
      refine st_if_ne (t := 133) h dX12_path_126 (by decide) (fun q2 => ?_) (fun q2 => ?_)
      · have hF := qI q2 hF
        refine st_iload_2 h dX12_path_133 ?_
        refine st_ic_1 h dX12_path_134 ?_
        refine st_icmp_ne (t := 143) h dX12_path_135 (by decide) (fun q3 => ?_) (fun q3 => ?_)
        · have hF := qI q3 hF
          refine st_iload_2 h dX12_path_143 ?_
          refine st_ic_2 h dX12_path_144 ?_
          refine st_icmp_ne (t := 153) h dX12_path_145 (by decide) (fun q4 => ?_) (fun q4 => ?_)
          · have hF := qI q4 hF
            refine st_iload_5 h dX12_path_153 ?_
            exact st_sub (ls_n (ls_n (ls_n (ls_n (ls_n (ls_n (ls_n ls_e))))))) (w_X12_path_155 h hr x2 i5 z hF)
          · have hF := pI q4 hF
            refine st_iload_6 h dX12_path_148 ?_
            refine st_goto (t := 155) h dX12_path_150 (by decide) ?_
            exact st_sub (ls_n (ls_n (ls_n (ls_n (ls_n (ls_n (ls_n ls_e))))))) (w_X12_path_155 h hr x2 x1 z hF)
        · have hF := pI q3 hF
          refine st_iload_4 h dX12_path_138 ?_
          refine st_goto (t := 155) h dX12_path_140 (by decide) ?_
          exact st_sub (ls_n (ls_n (ls_n (ls_n (ls_n (ls_n (ls_n ls_e))))))) (w_X12_path_155 h hr x2 i4 z hF)
      · have hF := pI q2 hF
        refine st_iload_3 h dX12_path_129 ?_
        refine st_goto (t := 155) h dX12_path_130 (by decide) ?_
        exact st_sub (ls_n (ls_n (ls_n (ls_n (ls_n (ls_n (ls_n ls_e))))))) (w_X12_path_155 h hr x2 i3 z hF)
    · have hF := qI q1 hF
      refine st_iload_3 h dX12_path_64 ?_
      refine st_aload_0 h dX12_path_65 ?_
      refine st_ic_0 h dX12_path_66 ?_
      obtain ⟨x3, hx3, hF⟩ := bI hF
      refine st_cVi (vs := [.int 0]) (st := [.int i3]) h (w_X12_finds hx3) mi_X12_finds mv_X12_finds ml_X12_305 dX12_path_67 kM_0 rfl ⟨Nat.le_of_ble_eq_true rfl, Nat.le_of_ble_eq_true rfl⟩ (Nat.le_of_ble_eq_true rfl) rfl ?_
      refine st_iadd h dX12_path_70 ?_
      refine st_istore_3 h dX12_path_71 ?_
      refine st_aload_0 h dX12_path_72 ?_
      obtain ⟨x4, hx4, hF⟩ := bI hF
      refine st_cVv (vs := []) (st := []) h (w_X12_takesRow hx4) mi_X12_takesRow mv_X12_takesRow ml_X12_380 dX12_path_73 kM_0 rfl ⟨Nat.le_of_ble_eq_true rfl, Nat.le_of_ble_eq_true rfl⟩ (Nat.le_of_ble_eq_true rfl) rfl ?_
      refine st_iload_4 h dX12_path_76 ?_
      refine st_aload_0 h dX12_path_78 ?_
      refine st_ic_1 h dX12_path_79 ?_
      obtain ⟨x5, hx5, hF⟩ := bI hF
      refine st_cVi (vs := [.int 1]) (st := [.int i4]) h (w_X12_all hx5) mi_X12_all mv_X12_all ml_X12_328 dX12_path_80 kM_0 rfl ⟨Nat.le_of_ble_eq_true rfl, Nat.le_of_ble_eq_true rfl⟩ (Nat.le_of_ble_eq_true rfl) rfl ?_
      refine st_iadd h dX12_path_83 ?_
      refine st_istore_4 h dX12_path_84 ?_
      refine st_iload_5 h dX12_path_86 ?_
      refine st_aload_0 h dX12_path_88 ?_
      obtain ⟨x6, hx6, hF⟩ := bI hF
      refine st_cVi (vs := []) (st := [.int i5]) h (w_X12_isSame hx6) mi_X12_isSame mv_X12_isSame ml_X12_383 dX12_path_89 kM_0 rfl ⟨Nat.le_of_ble_eq_true rfl, Nat.le_of_ble_eq_true rfl⟩ (Nat.le_of_ble_eq_true rfl) rfl ?_
      refine st_if_eq (t := 99) h dX12_path_92 (by decide) (fun q5 => ?_) (fun q5 => ?_)
      · have hF := pI q5 hF
        refine st_ic_1 h dX12_path_99 ?_
        exact st_sub (ls_s (ls_s (ls_s (ls_s (ls_s (ls_n (ls_s ls_e))))))) (w_X12_path_100 h hr ih x4 i1 i2 (i3 + x3.1) (i4 + x5) i6 i5 1 z hF)
      · have hF := qI q5 hF
        refine st_ic_0 h dX12_path_95 ?_
        refine st_goto (t := 100) h dX12_path_96 (by decide) ?_
        exact st_sub (ls_s (ls_s (ls_s (ls_s (ls_s (ls_n (ls_s ls_e))))))) (w_X12_path_100 h hr ih x4 i1 i2 (i3 + x3.1) (i4 + x5) i6 i5 0 z hF)
set_option maxRecDepth 100000 in
set_option maxHeartbeats 4000000 in
theorem w_X12_path {l : Launch} {G : Gv} {σ : Sto} {i1 : Int32} {i2 : Int32} {z : (Int32 × Sto)} (hF : F_X12_path σ i1 i2 = some z) : Con l yX12_path cX12_path 7 (some .int) 11 G shM νM [.ref 0, .int i1, .int i2] (ovM σ) (some (.int z.1)) (ovM z.2) := by
  rw [F_X12_path] at hF
  refine Con_enter (own := RX12) 4 (lv := [some (.ref 0), some (.int i1), some (.int i2), none, none, none, none]) mi_X12_path.2.2.2 rfl (Nat.le_of_ble_eq_true rfl) rfl (fun h hr hin => ?_)
  refine st_aload_0 h dX12_path_0 ?_
  refine st_ic_0 h dX12_path_1 ?_
  obtain ⟨s1, hs1, hF⟩ := swI hF
  refine pX12_0 h fl_X12_73 dX12_path_2 (congrArg Prod.fst kM_0) hs1 ?_
  refine st_aload_0 h dX12_path_5 ?_
  refine gX12_25 h fl_X12_229 dX12_path_6 (congrArg Prod.fst kM_0) ?_
  refine st_if_eq (t := 21) h dX12_path_9 (by decide) (fun q1 => ?_) (fun q1 => ?_)
  · have hF := pI q1 hF
    exact st_sub (ls_s (ls_n (ls_n (ls_n (ls_n (ls_n (ls_n ls_e))))))) (w_X12_path_21 h hr s1  z hF)
  · have hF := qI q1 hF
    refine st_iload_2 h dX12_path_12 ?_
    refine st_ic_0 h dX12_path_13 ?_
    refine st_ic_3 h dX12_path_14 ?_
    obtain ⟨x1, hx1, hF⟩ := bI hF
    refine st_cSi (vs := [.int i2, .int 0, .int 3]) (st := []) h (w_X12_in hx1) mi_X12_in ms_X12_in ml_X12_94 dX12_path_15 rfl ⟨Nat.le_of_ble_eq_true rfl, Nat.le_of_ble_eq_true rfl⟩ (Nat.le_of_ble_eq_true rfl) rfl ?_
    refine st_if_ne (t := 27) h dX12_path_18 (by decide) (fun q2 => ?_) (fun q2 => ?_)
    · have hF := qI q2 hF
      refine st_iload_1 h dX12_path_27 ?_
      refine st_ic_1 h dX12_path_28 ?_
      refine st_bipush (v := 8) h dX12_path_29 (by decide) ?_
      obtain ⟨x2, hx2, hF⟩ := bI hF
      refine st_cSi (vs := [.int i1, .int 1, .int 8]) (st := []) h (w_X12_in hx2) mi_X12_in ms_X12_in ml_X12_94 dX12_path_31 rfl ⟨Nat.le_of_ble_eq_true rfl, Nat.le_of_ble_eq_true rfl⟩ (Nat.le_of_ble_eq_true rfl) rfl ?_
      refine st_if_ne (t := 43) h dX12_path_34 (by decide) (fun q3 => ?_) (fun q3 => ?_)
      · have hF := qI q3 hF
        refine st_ic_0 h dX12_path_43 ?_
        refine st_istore_3 h dX12_path_44 ?_
        refine st_ic_0 h dX12_path_45 ?_
        refine st_istore_4 h dX12_path_46 ?_
        refine st_ic_0 h dX12_path_48 ?_
        refine st_istore_5 h dX12_path_49 ?_
        refine st_aload_0 h dX12_path_51 ?_
        obtain ⟨x3, hx3, hF⟩ := bI hF
        refine st_cVv (vs := []) (st := []) h (w_X12_keepsAside hx3) mi_X12_keepsAside mv_X12_keepsAside ml_X12_359 dX12_path_52 kM_0 rfl ⟨Nat.le_of_ble_eq_true rfl, Nat.le_of_ble_eq_true rfl⟩ (Nat.le_of_ble_eq_true rfl) rfl ?_
        refine st_ic_0 h dX12_path_55 ?_
        refine st_istore_6 h dX12_path_56 ?_
        exact st_sub (ls_s (ls_s (ls_s (ls_s (ls_s (ls_s (ls_s ls_e))))))) (w_X12_path_58 h hr FU x3 i1 i2 0 0 0 0 z hF)
      · have hF := pI q3 hF
        refine st_aload_0 h dX12_path_37 ?_
        refine st_ic_2 h dX12_path_38 ?_
        obtain ⟨x4, hx4, hF⟩ := bI hF
        refine st_cVi (vs := [.int 2]) (st := []) h (w_X12_refused hx4) mi_X12_refused mv_X12_refused ml_X12_213 dX12_path_39 kM_0 rfl ⟨Nat.le_of_ble_eq_true rfl, Nat.le_of_ble_eq_true rfl⟩ (Nat.le_of_ble_eq_true rfl) rfl ?_
        cases hF
        exact st_iret h hr dX12_path_42
    · have hF := pI q2 hF
      exact st_sub (ls_s (ls_n (ls_n (ls_n (ls_n (ls_n (ls_n ls_e))))))) (w_X12_path_21 h hr s1  z hF)
set_option maxRecDepth 100000 in
set_option maxHeartbeats 4000000 in
theorem w_X12_reach_95 {p : Program} {l : Launch} {e : Env} {s : State} {m : MethodId} {args : Array Value} {below : List Frame} {meth : Method} {c : Code} {G : Gv} (h : Cx p s m args meth c G cX12_reach 5 RX12) (hr : meth.sig.returnType = (some .int)) : ∀ (σ : Sto) (i2 : Int32) (z : (Int32 × Sto)), F_X12_reach_95 σ i2 = some z → AW p l e (rmD 11 0 0) s m args below meth c (MQ below (QcR G shM νM (some (.int z.1)) (ovM z.2)) args s 0 0 (gA G)) 0 0 G 5 95 [some (.ref 0), none, some (.int i2), none, none] [] shM νM (ovM σ) := by
  intro σ i2 z hF
  rw [F_X12_reach_95] at hF
  refine st_aload_0 h dX12_reach_95 ?_
  obtain ⟨x1, hx1, hF⟩ := bI hF
  refine st_cVv (vs := []) (st := []) h (w_X12_putsBack hx1) mi_X12_putsBack mv_X12_putsBack ml_X12_365 dX12_reach_96 kM_0 rfl ⟨Nat.le_of_ble_eq_true rfl, Nat.le_of_ble_eq_true rfl⟩ (Nat.le_of_ble_eq_true rfl) rfl ?_
  refine st_aload_0 h dX12_reach_99 ?_
  refine st_iload_2 h dX12_reach_100 ?_
  obtain ⟨x2, hx2, hF⟩ := bI hF
  refine st_cVi (vs := [.int i2]) (st := []) h (w_X12_tells hx2) mi_X12_tells mv_X12_tells ml_X12_233 dX12_reach_101 kM_0 rfl ⟨Nat.le_of_ble_eq_true rfl, Nat.le_of_ble_eq_true rfl⟩ (Nat.le_of_ble_eq_true rfl) rfl ?_
  cases hF
  exact st_iret h hr dX12_reach_104
set_option maxRecDepth 100000 in
set_option maxHeartbeats 4000000 in
theorem w_X12_reach_85 {p : Program} {l : Launch} {e : Env} {s : State} {m : MethodId} {args : Array Value} {below : List Frame} {meth : Method} {c : Code} {G : Gv} (h : Cx p s m args meth c G cX12_reach 5 RX12) (hr : meth.sig.returnType = (some .int)) {k43 : Sto → Int32 → Int32 → Int32 → Option (Int32 × Sto)} (H43 : ∀ (σ : Sto) (i1 : Int32) (i2 : Int32) (i3 : Int32) (z : (Int32 × Sto)), k43 σ i1 i2 i3 = some z → AW p l e (rmD 11 0 0) s m args below meth c (MQ below (QcR G shM νM (some (.int z.1)) (ovM z.2)) args s 0 0 (gA G)) 0 0 G 5 43 [some (.ref 0), some (.int i1), some (.int i2), some (.int i3), none] [] shM νM (ovM σ)) : ∀ (σ : Sto) (i1 : Int32) (i2 : Int32) (i3 : Int32) (z : (Int32 × Sto)), F_X12_reach_85 k43 σ i1 i2 i3 = some z → AW p l e (rmD 11 0 0) s m args below meth c (MQ below (QcR G shM νM (some (.int z.1)) (ovM z.2)) args s 0 0 (gA G)) 0 0 G 5 85 [some (.ref 0), some (.int i1), some (.int i2), some (.int i3), none] [] shM νM (ovM σ) := by
  intro σ i1 i2 i3 z hF
  rw [F_X12_reach_85] at hF
  refine st_aload_0 h dX12_reach_85 ?_
  obtain ⟨x1, hx1, hF⟩ := bI hF
  refine st_cVv (vs := []) (st := []) h (w_X12_ends hx1) mi_X12_ends mv_X12_ends ml_X12_362 dX12_reach_86 kM_0 rfl ⟨Nat.le_of_ble_eq_true rfl, Nat.le_of_ble_eq_true rfl⟩ (Nat.le_of_ble_eq_true rfl) rfl ?_
  refine st_iinc_3 (y := i3 + 1) h dX12_reach_89 (ii_1 _) ?_
  refine st_goto (t := 43) h dX12_reach_92 (by decide) ?_
  exact st_sub (ls_s (ls_s (ls_s (ls_s (ls_n ls_e))))) (H43 x1 i1 i2 (i3 + 1) z hF)
set_option maxRecDepth 100000 in
set_option maxHeartbeats 4000000 in
theorem w_X12_reach_66 {p : Program} {l : Launch} {e : Env} {s : State} {m : MethodId} {args : Array Value} {below : List Frame} {meth : Method} {c : Code} {G : Gv} (h : Cx p s m args meth c G cX12_reach 5 RX12) (hr : meth.sig.returnType = (some .int)) {k43 : Sto → Int32 → Int32 → Int32 → Option (Int32 × Sto)} (H43 : ∀ (σ : Sto) (i1 : Int32) (i2 : Int32) (i3 : Int32) (z : (Int32 × Sto)), k43 σ i1 i2 i3 = some z → AW p l e (rmD 11 0 0) s m args below meth c (MQ below (QcR G shM νM (some (.int z.1)) (ovM z.2)) args s 0 0 (gA G)) 0 0 G 5 43 [some (.ref 0), some (.int i1), some (.int i2), some (.int i3), none] [] shM νM (ovM σ)) : ∀ (σ : Sto) (i1 : Int32) (i2 : Int32) (i3 : Int32) (z : (Int32 × Sto)), F_X12_reach_66 k43 σ i1 i2 i3 = some z → AW p l e (rmD 11 0 0) s m args below meth c (MQ below (QcR G shM νM (some (.int z.1)) (ovM z.2)) args s 0 0 (gA G)) 0 0 G 5 66 [some (.ref 0), some (.int i1), some (.int i2), some (.int i3), none] [] shM νM (ovM σ) := by
  intro σ i1 i2 i3 z hF
  rw [F_X12_reach_66] at hF
  refine st_aload_0 h dX12_reach_66 ?_
  refine st_ic_0 h dX12_reach_67 ?_
  obtain ⟨x1, hx1, hF⟩ := bI hF
  refine st_cVi (vs := [.int 0]) (st := []) h (w_X12_finds hx1) mi_X12_finds mv_X12_finds ml_X12_305 dX12_reach_68 kM_0 rfl ⟨Nat.le_of_ble_eq_true rfl, Nat.le_of_ble_eq_true rfl⟩ (Nat.le_of_ble_eq_true rfl) rfl ?_
  refine st_istore_4 h dX12_reach_71 ?_
  refine st_iload_4 h dX12_reach_73 ?_
  refine st_ldcw h ck_X12_282 dX12_reach_75 ?_
  refine st_icmp_le (t := 85) h dX12_reach_78 (by decide) (fun q1 => ?_) (fun q1 => ?_)
  · have hF := pI q1 hF
    exact st_sub (ls_s (ls_s (ls_s (ls_s (ls_n ls_e))))) (w_X12_reach_85 h hr H43 x1.2 i1 i2 i3 z hF)
  · have hF := qI q1 hF
    refine st_aload_0 h dX12_reach_81 ?_
    obtain ⟨x2, hx2, hF⟩ := bI hF
    refine st_cVv (vs := []) (st := []) h (w_X12_takesRow hx2) mi_X12_takesRow mv_X12_takesRow ml_X12_380 dX12_reach_82 kM_0 rfl ⟨Nat.le_of_ble_eq_true rfl, Nat.le_of_ble_eq_true rfl⟩ (Nat.le_of_ble_eq_true rfl) rfl ?_
    exact st_sub (ls_s (ls_s (ls_s (ls_s (ls_n ls_e))))) (w_X12_reach_85 h hr H43 x2 i1 i2 i3 z hF)
set_option maxRecDepth 100000 in
set_option maxHeartbeats 4000000 in
theorem w_X12_reach_43 {p : Program} {l : Launch} {e : Env} {s : State} {m : MethodId} {args : Array Value} {below : List Frame} {meth : Method} {c : Code} {G : Gv} (h : Cx p s m args meth c G cX12_reach 5 RX12) (hr : meth.sig.returnType = (some .int)) : ∀ (n : Nat) (σ : Sto) (i1 : Int32) (i2 : Int32) (i3 : Int32) (z : (Int32 × Sto)), F_X12_reach_43 n σ i1 i2 i3 = some z → AW p l e (rmD 11 0 0) s m args below meth c (MQ below (QcR G shM νM (some (.int z.1)) (ovM z.2)) args s 0 0 (gA G)) 0 0 G 5 43 [some (.ref 0), some (.int i1), some (.int i2), some (.int i3), none] [] shM νM (ovM σ) := by
  intro n
  induction n with
  | zero => intro σ i1 i2 i3 z hF; cases hF
  | succ n ih =>
    intro σ i1 i2 i3 z hF
    rw [F_X12_reach_43] at hF
    refine st_iload_3 h dX12_reach_43 ?_
    refine st_bipush (v := 8) h dX12_reach_44 (by decide) ?_
    refine st_icmp_gt (t := 95) h dX12_reach_46 (by decide) (fun q1 => ?_) (fun q1 => ?_)
    · have hF := pI q1 hF
      exact st_sub (ls_s (ls_n (ls_s (ls_n (ls_n ls_e))))) (w_X12_reach_95 h hr σ i2 z hF)
    · have hF := qI q1 hF
      refine st_iload_2 h dX12_reach_49 ?_
      refine st_bipush (v := (-2)) h dX12_reach_50 (by decide) ?_
      refine st_icmp_ne (t := 95) h dX12_reach_52 (by decide) (fun q2 => ?_) (fun q2 => ?_)
      · have hF := qI q2 hF
        exact st_sub (ls_s (ls_n (ls_s (ls_n (ls_n ls_e))))) (w_X12_reach_95 h hr σ i2 z hF)
      · have hF := pI q2 hF
        refine st_aload_0 h dX12_reach_55 ?_
        refine st_ic_0 h dX12_reach_56 ?_
        obtain ⟨x1, hx1, hF⟩ := bI hF
        refine st_cVi (vs := [.int 0]) (st := []) h (w_X12_off hx1) mi_X12_off mv_X12_off ml_X12_269 dX12_reach_57 kM_0 rfl ⟨Nat.le_of_ble_eq_true rfl, Nat.le_of_ble_eq_true rfl⟩ (Nat.le_of_ble_eq_true rfl) rfl ?_
        refine st_iload_1 h dX12_reach_60 ?_
        refine st_icmp_gt (t := 66) h dX12_reach_61 (by decide) (fun q3 => ?_) (fun q3 => ?_)
        · have hF := pI q3 hF
          exact st_sub (ls_s (ls_s (ls_s (ls_s (ls_n ls_e))))) (w_X12_reach_66 h hr ih σ i1 i2 i3 z hF)
        · have hF := qI q3 hF
          refine st_iload_3 h dX12_reach_64 ?_
          refine st_istore_2 h dX12_reach_65 ?_
          exact st_sub (ls_s (ls_s (ls_s (ls_s (ls_n ls_e))))) (w_X12_reach_66 h hr ih σ i1 i3 i3 z hF)
set_option maxRecDepth 100000 in
set_option maxHeartbeats 4000000 in
theorem w_X12_reach {l : Launch} {G : Gv} {σ : Sto} {i1 : Int32} {z : (Int32 × Sto)} (hF : F_X12_reach σ i1 = some z) : Con l yX12_reach cX12_reach 5 (some .int) 11 G shM νM [.ref 0, .int i1] (ovM σ) (some (.int z.1)) (ovM z.2) := by
  rw [F_X12_reach] at hF
  refine Con_enter (own := RX12) 3 (lv := [some (.ref 0), some (.int i1), none, none, none]) mi_X12_reach.2.2.2 rfl (Nat.le_of_ble_eq_true rfl) rfl (fun h hr hin => ?_)
  refine st_aload_0 h dX12_reach_0 ?_
  refine st_ic_0 h dX12_reach_1 ?_
  obtain ⟨s1, hs1, hF⟩ := swI hF
  refine pX12_0 h fl_X12_73 dX12_reach_2 (congrArg Prod.fst kM_0) hs1 ?_
  refine st_aload_0 h dX12_reach_5 ?_
  refine gX12_25 h fl_X12_229 dX12_reach_6 (congrArg Prod.fst kM_0) ?_
  refine st_if_ne (t := 18) h dX12_reach_9 (by decide) (fun q1 => ?_) (fun q1 => ?_)
  · have hF := qI q1 hF
    refine st_iload_1 h dX12_reach_18 ?_
    refine st_ic_0 h dX12_reach_19 ?_
    refine st_bipush (v := 80) h dX12_reach_20 (by decide) ?_
    obtain ⟨x1, hx1, hF⟩ := bI hF
    refine st_cSi (vs := [.int i1, .int 0, .int 80]) (st := []) h (w_X12_in hx1) mi_X12_in ms_X12_in ml_X12_94 dX12_reach_22 rfl ⟨Nat.le_of_ble_eq_true rfl, Nat.le_of_ble_eq_true rfl⟩ (Nat.le_of_ble_eq_true rfl) rfl ?_
    refine st_if_ne (t := 34) h dX12_reach_25 (by decide) (fun q2 => ?_) (fun q2 => ?_)
    · have hF := qI q2 hF
      refine st_bipush (v := (-2)) h dX12_reach_34 (by decide) ?_
      refine st_istore_2 h dX12_reach_36 ?_
      refine st_aload_0 h dX12_reach_37 ?_
      obtain ⟨x2, hx2, hF⟩ := bI hF
      refine st_cVv (vs := []) (st := []) h (w_X12_keepsAside hx2) mi_X12_keepsAside mv_X12_keepsAside ml_X12_359 dX12_reach_38 kM_0 rfl ⟨Nat.le_of_ble_eq_true rfl, Nat.le_of_ble_eq_true rfl⟩ (Nat.le_of_ble_eq_true rfl) rfl ?_
      refine st_ic_0 h dX12_reach_41 ?_
      refine st_istore_3 h dX12_reach_42 ?_
      exact st_sub (ls_s (ls_s (ls_s (ls_s (ls_n ls_e))))) (w_X12_reach_43 h hr FU x2 i1 (-2) 0 z hF)
    · have hF := pI q2 hF
      refine st_aload_0 h dX12_reach_28 ?_
      refine st_ic_2 h dX12_reach_29 ?_
      obtain ⟨x3, hx3, hF⟩ := bI hF
      refine st_cVi (vs := [.int 2]) (st := []) h (w_X12_refused hx3) mi_X12_refused mv_X12_refused ml_X12_213 dX12_reach_30 kM_0 rfl ⟨Nat.le_of_ble_eq_true rfl, Nat.le_of_ble_eq_true rfl⟩ (Nat.le_of_ble_eq_true rfl) rfl ?_
      cases hF
      exact st_iret h hr dX12_reach_33
  · have hF := pI q1 hF
    refine st_aload_0 h dX12_reach_12 ?_
    refine st_ic_1 h dX12_reach_13 ?_
    obtain ⟨x4, hx4, hF⟩ := bI hF
    refine st_cVi (vs := [.int 1]) (st := []) h (w_X12_refused hx4) mi_X12_refused mv_X12_refused ml_X12_213 dX12_reach_14 kM_0 rfl ⟨Nat.le_of_ble_eq_true rfl, Nat.le_of_ble_eq_true rfl⟩ (Nat.le_of_ble_eq_true rfl) rfl ?_
    cases hF
    exact st_iret h hr dX12_reach_17
set_option maxRecDepth 100000 in
set_option maxHeartbeats 4000000 in
theorem w_X12_next {l : Launch} {G : Gv} {σ : Sto} {z : (Int32 × Sto)} (hF : F_X12_next σ  = some z) : Con l yX12_next cX12_next 2 (some .int) 11 G shM νM [.ref 0] (ovM σ) (some (.int z.1)) (ovM z.2) := by
  rw [F_X12_next] at hF
  refine Con_enter (own := RX12) 1 (lv := [some (.ref 0), none]) mi_X12_next.2.2.2 rfl (Nat.le_of_ble_eq_true rfl) rfl (fun h hr hin => ?_)
  refine st_aload_0 h dX12_next_0 ?_
  refine st_ic_0 h dX12_next_1 ?_
  obtain ⟨s1, hs1, hF⟩ := swI hF
  refine pX12_0 h fl_X12_73 dX12_next_2 (congrArg Prod.fst kM_0) hs1 ?_
  refine st_aload_0 h dX12_next_5 ?_
  refine gX12_25 h fl_X12_229 dX12_next_6 (congrArg Prod.fst kM_0) ?_
  refine st_if_ne (t := 18) h dX12_next_9 (by decide) (fun q1 => ?_) (fun q1 => ?_)
  · have hF := qI q1 hF
    refine st_aload_0 h dX12_next_18 ?_
    obtain ⟨x1, hx1, hF⟩ := bI hF
    refine st_cVv (vs := []) (st := []) h (w_X12_keepsAside hx1) mi_X12_keepsAside mv_X12_keepsAside ml_X12_359 dX12_next_19 kM_0 rfl ⟨Nat.le_of_ble_eq_true rfl, Nat.le_of_ble_eq_true rfl⟩ (Nat.le_of_ble_eq_true rfl) rfl ?_
    refine st_aload_0 h dX12_next_22 ?_
    obtain ⟨x2, hx2, hF⟩ := bI hF
    refine st_cVv (vs := []) (st := []) h (w_X12_ends hx2) mi_X12_ends mv_X12_ends ml_X12_362 dX12_next_23 kM_0 rfl ⟨Nat.le_of_ble_eq_true rfl, Nat.le_of_ble_eq_true rfl⟩ (Nat.le_of_ble_eq_true rfl) rfl ?_
    refine st_aload_0 h dX12_next_26 ?_
    refine st_ic_0 h dX12_next_27 ?_
    obtain ⟨x3, hx3, hF⟩ := bI hF
    refine st_cVi (vs := [.int 0]) (st := []) h (w_X12_finds hx3) mi_X12_finds mv_X12_finds ml_X12_305 dX12_next_28 kM_0 rfl ⟨Nat.le_of_ble_eq_true rfl, Nat.le_of_ble_eq_true rfl⟩ (Nat.le_of_ble_eq_true rfl) rfl ?_
    refine st_istore_1 h dX12_next_31 ?_
    refine st_aload_0 h dX12_next_32 ?_
    obtain ⟨x4, hx4, hF⟩ := bI hF
    refine st_cVv (vs := []) (st := []) h (w_X12_putsBack hx4) mi_X12_putsBack mv_X12_putsBack ml_X12_365 dX12_next_33 kM_0 rfl ⟨Nat.le_of_ble_eq_true rfl, Nat.le_of_ble_eq_true rfl⟩ (Nat.le_of_ble_eq_true rfl) rfl ?_
    refine st_aload_0 h dX12_next_36 ?_
    refine st_iload_1 h dX12_next_37 ?_
    obtain ⟨x5, hx5, hF⟩ := bI hF
    refine st_cVi (vs := [.int x3.1]) (st := []) h (w_X12_tells hx5) mi_X12_tells mv_X12_tells ml_X12_233 dX12_next_38 kM_0 rfl ⟨Nat.le_of_ble_eq_true rfl, Nat.le_of_ble_eq_true rfl⟩ (Nat.le_of_ble_eq_true rfl) rfl ?_
    cases hF
    exact st_iret h hr dX12_next_41
  · have hF := pI q1 hF
    refine st_aload_0 h dX12_next_12 ?_
    refine st_ic_1 h dX12_next_13 ?_
    obtain ⟨x6, hx6, hF⟩ := bI hF
    refine st_cVi (vs := [.int 1]) (st := []) h (w_X12_refused hx6) mi_X12_refused mv_X12_refused ml_X12_213 dX12_next_14 kM_0 rfl ⟨Nat.le_of_ble_eq_true rfl, Nat.le_of_ble_eq_true rfl⟩ (Nat.le_of_ble_eq_true rfl) rfl ?_
    cases hF
    exact st_iret h hr dX12_next_17
set_option maxRecDepth 100000 in
set_option maxHeartbeats 4000000 in
theorem w_X12_remembers_57 {p : Program} {l : Launch} {e : Env} {s : State} {m : MethodId} {args : Array Value} {below : List Frame} {meth : Method} {c : Code} {G : Gv} (h : Cx p s m args meth c G cX12_remembers 2 RX12) (hr : meth.sig.returnType = none) : ∀ (n : Nat) (σ : Sto) (i1 : Int32) (z : Sto), F_X12_remembers_57 n σ i1 = some z → AW p l e (rmD 1 0 0) s m args below meth c (MQ below (QcR G shM νM none (ovM z)) args s 0 0 (gA G)) 0 0 G 2 57 [some (.ref 0), some (.int i1)] [] shM νM (ovM σ) := by
  intro n
  induction n with
  | zero => intro σ i1 z hF; cases hF
  | succ n ih =>
    intro σ i1 z hF
    rw [F_X12_remembers_57] at hF
    refine st_iload_1 h dX12_remembers_57 ?_
    refine st_sipush (v := 534) h dX12_remembers_58 (by decide) ?_
    refine st_icmp_ge (t := 91) h dX12_remembers_61 (by decide) (fun q1 => ?_) (fun q1 => ?_)
    · have hF := pI q1 hF
      refine st_aload_0 h dX12_remembers_91 ?_
      refine st_dup h rfl dX12_remembers_92 ?_
      refine gX12_24 h fl_X12_226 dX12_remembers_93 (congrArg Prod.fst kM_0) ?_
      refine st_ic_1 h dX12_remembers_96 ?_
      refine st_iadd h dX12_remembers_97 ?_
      obtain ⟨s1, hs1, hF⟩ := swI hF
      refine pX12_24 h fl_X12_226 dX12_remembers_98 (congrArg Prod.fst kM_0) hs1 ?_
      cases hF
      exact st_vret h hr dX12_remembers_101
    · have hF := qI q1 hF
      refine st_aload_0 h dX12_remembers_64 ?_
      refine gX12_17 h fl_X12_26 dX12_remembers_65 (congrArg Prod.fst kM_0) ?_
      refine st_aload_0 h dX12_remembers_68 ?_
      refine gX12_24 h fl_X12_226 dX12_remembers_69 (congrArg Prod.fst kM_0) ?_
      refine st_sipush (v := 534) h dX12_remembers_72 (by decide) ?_
      refine st_imul h dX12_remembers_75 ?_
      refine st_iload_1 h dX12_remembers_76 ?_
      refine st_iadd h dX12_remembers_77 ?_
      refine st_aload_0 h dX12_remembers_78 ?_
      refine gX12_14 h fl_X12_17 dX12_remembers_79 (congrArg Prod.fst kM_0) ?_
      refine st_iload_1 h dX12_remembers_82 ?_
      obtain ⟨g1, hF⟩ := gI hF
      refine iaM h dX12_remembers_83 kM_2 g1 ?_
      obtain ⟨g2, hF⟩ := gI hF
      obtain ⟨s2, hs2, hF⟩ := swI hF
      refine isM h dX12_remembers_84 kM_5 g2 hs2 ?_
      refine st_iinc_1 (y := i1 + 1) h dX12_remembers_85 (ii_1 _) ?_
      refine st_goto (t := 57) h dX12_remembers_88 (by decide) ?_
      exact st_sub (ls_s (ls_s ls_e)) (ih s2 (i1 + 1) z hF)
set_option maxRecDepth 100000 in
set_option maxHeartbeats 4000000 in
theorem w_X12_remembers_21 {p : Program} {l : Launch} {e : Env} {s : State} {m : MethodId} {args : Array Value} {below : List Frame} {meth : Method} {c : Code} {G : Gv} (h : Cx p s m args meth c G cX12_remembers 2 RX12) (hr : meth.sig.returnType = none) : ∀ (n : Nat) (σ : Sto) (i1 : Int32) (z : Sto), F_X12_remembers_21 n σ i1 = some z → AW p l e (rmD 1 0 0) s m args below meth c (MQ below (QcR G shM νM none (ovM z)) args s 0 0 (gA G)) 0 0 G 2 21 [some (.ref 0), some (.int i1)] [] shM νM (ovM σ) := by
  intro n
  induction n with
  | zero => intro σ i1 z hF; cases hF
  | succ n ih =>
    intro σ i1 z hF
    rw [F_X12_remembers_21] at hF
    refine st_iload_1 h dX12_remembers_21 ?_
    refine st_aload_0 h dX12_remembers_22 ?_
    refine gX12_24 h fl_X12_226 dX12_remembers_23 (congrArg Prod.fst kM_0) ?_
    refine st_sipush (v := 534) h dX12_remembers_26 (by decide) ?_
    refine st_imul h dX12_remembers_29 ?_
    refine st_icmp_ge (t := 55) h dX12_remembers_30 (by decide) (fun q1 => ?_) (fun q1 => ?_)
    · have hF := pI q1 hF
      refine st_ic_0 h dX12_remembers_55 ?_
      refine st_istore_1 h dX12_remembers_56 ?_
      exact st_sub (ls_s (ls_s ls_e)) (w_X12_remembers_57 h hr FU σ 0 z hF)
    · have hF := qI q1 hF
      refine st_aload_0 h dX12_remembers_33 ?_
      refine gX12_17 h fl_X12_26 dX12_remembers_34 (congrArg Prod.fst kM_0) ?_
      refine st_iload_1 h dX12_remembers_37 ?_
      refine st_aload_0 h dX12_remembers_38 ?_
      refine gX12_17 h fl_X12_26 dX12_remembers_39 (congrArg Prod.fst kM_0) ?_
      refine st_iload_1 h dX12_remembers_42 ?_
      refine st_sipush (v := 534) h dX12_remembers_43 (by decide) ?_
      refine st_iadd h dX12_remembers_46 ?_
      obtain ⟨g1, hF⟩ := gI hF
      refine iaM h dX12_remembers_47 kM_5 g1 ?_
      obtain ⟨g2, hF⟩ := gI hF
      obtain ⟨s1, hs1, hF⟩ := swI hF
      refine isM h dX12_remembers_48 kM_5 g2 hs1 ?_
      refine st_iinc_1 (y := i1 + 1) h dX12_remembers_49 (ii_1 _) ?_
      refine st_goto (t := 21) h dX12_remembers_52 (by decide) ?_
      exact st_sub (ls_s (ls_s ls_e)) (ih s1 (i1 + 1) z hF)
set_option maxRecDepth 100000 in
set_option maxHeartbeats 4000000 in
theorem w_X12_remembers {l : Launch} {G : Gv} {σ : Sto} {z : Sto} (hF : F_X12_remembers σ  = some z) : Con l yX12_remembers cX12_remembers 2 none 1 G shM νM [.ref 0] (ovM σ) none (ovM z) := by
  rw [F_X12_remembers] at hF
  refine Con_enter (own := RX12) 1 (lv := [some (.ref 0), none]) mi_X12_remembers.2.2.2 rfl (Nat.le_of_ble_eq_true rfl) rfl (fun h hr hin => ?_)
  refine st_aload_0 h dX12_remembers_0 ?_
  refine gX12_24 h fl_X12_226 dX12_remembers_1 (congrArg Prod.fst kM_0) ?_
  refine st_bipush (v := 10) h dX12_remembers_4 (by decide) ?_
  refine st_icmp_ne (t := 55) h dX12_remembers_6 (by decide) (fun q1 => ?_) (fun q1 => ?_)
  · have hF := qI q1 hF
    refine st_ic_0 h dX12_remembers_55 ?_
    refine st_istore_1 h dX12_remembers_56 ?_
    exact st_sub (ls_s (ls_s ls_e)) (w_X12_remembers_57 h hr FU σ 0 z hF)
  · have hF := pI q1 hF
    refine st_aload_0 h dX12_remembers_9 ?_
    refine st_dup h rfl dX12_remembers_10 ?_
    refine gX12_24 h fl_X12_226 dX12_remembers_11 (congrArg Prod.fst kM_0) ?_
    refine st_ic_1 h dX12_remembers_14 ?_
    refine st_isub h dX12_remembers_15 ?_
    obtain ⟨s1, hs1, hF⟩ := swI hF
    refine pX12_24 h fl_X12_226 dX12_remembers_16 (congrArg Prod.fst kM_0) hs1 ?_
    refine st_ic_0 h dX12_remembers_19 ?_
    refine st_istore_1 h dX12_remembers_20 ?_
    exact st_sub (ls_s (ls_s ls_e)) (w_X12_remembers_21 h hr FU s1 0 z hF)
set_option maxRecDepth 100000 in
set_option maxHeartbeats 4000000 in
theorem w_X12_changes {l : Launch} {G : Gv} {σ : Sto} {i1 : Int32} {i2 : Int32} {z : (Int32 × Sto)} (hF : F_X12_changes σ i1 i2 = some z) : Con l yX12_changes cX12_changes 4 (some .int) 2 G shM νM [.ref 0, .int i1, .int i2] (ovM σ) (some (.int z.1)) (ovM z.2) := by
  rw [F_X12_changes] at hF
  refine Con_enter (own := RX12) 1 (lv := [some (.ref 0), some (.int i1), some (.int i2), none]) mi_X12_changes.2.2.2 rfl (Nat.le_of_ble_eq_true rfl) rfl (fun h hr hin => ?_)
  refine st_aload_0 h dX12_changes_0 ?_
  obtain ⟨x1, hx1, hF⟩ := bI hF
  refine st_cVv (vs := []) (st := []) h (w_X12_remembers hx1) mi_X12_remembers mv_X12_remembers ml_X12_386 dX12_changes_1 kM_0 rfl ⟨Nat.le_of_ble_eq_true rfl, Nat.le_of_ble_eq_true rfl⟩ (Nat.le_of_ble_eq_true rfl) rfl ?_
  refine st_aload_0 h dX12_changes_4 ?_
  refine gX12_14 h fl_X12_17 dX12_changes_5 (congrArg Prod.fst kM_0) ?_
  refine st_iload_1 h dX12_changes_8 ?_
  obtain ⟨g1, hF⟩ := gI hF
  refine iaM h dX12_changes_9 kM_2 g1 ?_
  refine st_istore_3 h dX12_changes_10 ?_
  refine st_aload_0 h dX12_changes_11 ?_
  refine gX12_14 h fl_X12_17 dX12_changes_12 (congrArg Prod.fst kM_0) ?_
  refine st_iload_1 h dX12_changes_15 ?_
  refine st_iload_2 h dX12_changes_16 ?_
  obtain ⟨s1, hs1, hF⟩ := swI hF
  refine isM h dX12_changes_17 kM_2 g1 hs1 ?_
  refine st_aload_0 h dX12_changes_18 ?_
  refine st_iload_3 h dX12_changes_19 ?_
  obtain ⟨x2, hx2, hF⟩ := bI hF
  refine st_cVi (vs := [.int (x1.1 2 (ix i1))]) (st := []) h (w_X12_tells hx2) mi_X12_tells mv_X12_tells ml_X12_233 dX12_changes_20 kM_0 rfl ⟨Nat.le_of_ble_eq_true rfl, Nat.le_of_ble_eq_true rfl⟩ (Nat.le_of_ble_eq_true rfl) rfl ?_
  cases hF
  exact st_iret h hr dX12_changes_23
set_option maxRecDepth 100000 in
set_option maxHeartbeats 4000000 in
theorem w_X12_price {l : Launch} {G : Gv} {σ : Sto} {i1 : Int32} {i2 : Int32} {z : (Int32 × Sto)} (hF : F_X12_price σ i1 i2 = some z) : Con l yX12_price cX12_price 3 (some .int) 3 G shM νM [.ref 0, .int i1, .int i2] (ovM σ) (some (.int z.1)) (ovM z.2) := by
  rw [F_X12_price] at hF
  refine Con_enter (own := RX12) 0 (lv := [some (.ref 0), some (.int i1), some (.int i2)]) mi_X12_price.2.2.2 rfl (Nat.le_of_ble_eq_true rfl) rfl (fun h hr hin => ?_)
  refine st_aload_0 h dX12_price_0 ?_
  refine st_ic_0 h dX12_price_1 ?_
  obtain ⟨s1, hs1, hF⟩ := swI hF
  refine pX12_0 h fl_X12_73 dX12_price_2 (congrArg Prod.fst kM_0) hs1 ?_
  refine st_aload_0 h dX12_price_5 ?_
  refine st_iload_1 h dX12_price_6 ?_
  obtain ⟨x1, hx1, hF⟩ := bI hF
  refine st_cVi (vs := [.int i1]) (st := []) h (w_X12_isService hx1) mi_X12_isService mv_X12_isService ml_X12_272 dX12_price_7 kM_0 rfl ⟨Nat.le_of_ble_eq_true rfl, Nat.le_of_ble_eq_true rfl⟩ (Nat.le_of_ble_eq_true rfl) rfl ?_
  refine st_if_ne (t := 19) h dX12_price_10 (by decide) (fun q1 => ?_) (fun q1 => ?_)
  · have hF := qI q1 hF
    refine st_iload_2 h dX12_price_19 ?_
    obtain ⟨x2, hx2, hF⟩ := bI hF
    refine st_cSi (vs := [.int i2]) (st := []) h (w_X12_isPrice hx2) mi_X12_isPrice ms_X12_isPrice ml_X12_275 dX12_price_20 rfl ⟨Nat.le_of_ble_eq_true rfl, Nat.le_of_ble_eq_true rfl⟩ (Nat.le_of_ble_eq_true rfl) rfl ?_
    refine st_if_eq (t := 40) h dX12_price_23 (by decide) (fun q2 => ?_) (fun q2 => ?_)
    · have hF := pI q2 hF
      refine st_aload_0 h dX12_price_40 ?_
      refine st_ic_2 h dX12_price_41 ?_
      obtain ⟨x3, hx3, hF⟩ := bI hF
      refine st_cVi (vs := [.int 2]) (st := []) h (w_X12_refused hx3) mi_X12_refused mv_X12_refused ml_X12_213 dX12_price_42 kM_0 rfl ⟨Nat.le_of_ble_eq_true rfl, Nat.le_of_ble_eq_true rfl⟩ (Nat.le_of_ble_eq_true rfl) rfl ?_
      cases hF
      exact st_iret h hr dX12_price_45
    · have hF := qI q2 hF
      refine st_aload_0 h dX12_price_26 ?_
      refine st_bipush (v := 7) h dX12_price_27 (by decide) ?_
      refine st_iload_1 h dX12_price_29 ?_
      refine st_imul h dX12_price_30 ?_
      refine st_ic_1 h dX12_price_31 ?_
      refine st_iadd h dX12_price_32 ?_
      refine st_iload_2 h dX12_price_33 ?_
      obtain ⟨x4, hx4, hF⟩ := bI hF
      refine st_cVi (vs := [.int ((7 * i1) + 1), .int i2]) (st := []) h (w_X12_changes hx4) mi_X12_changes mv_X12_changes ml_X12_389 dX12_price_34 kM_0 rfl ⟨Nat.le_of_ble_eq_true rfl, Nat.le_of_ble_eq_true rfl⟩ (Nat.le_of_ble_eq_true rfl) rfl ?_
      refine st_goto (t := 45) h dX12_price_37 (by decide) ?_
      cases hF
      exact st_iret h hr dX12_price_45
  · have hF := pI q1 hF
    refine st_aload_0 h dX12_price_13 ?_
    refine st_ic_1 h dX12_price_14 ?_
    obtain ⟨x5, hx5, hF⟩ := bI hF
    refine st_cVi (vs := [.int 1]) (st := []) h (w_X12_refused hx5) mi_X12_refused mv_X12_refused ml_X12_213 dX12_price_15 kM_0 rfl ⟨Nat.le_of_ble_eq_true rfl, Nat.le_of_ble_eq_true rfl⟩ (Nat.le_of_ble_eq_true rfl) rfl ?_
    cases hF
    exact st_iret h hr dX12_price_18
set_option maxRecDepth 100000 in
set_option maxHeartbeats 4000000 in
theorem w_X12_lay_39 {p : Program} {l : Launch} {e : Env} {s : State} {m : MethodId} {args : Array Value} {below : List Frame} {meth : Method} {c : Code} {G : Gv} (h : Cx p s m args meth c G cX12_lay 3 RX12) (hr : meth.sig.returnType = (some .int)) : ∀ (σ : Sto) (z : (Int32 × Sto)), F_X12_lay_39 σ  = some z → AW p l e (rmD 11 0 0) s m args below meth c (MQ below (QcR G shM νM (some (.int z.1)) (ovM z.2)) args s 0 0 (gA G)) 0 0 G 3 39 [some (.ref 0), none, none] [] shM νM (ovM σ) := by
  intro σ z hF
  rw [F_X12_lay_39] at hF
  refine st_aload_0 h dX12_lay_39 ?_
  refine st_aload_0 h dX12_lay_40 ?_
  obtain ⟨x1, hx1, hF⟩ := bI hF
  refine st_cVi (vs := []) (st := [.ref 0]) h (w_X12_spent hx1) mi_X12_spent mv_X12_spent ml_X12_257 dX12_lay_41 kM_0 rfl ⟨Nat.le_of_ble_eq_true rfl, Nat.le_of_ble_eq_true rfl⟩ (Nat.le_of_ble_eq_true rfl) rfl ?_
  obtain ⟨x2, hx2, hF⟩ := bI hF
  refine st_cVi (vs := [.int x1]) (st := []) h (w_X12_tells hx2) mi_X12_tells mv_X12_tells ml_X12_233 dX12_lay_44 kM_0 rfl ⟨Nat.le_of_ble_eq_true rfl, Nat.le_of_ble_eq_true rfl⟩ (Nat.le_of_ble_eq_true rfl) rfl ?_
  cases hF
  exact st_iret h hr dX12_lay_47
set_option maxRecDepth 100000 in
set_option maxHeartbeats 4000000 in
theorem w_X12_lay {l : Launch} {G : Gv} {σ : Sto} {i1 : Int32} {z : (Int32 × Sto)} (hF : F_X12_lay σ i1 = some z) : Con l yX12_lay cX12_lay 3 (some .int) 11 G shM νM [.ref 0, .int i1] (ovM σ) (some (.int z.1)) (ovM z.2) := by
  rw [F_X12_lay] at hF
  refine Con_enter (own := RX12) 1 (lv := [some (.ref 0), some (.int i1), none]) mi_X12_lay.2.2.2 rfl (Nat.le_of_ble_eq_true rfl) rfl (fun h hr hin => ?_)
  refine st_aload_0 h dX12_lay_0 ?_
  refine st_ic_0 h dX12_lay_1 ?_
  obtain ⟨s1, hs1, hF⟩ := swI hF
  refine pX12_0 h fl_X12_73 dX12_lay_2 (congrArg Prod.fst kM_0) hs1 ?_
  refine st_aload_0 h dX12_lay_5 ?_
  refine gX12_25 h fl_X12_229 dX12_lay_6 (congrArg Prod.fst kM_0) ?_
  refine st_if_ne (t := 18) h dX12_lay_9 (by decide) (fun q1 => ?_) (fun q1 => ?_)
  · have hF := qI q1 hF
    refine st_aload_0 h dX12_lay_18 ?_
    obtain ⟨x1, hx1, hF⟩ := bI hF
    refine st_cVv (vs := []) (st := []) h (w_X12_remembers hx1) mi_X12_remembers mv_X12_remembers ml_X12_386 dX12_lay_19 kM_0 rfl ⟨Nat.le_of_ble_eq_true rfl, Nat.le_of_ble_eq_true rfl⟩ (Nat.le_of_ble_eq_true rfl) rfl ?_
    refine st_aload_0 h dX12_lay_22 ?_
    refine st_iload_1 h dX12_lay_23 ?_
    obtain ⟨x2, hx2, hF⟩ := bI hF
    refine st_cVi (vs := [.int i1]) (st := []) h (w_X12_finds hx2) mi_X12_finds mv_X12_finds ml_X12_305 dX12_lay_24 kM_0 rfl ⟨Nat.le_of_ble_eq_true rfl, Nat.le_of_ble_eq_true rfl⟩ (Nat.le_of_ble_eq_true rfl) rfl ?_
    refine st_istore_2 h dX12_lay_27 ?_
    refine st_iload_2 h dX12_lay_28 ?_
    refine st_ldcw h ck_X12_282 dX12_lay_29 ?_
    refine st_icmp_le (t := 39) h dX12_lay_32 (by decide) (fun q2 => ?_) (fun q2 => ?_)
    · have hF := pI q2 hF
      exact st_sub (ls_s (ls_n (ls_n ls_e))) (w_X12_lay_39 h hr x2.2  z hF)
    · have hF := qI q2 hF
      refine st_aload_0 h dX12_lay_35 ?_
      obtain ⟨x3, hx3, hF⟩ := bI hF
      refine st_cVv (vs := []) (st := []) h (w_X12_takesRow hx3) mi_X12_takesRow mv_X12_takesRow ml_X12_380 dX12_lay_36 kM_0 rfl ⟨Nat.le_of_ble_eq_true rfl, Nat.le_of_ble_eq_true rfl⟩ (Nat.le_of_ble_eq_true rfl) rfl ?_
      exact st_sub (ls_s (ls_n (ls_n ls_e))) (w_X12_lay_39 h hr x3  z hF)
  · have hF := pI q1 hF
    refine st_aload_0 h dX12_lay_12 ?_
    refine st_ic_1 h dX12_lay_13 ?_
    obtain ⟨x4, hx4, hF⟩ := bI hF
    refine st_cVi (vs := [.int 1]) (st := []) h (w_X12_refused hx4) mi_X12_refused mv_X12_refused ml_X12_213 dX12_lay_14 kM_0 rfl ⟨Nat.le_of_ble_eq_true rfl, Nat.le_of_ble_eq_true rfl⟩ (Nat.le_of_ble_eq_true rfl) rfl ?_
    cases hF
    exact st_iret h hr dX12_lay_17
set_option maxRecDepth 100000 in
set_option maxHeartbeats 4000000 in
theorem w_X12_quality {l : Launch} {G : Gv} {σ : Sto} {i1 : Int32} {i2 : Int32} {z : (Int32 × Sto)} (hF : F_X12_quality σ i1 i2 = some z) : Con l yX12_quality cX12_quality 3 (some .int) 3 G shM νM [.ref 0, .int i1, .int i2] (ovM σ) (some (.int z.1)) (ovM z.2) := by
  rw [F_X12_quality] at hF
  refine Con_enter (own := RX12) 0 (lv := [some (.ref 0), some (.int i1), some (.int i2)]) mi_X12_quality.2.2.2 rfl (Nat.le_of_ble_eq_true rfl) rfl (fun h hr hin => ?_)
  refine st_aload_0 h dX12_quality_0 ?_
  refine st_ic_0 h dX12_quality_1 ?_
  obtain ⟨s1, hs1, hF⟩ := swI hF
  refine pX12_0 h fl_X12_73 dX12_quality_2 (congrArg Prod.fst kM_0) hs1 ?_
  refine st_aload_0 h dX12_quality_5 ?_
  refine st_iload_1 h dX12_quality_6 ?_
  obtain ⟨x1, hx1, hF⟩ := bI hF
  refine st_cVi (vs := [.int i1]) (st := []) h (w_X12_isService hx1) mi_X12_isService mv_X12_isService ml_X12_272 dX12_quality_7 kM_0 rfl ⟨Nat.le_of_ble_eq_true rfl, Nat.le_of_ble_eq_true rfl⟩ (Nat.le_of_ble_eq_true rfl) rfl ?_
  refine st_if_ne (t := 19) h dX12_quality_10 (by decide) (fun q1 => ?_) (fun q1 => ?_)
  · have hF := qI q1 hF
    refine st_iload_2 h dX12_quality_19 ?_
    refine st_ic_0 h dX12_quality_20 ?_
    refine st_bipush (v := 99) h dX12_quality_21 (by decide) ?_
    obtain ⟨x2, hx2, hF⟩ := bI hF
    refine st_cSi (vs := [.int i2, .int 0, .int 99]) (st := []) h (w_X12_in hx2) mi_X12_in ms_X12_in ml_X12_94 dX12_quality_23 rfl ⟨Nat.le_of_ble_eq_true rfl, Nat.le_of_ble_eq_true rfl⟩ (Nat.le_of_ble_eq_true rfl) rfl ?_
    refine st_if_eq (t := 43) h dX12_quality_26 (by decide) (fun q2 => ?_) (fun q2 => ?_)
    · have hF := pI q2 hF
      refine st_aload_0 h dX12_quality_43 ?_
      refine st_ic_2 h dX12_quality_44 ?_
      obtain ⟨x3, hx3, hF⟩ := bI hF
      refine st_cVi (vs := [.int 2]) (st := []) h (w_X12_refused hx3) mi_X12_refused mv_X12_refused ml_X12_213 dX12_quality_45 kM_0 rfl ⟨Nat.le_of_ble_eq_true rfl, Nat.le_of_ble_eq_true rfl⟩ (Nat.le_of_ble_eq_true rfl) rfl ?_
      cases hF
      exact st_iret h hr dX12_quality_48
    · have hF := qI q2 hF
      refine st_aload_0 h dX12_quality_29 ?_
      refine st_bipush (v := 7) h dX12_quality_30 (by decide) ?_
      refine st_iload_1 h dX12_quality_32 ?_
      refine st_imul h dX12_quality_33 ?_
      refine st_ic_5 h dX12_quality_34 ?_
      refine st_iadd h dX12_quality_35 ?_
      refine st_iload_2 h dX12_quality_36 ?_
      obtain ⟨x4, hx4, hF⟩ := bI hF
      refine st_cVi (vs := [.int ((7 * i1) + 5), .int i2]) (st := []) h (w_X12_changes hx4) mi_X12_changes mv_X12_changes ml_X12_389 dX12_quality_37 kM_0 rfl ⟨Nat.le_of_ble_eq_true rfl, Nat.le_of_ble_eq_true rfl⟩ (Nat.le_of_ble_eq_true rfl) rfl ?_
      refine st_goto (t := 48) h dX12_quality_40 (by decide) ?_
      cases hF
      exact st_iret h hr dX12_quality_48
  · have hF := pI q1 hF
    refine st_aload_0 h dX12_quality_13 ?_
    refine st_ic_1 h dX12_quality_14 ?_
    obtain ⟨x5, hx5, hF⟩ := bI hF
    refine st_cVi (vs := [.int 1]) (st := []) h (w_X12_refused hx5) mi_X12_refused mv_X12_refused ml_X12_213 dX12_quality_15 kM_0 rfl ⟨Nat.le_of_ble_eq_true rfl, Nat.le_of_ble_eq_true rfl⟩ (Nat.le_of_ble_eq_true rfl) rfl ?_
    cases hF
    exact st_iret h hr dX12_quality_18
set_option maxRecDepth 100000 in
set_option maxHeartbeats 4000000 in
theorem w_X12_become_21 {p : Program} {l : Launch} {e : Env} {s : State} {m : MethodId} {args : Array Value} {below : List Frame} {meth : Method} {c : Code} {G : Gv} (h : Cx p s m args meth c G cX12_become 3 RX12) (hr : meth.sig.returnType = (some .int)) : ∀ (σ : Sto) (z : (Int32 × Sto)), F_X12_become_21 σ  = some z → AW p l e (rmD 3 0 0) s m args below meth c (MQ below (QcR G shM νM (some (.int z.1)) (ovM z.2)) args s 0 0 (gA G)) 0 0 G 3 21 [some (.ref 0), none, none] [] shM νM (ovM σ) := by
  intro σ z hF
  rw [F_X12_become_21] at hF
  refine st_aload_0 h dX12_become_21 ?_
  refine st_ic_1 h dX12_become_22 ?_
  obtain ⟨x1, hx1, hF⟩ := bI hF
  refine st_cVi (vs := [.int 1]) (st := []) h (w_X12_refused hx1) mi_X12_refused mv_X12_refused ml_X12_213 dX12_become_23 kM_0 rfl ⟨Nat.le_of_ble_eq_true rfl, Nat.le_of_ble_eq_true rfl⟩ (Nat.le_of_ble_eq_true rfl) rfl ?_
  cases hF
  exact st_iret h hr dX12_become_26
set_option maxRecDepth 100000 in
set_option maxHeartbeats 4000000 in
theorem w_X12_become_51 {p : Program} {l : Launch} {e : Env} {s : State} {m : MethodId} {args : Array Value} {below : List Frame} {meth : Method} {c : Code} {G : Gv} (h : Cx p s m args meth c G cX12_become 3 RX12) (hr : meth.sig.returnType = (some .int)) : ∀ (σ : Sto) (i1 : Int32) (i2 : Int32) (e0 : Int32) (e1 : Int32) (e2 : Int32) (z : (Int32 × Sto)), F_X12_become_51 σ i1 i2 e0 e1 e2 = some z → AW p l e (rmD 3 0 0) s m args below meth c (MQ below (QcR G shM νM (some (.int z.1)) (ovM z.2)) args s 0 0 (gA G)) 0 0 G 3 51 [some (.ref 0), some (.int i1), some (.int i2)] [.int e2, .int e1, .int e0] shM νM (ovM σ) := by
  intro σ i1 i2 e0 e1 e2 z hF
  rw [F_X12_become_51] at hF
  obtain ⟨x1, hx1, hF⟩ := bI hF
  refine st_cSi (vs := [.int e0, .int e1, .int e2]) (st := []) h (w_X12_in hx1) mi_X12_in ms_X12_in ml_X12_94 dX12_become_51 rfl ⟨Nat.le_of_ble_eq_true rfl, Nat.le_of_ble_eq_true rfl⟩ (Nat.le_of_ble_eq_true rfl) rfl ?_
  refine st_if_eq (t := 69) h dX12_become_54 (by decide) (fun q1 => ?_) (fun q1 => ?_)
  · have hF := pI q1 hF
    refine st_aload_0 h dX12_become_69 ?_
    refine st_ic_2 h dX12_become_70 ?_
    obtain ⟨x2, hx2, hF⟩ := bI hF
    refine st_cVi (vs := [.int 2]) (st := []) h (w_X12_refused hx2) mi_X12_refused mv_X12_refused ml_X12_213 dX12_become_71 kM_0 rfl ⟨Nat.le_of_ble_eq_true rfl, Nat.le_of_ble_eq_true rfl⟩ (Nat.le_of_ble_eq_true rfl) rfl ?_
    cases hF
    exact st_iret h hr dX12_become_74
  · have hF := qI q1 hF
    refine st_aload_0 h dX12_become_57 ?_
    refine st_bipush (v := 28) h dX12_become_58 (by decide) ?_
    refine st_iload_1 h dX12_become_60 ?_
    refine st_iadd h dX12_become_61 ?_
    refine st_iload_2 h dX12_become_62 ?_
    obtain ⟨x3, hx3, hF⟩ := bI hF
    refine st_cVi (vs := [.int (28 + i1), .int i2]) (st := []) h (w_X12_changes hx3) mi_X12_changes mv_X12_changes ml_X12_389 dX12_become_63 kM_0 rfl ⟨Nat.le_of_ble_eq_true rfl, Nat.le_of_ble_eq_true rfl⟩ (Nat.le_of_ble_eq_true rfl) rfl ?_
    refine st_goto (t := 74) h dX12_become_66 (by decide) ?_
    cases hF
    exact st_iret h hr dX12_become_74
set_option maxRecDepth 100000 in
set_option maxHeartbeats 4000000 in
theorem w_X12_become {l : Launch} {G : Gv} {σ : Sto} {i1 : Int32} {i2 : Int32} {z : (Int32 × Sto)} (hF : F_X12_become σ i1 i2 = some z) : Con l yX12_become cX12_become 3 (some .int) 3 G shM νM [.ref 0, .int i1, .int i2] (ovM σ) (some (.int z.1)) (ovM z.2) := by
  rw [F_X12_become] at hF
  refine Con_enter (own := RX12) 0 (lv := [some (.ref 0), some (.int i1), some (.int i2)]) mi_X12_become.2.2.2 rfl (Nat.le_of_ble_eq_true rfl) rfl (fun h hr hin => ?_)
  refine st_aload_0 h dX12_become_0 ?_
  refine st_ic_0 h dX12_become_1 ?_
  obtain ⟨s1, hs1, hF⟩ := swI hF
  refine pX12_0 h fl_X12_73 dX12_become_2 (congrArg Prod.fst kM_0) hs1 ?_
  refine st_aload_0 h dX12_become_5 ?_
  refine gX12_25 h fl_X12_229 dX12_become_6 (congrArg Prod.fst kM_0) ?_
  refine st_if_eq (t := 21) h dX12_become_9 (by decide) (fun q1 => ?_) (fun q1 => ?_)
  · have hF := pI q1 hF
    exact st_sub (ls_s (ls_n (ls_n ls_e))) (w_X12_become_21 h hr s1  z hF)
  · have hF := qI q1 hF
    refine st_iload_1 h dX12_become_12 ?_
    refine st_ic_0 h dX12_become_13 ?_
    refine st_ic_3 h dX12_become_14 ?_
    obtain ⟨x1, hx1, hF⟩ := bI hF
    refine st_cSi (vs := [.int i1, .int 0, .int 3]) (st := []) h (w_X12_in hx1) mi_X12_in ms_X12_in ml_X12_94 dX12_become_15 rfl ⟨Nat.le_of_ble_eq_true rfl, Nat.le_of_ble_eq_true rfl⟩ (Nat.le_of_ble_eq_true rfl) rfl ?_
    refine st_if_ne (t := 27) h dX12_become_18 (by decide) (fun q2 => ?_) (fun q2 => ?_)
    · have hF := qI q2 hF
      refine st_iload_2 h dX12_become_27 ?_
      refine st_ic_0 h dX12_become_28 ?_
      refine st_iload_1 h dX12_become_29 ?_
      refine st_ic_2 h dX12_become_30 ?_
      refine st_icmp_ge (t := 39) h dX12_become_31 (by decide) (fun q3 => ?_) (fun q3 => ?_)
      · have hF := pI q3 hF
        refine st_iload_1 h dX12_become_39 ?_
        refine st_ic_2 h dX12_become_40 ?_
        refine st_icmp_ne (t := 49) h dX12_become_41 (by decide) (fun q4 => ?_) (fun q4 => ?_)
        · have hF := qI q4 hF
          refine st_bipush (v := 99) h dX12_become_49 (by decide) ?_
          exact st_sub (ls_s (ls_s (ls_s ls_e))) (w_X12_become_51 h hr s1 i1 i2 i2 0 99 z hF)
        · have hF := pI q4 hF
          refine st_bipush (v := 100) h dX12_become_44 (by decide) ?_
          refine st_goto (t := 51) h dX12_become_46 (by decide) ?_
          exact st_sub (ls_s (ls_s (ls_s ls_e))) (w_X12_become_51 h hr s1 i1 i2 i2 0 100 z hF)
      · have hF := qI q3 hF
        refine st_bipush (v := 50) h dX12_become_34 (by decide) ?_
        refine st_goto (t := 51) h dX12_become_36 (by decide) ?_
        exact st_sub (ls_s (ls_s (ls_s ls_e))) (w_X12_become_51 h hr s1 i1 i2 i2 0 50 z hF)
    · have hF := pI q2 hF
      exact st_sub (ls_s (ls_n (ls_n ls_e))) (w_X12_become_21 h hr s1  z hF)
set_option maxRecDepth 100000 in
set_option maxHeartbeats 4000000 in
theorem w_X12_year_41 {p : Program} {l : Launch} {e : Env} {s : State} {m : MethodId} {args : Array Value} {below : List Frame} {meth : Method} {c : Code} {G : Gv} (h : Cx p s m args meth c G cX12_year 3 RX12) (hr : meth.sig.returnType = (some .int)) : ∀ (σ : Sto) (z : (Int32 × Sto)), F_X12_year_41 σ  = some z → AW p l e (rmD 7 0 0) s m args below meth c (MQ below (QcR G shM νM (some (.int z.1)) (ovM z.2)) args s 0 0 (gA G)) 0 0 G 3 41 [some (.ref 0), none, none] [] shM νM (ovM σ) := by
  intro σ z hF
  rw [F_X12_year_41] at hF
  refine st_aload_0 h dX12_year_41 ?_
  refine st_ic_5 h dX12_year_42 ?_
  obtain ⟨x1, hx1, hF⟩ := bI hF
  refine st_cVi (vs := [.int 5]) (st := []) h (w_X12_refused hx1) mi_X12_refused mv_X12_refused ml_X12_213 dX12_year_43 kM_0 rfl ⟨Nat.le_of_ble_eq_true rfl, Nat.le_of_ble_eq_true rfl⟩ (Nat.le_of_ble_eq_true rfl) rfl ?_
  cases hF
  exact st_iret h hr dX12_year_46
set_option maxRecDepth 100000 in
set_option maxHeartbeats 4000000 in
theorem w_X12_year_131 {p : Program} {l : Launch} {e : Env} {s : State} {m : MethodId} {args : Array Value} {below : List Frame} {meth : Method} {c : Code} {G : Gv} (h : Cx p s m args meth c G cX12_year 3 RX12) (hr : meth.sig.returnType = (some .int)) : ∀ (σ : Sto) (e1 : Int32) (e2 : Int32) (z : (Int32 × Sto)), F_X12_year_131 σ e1 e2 = some z → AW p l e (rmD 7 0 0) s m args below meth c (MQ below (QcR G shM νM (some (.int z.1)) (ovM z.2)) args s 0 0 (gA G)) 0 0 G 3 131 [some (.ref 0), none, none] [.int e2, .int e1, .ref 2] shM νM (ovM σ) := by
  intro σ e1 e2 z hF
  rw [F_X12_year_131] at hF
  obtain ⟨g1, hF⟩ := gI hF
  obtain ⟨s1, hs1, hF⟩ := swI hF
  refine isM h dX12_year_131 kM_2 g1 hs1 ?_
  refine st_aload_0 h dX12_year_132 ?_
  obtain ⟨x1, hx1, hF⟩ := bI hF
  refine st_cVv (vs := []) (st := []) h (w_X12_ends hx1) mi_X12_ends mv_X12_ends ml_X12_362 dX12_year_133 kM_0 rfl ⟨Nat.le_of_ble_eq_true rfl, Nat.le_of_ble_eq_true rfl⟩ (Nat.le_of_ble_eq_true rfl) rfl ?_
  refine st_aload_0 h dX12_year_136 ?_
  refine gX12_14 h fl_X12_17 dX12_year_137 (congrArg Prod.fst kM_0) ?_
  refine st_bipush (v := 32) h dX12_year_140 (by decide) ?_
  refine st_dup2 h rfl rfl dX12_year_142 ?_
  refine iaM h dX12_year_143 kM_2 (by decide) ?_
  refine st_ic_1 h dX12_year_144 ?_
  refine st_iadd h dX12_year_145 ?_
  obtain ⟨s2, hs2, hF⟩ := swI hF
  refine isM h dX12_year_146 kM_2 (by decide) hs2 ?_
  refine st_aload_0 h dX12_year_147 ?_
  refine st_aload_0 h dX12_year_148 ?_
  refine gX12_14 h fl_X12_17 dX12_year_149 (congrArg Prod.fst kM_0) ?_
  refine st_bipush (v := 32) h dX12_year_152 (by decide) ?_
  refine iaM h dX12_year_154 kM_2 (by decide) ?_
  obtain ⟨x2, hx2, hF⟩ := bI hF
  refine st_cVi (vs := [.int (s2.1 2 (ix 32))]) (st := []) h (w_X12_tells hx2) mi_X12_tells mv_X12_tells ml_X12_233 dX12_year_155 kM_0 rfl ⟨Nat.le_of_ble_eq_true rfl, Nat.le_of_ble_eq_true rfl⟩ (Nat.le_of_ble_eq_true rfl) rfl ?_
  cases hF
  exact st_iret h hr dX12_year_158
set_option maxRecDepth 100000 in
set_option maxHeartbeats 4000000 in
theorem w_X12_year_47 {p : Program} {l : Launch} {e : Env} {s : State} {m : MethodId} {args : Array Value} {below : List Frame} {meth : Method} {c : Code} {G : Gv} (h : Cx p s m args meth c G cX12_year 3 RX12) (hr : meth.sig.returnType = (some .int)) : ∀ (σ : Sto) (z : (Int32 × Sto)), F_X12_year_47 σ  = some z → AW p l e (rmD 7 0 0) s m args below meth c (MQ below (QcR G shM νM (some (.int z.1)) (ovM z.2)) args s 0 0 (gA G)) 0 0 G 3 47 [some (.ref 0), none, none] [] shM νM (ovM σ) := by
  intro σ z hF
  rw [F_X12_year_47] at hF
  refine st_aload_0 h dX12_year_47 ?_
  obtain ⟨x1, hx1, hF⟩ := bI hF
  refine st_cVv (vs := []) (st := []) h (w_X12_remembers hx1) mi_X12_remembers mv_X12_remembers ml_X12_386 dX12_year_48 kM_0 rfl ⟨Nat.le_of_ble_eq_true rfl, Nat.le_of_ble_eq_true rfl⟩ (Nat.le_of_ble_eq_true rfl) rfl ?_
  refine st_bipush (v := 34) h dX12_year_51 (by decide) ?_
  refine st_ic_5 h dX12_year_53 ?_
  refine st_aload_0 h dX12_year_54 ?_
  refine gX12_14 h fl_X12_17 dX12_year_55 (congrArg Prod.fst kM_0) ?_
  refine st_bipush (v := 32) h dX12_year_58 (by decide) ?_
  refine iaM h dX12_year_60 kM_2 (by decide) ?_
  refine st_imul h dX12_year_61 ?_
  refine st_iadd h dX12_year_62 ?_
  refine st_istore_2 h dX12_year_63 ?_
  refine st_aload_0 h dX12_year_64 ?_
  refine gX12_14 h fl_X12_17 dX12_year_65 (congrArg Prod.fst kM_0) ?_
  refine st_iload_2 h dX12_year_68 ?_
  refine st_aload_0 h dX12_year_69 ?_
  obtain ⟨x2, hx2, hF⟩ := bI hF
  refine st_cVi (vs := []) (st := [.int (34 + (5 * (x1.1 2 (ix 32)))), .ref 2]) h (w_X12_spent hx2) mi_X12_spent mv_X12_spent ml_X12_257 dX12_year_70 kM_0 rfl ⟨Nat.le_of_ble_eq_true rfl, Nat.le_of_ble_eq_true rfl⟩ (Nat.le_of_ble_eq_true rfl) rfl ?_
  obtain ⟨g1, hF⟩ := gI hF
  obtain ⟨s1, hs1, hF⟩ := swI hF
  refine isM h dX12_year_73 kM_2 g1 hs1 ?_
  refine st_aload_0 h dX12_year_74 ?_
  refine gX12_14 h fl_X12_17 dX12_year_75 (congrArg Prod.fst kM_0) ?_
  refine st_iload_2 h dX12_year_78 ?_
  refine st_ic_1 h dX12_year_79 ?_
  refine st_iadd h dX12_year_80 ?_
  refine st_aload_0 h dX12_year_81 ?_
  obtain ⟨x3, hx3, hF⟩ := bI hF
  refine st_cVi (vs := []) (st := [.int ((34 + (5 * (x1.1 2 (ix 32)))) + 1), .ref 2]) h (w_X12_allowed hx3) mi_X12_allowed mv_X12_allowed ml_X12_260 dX12_year_82 kM_0 rfl ⟨Nat.le_of_ble_eq_true rfl, Nat.le_of_ble_eq_true rfl⟩ (Nat.le_of_ble_eq_true rfl) rfl ?_
  obtain ⟨g2, hF⟩ := gI hF
  obtain ⟨s2, hs2, hF⟩ := swI hF
  refine isM h dX12_year_85 kM_2 g2 hs2 ?_
  refine st_aload_0 h dX12_year_86 ?_
  refine gX12_14 h fl_X12_17 dX12_year_87 (congrArg Prod.fst kM_0) ?_
  refine st_iload_2 h dX12_year_90 ?_
  refine st_ic_2 h dX12_year_91 ?_
  refine st_iadd h dX12_year_92 ?_
  refine st_aload_0 h dX12_year_93 ?_
  refine st_ic_0 h dX12_year_94 ?_
  obtain ⟨x4, hx4, hF⟩ := bI hF
  refine st_cVi (vs := [.int 0]) (st := [.int ((34 + (5 * (x1.1 2 (ix 32)))) + 2), .ref 2]) h (w_X12_all hx4) mi_X12_all mv_X12_all ml_X12_328 dX12_year_95 kM_0 rfl ⟨Nat.le_of_ble_eq_true rfl, Nat.le_of_ble_eq_true rfl⟩ (Nat.le_of_ble_eq_true rfl) rfl ?_
  obtain ⟨g3, hF⟩ := gI hF
  obtain ⟨s3, hs3, hF⟩ := swI hF
  refine isM h dX12_year_98 kM_2 g3 hs3 ?_
  refine st_aload_0 h dX12_year_99 ?_
  refine gX12_14 h fl_X12_17 dX12_year_100 (congrArg Prod.fst kM_0) ?_
  refine st_iload_2 h dX12_year_103 ?_
  refine st_ic_3 h dX12_year_104 ?_
  refine st_iadd h dX12_year_105 ?_
  refine st_aload_0 h dX12_year_106 ?_
  refine st_ic_1 h dX12_year_107 ?_
  obtain ⟨x5, hx5, hF⟩ := bI hF
  refine st_cVi (vs := [.int 1]) (st := [.int ((34 + (5 * (x1.1 2 (ix 32)))) + 3), .ref 2]) h (w_X12_all hx5) mi_X12_all mv_X12_all ml_X12_328 dX12_year_108 kM_0 rfl ⟨Nat.le_of_ble_eq_true rfl, Nat.le_of_ble_eq_true rfl⟩ (Nat.le_of_ble_eq_true rfl) rfl ?_
  obtain ⟨g4, hF⟩ := gI hF
  obtain ⟨s4, hs4, hF⟩ := swI hF
  refine isM h dX12_year_111 kM_2 g4 hs4 ?_
  refine st_aload_0 h dX12_year_112 ?_
  refine gX12_14 h fl_X12_17 dX12_year_113 (congrArg Prod.fst kM_0) ?_
  refine st_iload_2 h dX12_year_116 ?_
  refine st_ic_4 h dX12_year_117 ?_
  refine st_iadd h dX12_year_118 ?_
  refine st_aload_0 h dX12_year_119 ?_
  obtain ⟨x6, hx6, hF⟩ := bI hF
  refine st_cVi (vs := []) (st := [.int ((34 + (5 * (x1.1 2 (ix 32)))) + 4), .ref 2]) h (w_X12_isKept hx6) mi_X12_isKept mv_X12_isKept ml_X12_266 dX12_year_120 kM_0 rfl ⟨Nat.le_of_ble_eq_true rfl, Nat.le_of_ble_eq_true rfl⟩ (Nat.le_of_ble_eq_true rfl) rfl ?_
  refine st_if_eq (t := 130) h dX12_year_123 (by decide) (fun q1 => ?_) (fun q1 => ?_)
  · have hF := pI q1 hF
    refine st_ic_0 h dX12_year_130 ?_
    exact st_sub (ls_s (ls_n (ls_n ls_e))) (w_X12_year_131 h hr s4 ((34 + (5 * (x1.1 2 (ix 32)))) + 4) 0 z hF)
  · have hF := qI q1 hF
    refine st_ic_1 h dX12_year_126 ?_
    refine st_goto (t := 131) h dX12_year_127 (by decide) ?_
    exact st_sub (ls_s (ls_n (ls_n ls_e))) (w_X12_year_131 h hr s4 ((34 + (5 * (x1.1 2 (ix 32)))) + 4) 1 z hF)
set_option maxRecDepth 100000 in
set_option maxHeartbeats 4000000 in
theorem w_X12_year {l : Launch} {G : Gv} {σ : Sto} {i1 : Int32} {z : (Int32 × Sto)} (hF : F_X12_year σ i1 = some z) : Con l yX12_year cX12_year 3 (some .int) 7 G shM νM [.ref 0, .int i1] (ovM σ) (some (.int z.1)) (ovM z.2) := by
  rw [F_X12_year] at hF
  refine Con_enter (own := RX12) 1 (lv := [some (.ref 0), some (.int i1), none]) mi_X12_year.2.2.2 rfl (Nat.le_of_ble_eq_true rfl) rfl (fun h hr hin => ?_)
  refine st_aload_0 h dX12_year_0 ?_
  refine st_ic_0 h dX12_year_1 ?_
  obtain ⟨s1, hs1, hF⟩ := swI hF
  refine pX12_0 h fl_X12_73 dX12_year_2 (congrArg Prod.fst kM_0) hs1 ?_
  refine st_aload_0 h dX12_year_5 ?_
  refine gX12_25 h fl_X12_229 dX12_year_6 (congrArg Prod.fst kM_0) ?_
  refine st_if_ne (t := 18) h dX12_year_9 (by decide) (fun q1 => ?_) (fun q1 => ?_)
  · have hF := qI q1 hF
    refine st_aload_0 h dX12_year_18 ?_
    refine gX12_14 h fl_X12_17 dX12_year_19 (congrArg Prod.fst kM_0) ?_
    refine st_bipush (v := 32) h dX12_year_22 (by decide) ?_
    refine iaM h dX12_year_24 kM_2 (by decide) ?_
    refine st_bipush (v := 99) h dX12_year_25 (by decide) ?_
    refine st_icmp_eq (t := 41) h dX12_year_27 (by decide) (fun q2 => ?_) (fun q2 => ?_)
    · have hF := pI q2 hF
      exact st_sub (ls_s (ls_n (ls_n ls_e))) (w_X12_year_41 h hr s1  z hF)
    · have hF := qI q2 hF
      refine st_iload_1 h dX12_year_30 ?_
      refine st_if_ne (t := 47) h dX12_year_31 (by decide) (fun q3 => ?_) (fun q3 => ?_)
      · have hF := qI q3 hF
        exact st_sub (ls_s (ls_n (ls_n ls_e))) (w_X12_year_47 h hr s1  z hF)
      · have hF := pI q3 hF
        refine st_aload_0 h dX12_year_34 ?_
        obtain ⟨x1, hx1, hF⟩ := bI hF
        refine st_cVi (vs := []) (st := []) h (w_X12_isKept hx1) mi_X12_isKept mv_X12_isKept ml_X12_266 dX12_year_35 kM_0 rfl ⟨Nat.le_of_ble_eq_true rfl, Nat.le_of_ble_eq_true rfl⟩ (Nat.le_of_ble_eq_true rfl) rfl ?_
        refine st_if_ne (t := 47) h dX12_year_38 (by decide) (fun q4 => ?_) (fun q4 => ?_)
        · have hF := qI q4 hF
          exact st_sub (ls_s (ls_n (ls_n ls_e))) (w_X12_year_47 h hr s1  z hF)
        · have hF := pI q4 hF
          exact st_sub (ls_s (ls_n (ls_n ls_e))) (w_X12_year_41 h hr s1  z hF)
  · have hF := pI q1 hF
    refine st_aload_0 h dX12_year_12 ?_
    refine st_ic_1 h dX12_year_13 ?_
    obtain ⟨x2, hx2, hF⟩ := bI hF
    refine st_cVi (vs := [.int 1]) (st := []) h (w_X12_refused hx2) mi_X12_refused mv_X12_refused ml_X12_213 dX12_year_14 kM_0 rfl ⟨Nat.le_of_ble_eq_true rfl, Nat.le_of_ble_eq_true rfl⟩ (Nat.le_of_ble_eq_true rfl) rfl ?_
    cases hF
    exact st_iret h hr dX12_year_17
set_option maxRecDepth 100000 in
set_option maxHeartbeats 4000000 in
theorem w_X12_undo_43 {p : Program} {l : Launch} {e : Env} {s : State} {m : MethodId} {args : Array Value} {below : List Frame} {meth : Method} {c : Code} {G : Gv} (h : Cx p s m args meth c G cX12_undo 2 RX12) (hr : meth.sig.returnType = (some .int)) : ∀ (n : Nat) (σ : Sto) (i1 : Int32) (z : (Int32 × Sto)), F_X12_undo_43 n σ i1 = some z → AW p l e (rmD 2 0 0) s m args below meth c (MQ below (QcR G shM νM (some (.int z.1)) (ovM z.2)) args s 0 0 (gA G)) 0 0 G 2 43 [some (.ref 0), some (.int i1)] [] shM νM (ovM σ) := by
  intro n
  induction n with
  | zero => intro σ i1 z hF; cases hF
  | succ n ih =>
    intro σ i1 z hF
    rw [F_X12_undo_43] at hF
    refine st_iload_1 h dX12_undo_43 ?_
    refine st_sipush (v := 534) h dX12_undo_44 (by decide) ?_
    refine st_icmp_ge (t := 77) h dX12_undo_47 (by decide) (fun q1 => ?_) (fun q1 => ?_)
    · have hF := pI q1 hF
      refine st_aload_0 h dX12_undo_77 ?_
      refine st_aload_0 h dX12_undo_78 ?_
      refine gX12_24 h fl_X12_226 dX12_undo_79 (congrArg Prod.fst kM_0) ?_
      obtain ⟨x1, hx1, hF⟩ := bI hF
      refine st_cVi (vs := [.int (σ.1 0 24)]) (st := []) h (w_X12_tells hx1) mi_X12_tells mv_X12_tells ml_X12_233 dX12_undo_82 kM_0 rfl ⟨Nat.le_of_ble_eq_true rfl, Nat.le_of_ble_eq_true rfl⟩ (Nat.le_of_ble_eq_true rfl) rfl ?_
      cases hF
      exact st_iret h hr dX12_undo_85
    · have hF := qI q1 hF
      refine st_aload_0 h dX12_undo_50 ?_
      refine gX12_14 h fl_X12_17 dX12_undo_51 (congrArg Prod.fst kM_0) ?_
      refine st_iload_1 h dX12_undo_54 ?_
      refine st_aload_0 h dX12_undo_55 ?_
      refine gX12_17 h fl_X12_26 dX12_undo_56 (congrArg Prod.fst kM_0) ?_
      refine st_aload_0 h dX12_undo_59 ?_
      refine gX12_24 h fl_X12_226 dX12_undo_60 (congrArg Prod.fst kM_0) ?_
      refine st_sipush (v := 534) h dX12_undo_63 (by decide) ?_
      refine st_imul h dX12_undo_66 ?_
      refine st_iload_1 h dX12_undo_67 ?_
      refine st_iadd h dX12_undo_68 ?_
      obtain ⟨g1, hF⟩ := gI hF
      refine iaM h dX12_undo_69 kM_5 g1 ?_
      obtain ⟨g2, hF⟩ := gI hF
      obtain ⟨s1, hs1, hF⟩ := swI hF
      refine isM h dX12_undo_70 kM_2 g2 hs1 ?_
      refine st_iinc_1 (y := i1 + 1) h dX12_undo_71 (ii_1 _) ?_
      refine st_goto (t := 43) h dX12_undo_74 (by decide) ?_
      exact st_sub (ls_s (ls_s ls_e)) (ih s1 (i1 + 1) z hF)
set_option maxRecDepth 100000 in
set_option maxHeartbeats 4000000 in
theorem w_X12_undo {l : Launch} {G : Gv} {σ : Sto} {z : (Int32 × Sto)} (hF : F_X12_undo σ  = some z) : Con l yX12_undo cX12_undo 2 (some .int) 2 G shM νM [.ref 0] (ovM σ) (some (.int z.1)) (ovM z.2) := by
  rw [F_X12_undo] at hF
  refine Con_enter (own := RX12) 1 (lv := [some (.ref 0), none]) mi_X12_undo.2.2.2 rfl (Nat.le_of_ble_eq_true rfl) rfl (fun h hr hin => ?_)
  refine st_aload_0 h dX12_undo_0 ?_
  refine st_ic_0 h dX12_undo_1 ?_
  obtain ⟨s1, hs1, hF⟩ := swI hF
  refine pX12_0 h fl_X12_73 dX12_undo_2 (congrArg Prod.fst kM_0) hs1 ?_
  refine st_aload_0 h dX12_undo_5 ?_
  refine gX12_25 h fl_X12_229 dX12_undo_6 (congrArg Prod.fst kM_0) ?_
  refine st_if_ne (t := 18) h dX12_undo_9 (by decide) (fun q1 => ?_) (fun q1 => ?_)
  · have hF := qI q1 hF
    refine st_aload_0 h dX12_undo_18 ?_
    refine gX12_24 h fl_X12_226 dX12_undo_19 (congrArg Prod.fst kM_0) ?_
    refine st_if_ne (t := 31) h dX12_undo_22 (by decide) (fun q2 => ?_) (fun q2 => ?_)
    · have hF := qI q2 hF
      refine st_aload_0 h dX12_undo_31 ?_
      refine st_dup h rfl dX12_undo_32 ?_
      refine gX12_24 h fl_X12_226 dX12_undo_33 (congrArg Prod.fst kM_0) ?_
      refine st_ic_1 h dX12_undo_36 ?_
      refine st_isub h dX12_undo_37 ?_
      obtain ⟨s2, hs2, hF⟩ := swI hF
      refine pX12_24 h fl_X12_226 dX12_undo_38 (congrArg Prod.fst kM_0) hs2 ?_
      refine st_ic_0 h dX12_undo_41 ?_
      refine st_istore_1 h dX12_undo_42 ?_
      exact st_sub (ls_s (ls_s ls_e)) (w_X12_undo_43 h hr FU s2 0 z hF)
    · have hF := pI q2 hF
      refine st_aload_0 h dX12_undo_25 ?_
      refine st_ic_5 h dX12_undo_26 ?_
      obtain ⟨x1, hx1, hF⟩ := bI hF
      refine st_cVi (vs := [.int 5]) (st := []) h (w_X12_refused hx1) mi_X12_refused mv_X12_refused ml_X12_213 dX12_undo_27 kM_0 rfl ⟨Nat.le_of_ble_eq_true rfl, Nat.le_of_ble_eq_true rfl⟩ (Nat.le_of_ble_eq_true rfl) rfl ?_
      cases hF
      exact st_iret h hr dX12_undo_30
  · have hF := pI q1 hF
    refine st_aload_0 h dX12_undo_12 ?_
    refine st_ic_1 h dX12_undo_13 ?_
    obtain ⟨x2, hx2, hF⟩ := bI hF
    refine st_cVi (vs := [.int 1]) (st := []) h (w_X12_refused hx2) mi_X12_refused mv_X12_refused ml_X12_213 dX12_undo_14 kM_0 rfl ⟨Nat.le_of_ble_eq_true rfl, Nat.le_of_ble_eq_true rfl⟩ (Nat.le_of_ble_eq_true rfl) rfl ?_
    cases hF
    exact st_iret h hr dX12_undo_17
set_option maxRecDepth 100000 in
set_option maxHeartbeats 4000000 in
theorem w_X12_keep_21 {p : Program} {l : Launch} {e : Env} {s : State} {m : MethodId} {args : Array Value} {below : List Frame} {meth : Method} {c : Code} {G : Gv} (h : Cx p s m args meth c G cX12_keep 3 RX12) (hr : meth.sig.returnType = (some .boolean)) : ∀ (σ : Sto) (z : (Int32 × Sto)), F_X12_keep_21 σ  = some z → AW p l e (rmD 2 0 0) s m args below meth c (MQ below (QcR G shM νM (some (.int z.1)) (ovM z.2)) args s 0 0 (gA G)) 0 0 G 3 21 [some (.ref 0), none, none] [] shM νM (ovM σ) := by
  intro σ z hF
  rw [F_X12_keep_21] at hF
  refine st_aload_0 h dX12_keep_21 ?_
  refine st_ic_1 h dX12_keep_22 ?_
  obtain ⟨x1, hx1, hF⟩ := bI hF
  refine st_cVi (vs := [.int 1]) (st := []) h (w_X12_granted hx1) mi_X12_granted mv_X12_granted ml_X12_392 dX12_keep_23 kM_0 rfl ⟨Nat.le_of_ble_eq_true rfl, Nat.le_of_ble_eq_true rfl⟩ (Nat.le_of_ble_eq_true rfl) rfl ?_
  obtain ⟨g1, hF⟩ := gI hF
  cases hF
  exact st_zret h hr g1 dX12_keep_26
set_option maxRecDepth 100000 in
set_option maxHeartbeats 4000000 in
theorem w_X12_keep_29 {p : Program} {l : Launch} {e : Env} {s : State} {m : MethodId} {args : Array Value} {below : List Frame} {meth : Method} {c : Code} {G : Gv} (h : Cx p s m args meth c G cX12_keep 3 RX12) (hr : meth.sig.returnType = (some .boolean)) : ∀ (n : Nat) (σ : Sto) (i1 : Int32) (i2 : Int32) (z : (Int32 × Sto)), F_X12_keep_29 n σ i1 i2 = some z → AW p l e (rmD 2 0 0) s m args below meth c (MQ below (QcR G shM νM (some (.int z.1)) (ovM z.2)) args s 0 0 (gA G)) 0 0 G 3 29 [some (.ref 0), some (.int i1), some (.int i2)] [] shM νM (ovM σ) := by
  intro n
  induction n with
  | zero => intro σ i1 i2 z hF; cases hF
  | succ n ih =>
    intro σ i1 i2 z hF
    rw [F_X12_keep_29] at hF
    refine st_iload_2 h dX12_keep_29 ?_
    refine st_sipush (v := 534) h dX12_keep_30 (by decide) ?_
    refine st_icmp_ge (t := 60) h dX12_keep_33 (by decide) (fun q1 => ?_) (fun q1 => ?_)
    · have hF := pI q1 hF
      refine st_aload_0 h dX12_keep_60 ?_
      refine gX12_21 h fl_X12_39 dX12_keep_61 (congrArg Prod.fst kM_0) ?_
      refine st_iload_1 h dX12_keep_64 ?_
      refine st_ic_1 h dX12_keep_65 ?_
      obtain ⟨g1, hF⟩ := gI hF
      obtain ⟨s1, hs1, hF⟩ := swI hF
      refine bsM h dX12_keep_66 kM_9 g1 (Or.inr rfl) hs1 ?_
      refine st_aload_0 h dX12_keep_67 ?_
      refine st_ic_0 h dX12_keep_68 ?_
      obtain ⟨x1, hx1, hF⟩ := bI hF
      refine st_cVi (vs := [.int 0]) (st := []) h (w_X12_granted hx1) mi_X12_granted mv_X12_granted ml_X12_392 dX12_keep_69 kM_0 rfl ⟨Nat.le_of_ble_eq_true rfl, Nat.le_of_ble_eq_true rfl⟩ (Nat.le_of_ble_eq_true rfl) rfl ?_
      obtain ⟨g2, hF⟩ := gI hF
      cases hF
      exact st_zret h hr g2 dX12_keep_72
    · have hF := qI q1 hF
      refine st_aload_0 h dX12_keep_36 ?_
      refine gX12_18 h fl_X12_29 dX12_keep_37 (congrArg Prod.fst kM_0) ?_
      refine st_sipush (v := 534) h dX12_keep_40 (by decide) ?_
      refine st_iload_1 h dX12_keep_43 ?_
      refine st_imul h dX12_keep_44 ?_
      refine st_iload_2 h dX12_keep_45 ?_
      refine st_iadd h dX12_keep_46 ?_
      refine st_aload_0 h dX12_keep_47 ?_
      refine gX12_14 h fl_X12_17 dX12_keep_48 (congrArg Prod.fst kM_0) ?_
      refine st_iload_2 h dX12_keep_51 ?_
      obtain ⟨g3, hF⟩ := gI hF
      refine iaM h dX12_keep_52 kM_2 g3 ?_
      obtain ⟨g4, hF⟩ := gI hF
      obtain ⟨s2, hs2, hF⟩ := swI hF
      refine isM h dX12_keep_53 kM_6 g4 hs2 ?_
      refine st_iinc_2 (y := i2 + 1) h dX12_keep_54 (ii_1 _) ?_
      refine st_goto (t := 29) h dX12_keep_57 (by decide) ?_
      exact st_sub (ls_s (ls_s (ls_s ls_e))) (ih s2 i1 (i2 + 1) z hF)
set_option maxRecDepth 100000 in
set_option maxHeartbeats 4000000 in
theorem w_X12_keep {l : Launch} {G : Gv} {σ : Sto} {i1 : Int32} {z : (Int32 × Sto)} (hF : F_X12_keep σ i1 = some z) : Con l yX12_keep cX12_keep 3 (some .boolean) 2 G shM νM [.ref 0, .int i1] (ovM σ) (some (.int z.1)) (ovM z.2) := by
  rw [F_X12_keep] at hF
  refine Con_enter (own := RX12) 1 (lv := [some (.ref 0), some (.int i1), none]) mi_X12_keep.2.2.2 rfl (Nat.le_of_ble_eq_true rfl) rfl (fun h hr hin => ?_)
  refine st_aload_0 h dX12_keep_0 ?_
  refine st_ic_0 h dX12_keep_1 ?_
  obtain ⟨s1, hs1, hF⟩ := swI hF
  refine pX12_0 h fl_X12_73 dX12_keep_2 (congrArg Prod.fst kM_0) hs1 ?_
  refine st_aload_0 h dX12_keep_5 ?_
  refine gX12_25 h fl_X12_229 dX12_keep_6 (congrArg Prod.fst kM_0) ?_
  refine st_if_eq (t := 21) h dX12_keep_9 (by decide) (fun q1 => ?_) (fun q1 => ?_)
  · have hF := pI q1 hF
    exact st_sub (ls_s (ls_n (ls_n ls_e))) (w_X12_keep_21 h hr s1  z hF)
  · have hF := qI q1 hF
    refine st_iload_1 h dX12_keep_12 ?_
    refine st_ic_0 h dX12_keep_13 ?_
    refine st_ic_1 h dX12_keep_14 ?_
    obtain ⟨x1, hx1, hF⟩ := bI hF
    refine st_cSi (vs := [.int i1, .int 0, .int 1]) (st := []) h (w_X12_in hx1) mi_X12_in ms_X12_in ml_X12_94 dX12_keep_15 rfl ⟨Nat.le_of_ble_eq_true rfl, Nat.le_of_ble_eq_true rfl⟩ (Nat.le_of_ble_eq_true rfl) rfl ?_
    refine st_if_ne (t := 27) h dX12_keep_18 (by decide) (fun q2 => ?_) (fun q2 => ?_)
    · have hF := qI q2 hF
      refine st_ic_0 h dX12_keep_27 ?_
      refine st_istore_2 h dX12_keep_28 ?_
      exact st_sub (ls_s (ls_s (ls_s ls_e))) (w_X12_keep_29 h hr FU s1 i1 0 z hF)
    · have hF := pI q2 hF
      exact st_sub (ls_s (ls_n (ls_n ls_e))) (w_X12_keep_21 h hr s1  z hF)
set_option maxRecDepth 100000 in
set_option maxHeartbeats 4000000 in
theorem w_X12_back_30 {p : Program} {l : Launch} {e : Env} {s : State} {m : MethodId} {args : Array Value} {below : List Frame} {meth : Method} {c : Code} {G : Gv} (h : Cx p s m args meth c G cX12_back 3 RX12) (hr : meth.sig.returnType = (some .boolean)) : ∀ (σ : Sto) (z : (Int32 × Sto)), F_X12_back_30 σ  = some z → AW p l e (rmD 2 0 0) s m args below meth c (MQ below (QcR G shM νM (some (.int z.1)) (ovM z.2)) args s 0 0 (gA G)) 0 0 G 3 30 [some (.ref 0), none, none] [] shM νM (ovM σ) := by
  intro σ z hF
  rw [F_X12_back_30] at hF
  refine st_aload_0 h dX12_back_30 ?_
  refine st_ic_1 h dX12_back_31 ?_
  obtain ⟨x1, hx1, hF⟩ := bI hF
  refine st_cVi (vs := [.int 1]) (st := []) h (w_X12_granted hx1) mi_X12_granted mv_X12_granted ml_X12_392 dX12_back_32 kM_0 rfl ⟨Nat.le_of_ble_eq_true rfl, Nat.le_of_ble_eq_true rfl⟩ (Nat.le_of_ble_eq_true rfl) rfl ?_
  obtain ⟨g1, hF⟩ := gI hF
  cases hF
  exact st_zret h hr g1 dX12_back_35
set_option maxRecDepth 100000 in
set_option maxHeartbeats 4000000 in
theorem w_X12_back_38 {p : Program} {l : Launch} {e : Env} {s : State} {m : MethodId} {args : Array Value} {below : List Frame} {meth : Method} {c : Code} {G : Gv} (h : Cx p s m args meth c G cX12_back 3 RX12) (hr : meth.sig.returnType = (some .boolean)) : ∀ (n : Nat) (σ : Sto) (i1 : Int32) (i2 : Int32) (z : (Int32 × Sto)), F_X12_back_38 n σ i1 i2 = some z → AW p l e (rmD 2 0 0) s m args below meth c (MQ below (QcR G shM νM (some (.int z.1)) (ovM z.2)) args s 0 0 (gA G)) 0 0 G 3 38 [some (.ref 0), some (.int i1), some (.int i2)] [] shM νM (ovM σ) := by
  intro n
  induction n with
  | zero => intro σ i1 i2 z hF; cases hF
  | succ n ih =>
    intro σ i1 i2 z hF
    rw [F_X12_back_38] at hF
    refine st_iload_2 h dX12_back_38 ?_
    refine st_sipush (v := 534) h dX12_back_39 (by decide) ?_
    refine st_icmp_ge (t := 69) h dX12_back_42 (by decide) (fun q1 => ?_) (fun q1 => ?_)
    · have hF := pI q1 hF
      refine st_aload_0 h dX12_back_69 ?_
      refine st_ic_0 h dX12_back_70 ?_
      obtain ⟨s1, hs1, hF⟩ := swI hF
      refine pX12_24 h fl_X12_226 dX12_back_71 (congrArg Prod.fst kM_0) hs1 ?_
      refine st_aload_0 h dX12_back_74 ?_
      refine st_ic_0 h dX12_back_75 ?_
      obtain ⟨x1, hx1, hF⟩ := bI hF
      refine st_cVi (vs := [.int 0]) (st := []) h (w_X12_granted hx1) mi_X12_granted mv_X12_granted ml_X12_392 dX12_back_76 kM_0 rfl ⟨Nat.le_of_ble_eq_true rfl, Nat.le_of_ble_eq_true rfl⟩ (Nat.le_of_ble_eq_true rfl) rfl ?_
      obtain ⟨g1, hF⟩ := gI hF
      cases hF
      exact st_zret h hr g1 dX12_back_79
    · have hF := qI q1 hF
      refine st_aload_0 h dX12_back_45 ?_
      refine gX12_14 h fl_X12_17 dX12_back_46 (congrArg Prod.fst kM_0) ?_
      refine st_iload_2 h dX12_back_49 ?_
      refine st_aload_0 h dX12_back_50 ?_
      refine gX12_18 h fl_X12_29 dX12_back_51 (congrArg Prod.fst kM_0) ?_
      refine st_sipush (v := 534) h dX12_back_54 (by decide) ?_
      refine st_iload_1 h dX12_back_57 ?_
      refine st_imul h dX12_back_58 ?_
      refine st_iload_2 h dX12_back_59 ?_
      refine st_iadd h dX12_back_60 ?_
      obtain ⟨g2, hF⟩ := gI hF
      refine iaM h dX12_back_61 kM_6 g2 ?_
      obtain ⟨g3, hF⟩ := gI hF
      obtain ⟨s2, hs2, hF⟩ := swI hF
      refine isM h dX12_back_62 kM_2 g3 hs2 ?_
      refine st_iinc_2 (y := i2 + 1) h dX12_back_63 (ii_1 _) ?_
      refine st_goto (t := 38) h dX12_back_66 (by decide) ?_
      exact st_sub (ls_s (ls_s (ls_s ls_e))) (ih s2 i1 (i2 + 1) z hF)
set_option maxRecDepth 100000 in
set_option maxHeartbeats 4000000 in
theorem w_X12_back {l : Launch} {G : Gv} {σ : Sto} {i1 : Int32} {z : (Int32 × Sto)} (hF : F_X12_back σ i1 = some z) : Con l yX12_back cX12_back 3 (some .boolean) 2 G shM νM [.ref 0, .int i1] (ovM σ) (some (.int z.1)) (ovM z.2) := by
  rw [F_X12_back] at hF
  refine Con_enter (own := RX12) 1 (lv := [some (.ref 0), some (.int i1), none]) mi_X12_back.2.2.2 rfl (Nat.le_of_ble_eq_true rfl) rfl (fun h hr hin => ?_)
  refine st_aload_0 h dX12_back_0 ?_
  refine st_ic_0 h dX12_back_1 ?_
  obtain ⟨s1, hs1, hF⟩ := swI hF
  refine pX12_0 h fl_X12_73 dX12_back_2 (congrArg Prod.fst kM_0) hs1 ?_
  refine st_aload_0 h dX12_back_5 ?_
  refine gX12_25 h fl_X12_229 dX12_back_6 (congrArg Prod.fst kM_0) ?_
  refine st_if_eq (t := 30) h dX12_back_9 (by decide) (fun q1 => ?_) (fun q1 => ?_)
  · have hF := pI q1 hF
    exact st_sub (ls_s (ls_n (ls_n ls_e))) (w_X12_back_30 h hr s1  z hF)
  · have hF := qI q1 hF
    refine st_iload_1 h dX12_back_12 ?_
    refine st_ic_0 h dX12_back_13 ?_
    refine st_ic_1 h dX12_back_14 ?_
    obtain ⟨x1, hx1, hF⟩ := bI hF
    refine st_cSi (vs := [.int i1, .int 0, .int 1]) (st := []) h (w_X12_in hx1) mi_X12_in ms_X12_in ml_X12_94 dX12_back_15 rfl ⟨Nat.le_of_ble_eq_true rfl, Nat.le_of_ble_eq_true rfl⟩ (Nat.le_of_ble_eq_true rfl) rfl ?_
    refine st_if_eq (t := 30) h dX12_back_18 (by decide) (fun q2 => ?_) (fun q2 => ?_)
    · have hF := pI q2 hF
      exact st_sub (ls_s (ls_n (ls_n ls_e))) (w_X12_back_30 h hr s1  z hF)
    · have hF := qI q2 hF
      refine st_aload_0 h dX12_back_21 ?_
      refine gX12_21 h fl_X12_39 dX12_back_22 (congrArg Prod.fst kM_0) ?_
      refine st_iload_1 h dX12_back_25 ?_
      obtain ⟨g1, hF⟩ := gI hF
      refine baM h dX12_back_26 kM_9 g1 ?_
      refine st_if_ne (t := 36) h dX12_back_27 (by decide) (fun q3 => ?_) (fun q3 => ?_)
      · have hF := qI q3 hF
        refine st_ic_0 h dX12_back_36 ?_
        refine st_istore_2 h dX12_back_37 ?_
        exact st_sub (ls_s (ls_s (ls_s ls_e))) (w_X12_back_38 h hr FU s1 i1 0 z hF)
      · have hF := pI q3 hF
        exact st_sub (ls_s (ls_n (ls_n ls_e))) (w_X12_back_30 h hr s1  z hF)
set_option maxRecDepth 100000 in
set_option maxHeartbeats 4000000 in
theorem w_X12_book_38 {p : Program} {l : Launch} {e : Env} {s : State} {m : MethodId} {args : Array Value} {below : List Frame} {meth : Method} {c : Code} {G : Gv} (h : Cx p s m args meth c G cX12_book 3 RX12) (hr : meth.sig.returnType = (some .int)) : ∀ (σ : Sto) (z : (Int32 × Sto)), F_X12_book_38 σ  = some z → AW p l e (rmD 2 0 0) s m args below meth c (MQ below (QcR G shM νM (some (.int z.1)) (ovM z.2)) args s 0 0 (gA G)) 0 0 G 3 38 [some (.ref 0), none, none] [] shM νM (ovM σ) := by
  intro σ z hF
  rw [F_X12_book_38] at hF
  refine st_aload_0 h dX12_book_38 ?_
  refine st_ic_1 h dX12_book_39 ?_
  obtain ⟨x1, hx1, hF⟩ := bI hF
  refine st_cVi (vs := [.int 1]) (st := []) h (w_X12_refused hx1) mi_X12_refused mv_X12_refused ml_X12_213 dX12_book_40 kM_0 rfl ⟨Nat.le_of_ble_eq_true rfl, Nat.le_of_ble_eq_true rfl⟩ (Nat.le_of_ble_eq_true rfl) rfl ?_
  cases hF
  exact st_iret h hr dX12_book_43
set_option maxRecDepth 100000 in
set_option maxHeartbeats 4000000 in
theorem w_X12_book {l : Launch} {G : Gv} {σ : Sto} {i1 : Int32} {i2 : Int32} {z : (Int32 × Sto)} (hF : F_X12_book σ i1 i2 = some z) : Con l yX12_book cX12_book 3 (some .int) 2 G shM νM [.ref 0, .int i1, .int i2] (ovM σ) (some (.int z.1)) (ovM z.2) := by
  rw [F_X12_book] at hF
  refine Con_enter (own := RX12) 0 (lv := [some (.ref 0), some (.int i1), some (.int i2)]) mi_X12_book.2.2.2 rfl (Nat.le_of_ble_eq_true rfl) rfl (fun h hr hin => ?_)
  refine st_aload_0 h dX12_book_0 ?_
  refine st_ic_0 h dX12_book_1 ?_
  obtain ⟨s1, hs1, hF⟩ := swI hF
  refine pX12_0 h fl_X12_73 dX12_book_2 (congrArg Prod.fst kM_0) hs1 ?_
  refine st_aload_0 h dX12_book_5 ?_
  refine gX12_25 h fl_X12_229 dX12_book_6 (congrArg Prod.fst kM_0) ?_
  refine st_if_eq (t := 38) h dX12_book_9 (by decide) (fun q1 => ?_) (fun q1 => ?_)
  · have hF := pI q1 hF
    exact st_sub (ls_s (ls_n (ls_n ls_e))) (w_X12_book_38 h hr s1  z hF)
  · have hF := qI q1 hF
    refine st_iload_1 h dX12_book_12 ?_
    refine st_ic_0 h dX12_book_13 ?_
    refine st_aload_0 h dX12_book_14 ?_
    refine gX12_14 h fl_X12_17 dX12_book_15 (congrArg Prod.fst kM_0) ?_
    refine st_bipush (v := 32) h dX12_book_18 (by decide) ?_
    refine iaM h dX12_book_20 kM_2 (by decide) ?_
    refine st_ic_1 h dX12_book_21 ?_
    refine st_isub h dX12_book_22 ?_
    obtain ⟨x1, hx1, hF⟩ := bI hF
    refine st_cSi (vs := [.int i1, .int 0, .int ((s1.1 2 (ix 32)) - 1)]) (st := []) h (w_X12_in hx1) mi_X12_in ms_X12_in ml_X12_94 dX12_book_23 rfl ⟨Nat.le_of_ble_eq_true rfl, Nat.le_of_ble_eq_true rfl⟩ (Nat.le_of_ble_eq_true rfl) rfl ?_
    refine st_if_eq (t := 38) h dX12_book_26 (by decide) (fun q2 => ?_) (fun q2 => ?_)
    · have hF := pI q2 hF
      exact st_sub (ls_s (ls_n (ls_n ls_e))) (w_X12_book_38 h hr s1  z hF)
    · have hF := qI q2 hF
      refine st_iload_2 h dX12_book_29 ?_
      refine st_ic_0 h dX12_book_30 ?_
      refine st_ic_4 h dX12_book_31 ?_
      obtain ⟨x2, hx2, hF⟩ := bI hF
      refine st_cSi (vs := [.int i2, .int 0, .int 4]) (st := []) h (w_X12_in hx2) mi_X12_in ms_X12_in ml_X12_94 dX12_book_32 rfl ⟨Nat.le_of_ble_eq_true rfl, Nat.le_of_ble_eq_true rfl⟩ (Nat.le_of_ble_eq_true rfl) rfl ?_
      refine st_if_ne (t := 44) h dX12_book_35 (by decide) (fun q3 => ?_) (fun q3 => ?_)
      · have hF := qI q3 hF
        refine st_aload_0 h dX12_book_44 ?_
        refine st_aload_0 h dX12_book_45 ?_
        refine gX12_14 h fl_X12_17 dX12_book_46 (congrArg Prod.fst kM_0) ?_
        refine st_bipush (v := 34) h dX12_book_49 (by decide) ?_
        refine st_ic_5 h dX12_book_51 ?_
        refine st_iload_1 h dX12_book_52 ?_
        refine st_imul h dX12_book_53 ?_
        refine st_iadd h dX12_book_54 ?_
        refine st_iload_2 h dX12_book_55 ?_
        refine st_iadd h dX12_book_56 ?_
        obtain ⟨g1, hF⟩ := gI hF
        refine iaM h dX12_book_57 kM_2 g1 ?_
        obtain ⟨x3, hx3, hF⟩ := bI hF
        refine st_cVi (vs := [.int (s1.1 2 (ix ((34 + (5 * i1)) + i2)))]) (st := []) h (w_X12_tells hx3) mi_X12_tells mv_X12_tells ml_X12_233 dX12_book_58 kM_0 rfl ⟨Nat.le_of_ble_eq_true rfl, Nat.le_of_ble_eq_true rfl⟩ (Nat.le_of_ble_eq_true rfl) rfl ?_
        cases hF
        exact st_iret h hr dX12_book_61
      · have hF := pI q3 hF
        exact st_sub (ls_s (ls_n (ls_n ls_e))) (w_X12_book_38 h hr s1  z hF)
set_option maxRecDepth 100000 in
set_option maxHeartbeats 4000000 in
theorem w_X12_letter_76 {p : Program} {l : Launch} {e : Env} {s : State} {m : MethodId} {args : Array Value} {below : List Frame} {meth : Method} {c : Code} {G : Gv} (h : Cx p s m args meth c G cX12_letter 8 RX12) (hr : meth.sig.returnType = (some .int)) : ∀ (n : Nat) (σ : Sto) (i2 : Int32) (l3 : Int64) (i6 : Int32) (z : (Int32 × Sto)), F_X12_letter_76 n σ i2 l3 i6 = some z → AW p l e (rmD 3 0 0) s m args below meth c (MQ below (QcR G shM νM (some (.int z.1)) (ovM z.2)) args s 0 0 (gA G)) 0 0 G 8 76 [none, none, some (.int i2), some (.long l3), none, none, some (.int i6), none] [] shM νM (ovM σ) := by
  intro n
  induction n with
  | zero => intro σ i2 l3 i6 z hF; cases hF
  | succ n ih =>
    intro σ i2 l3 i6 z hF
    rw [F_X12_letter_76] at hF
    refine st_iload_6 h dX12_letter_76 ?_
    refine st_iload_2 h dX12_letter_78 ?_
    refine st_icmp_le (t := 94) h dX12_letter_79 (by decide) (fun q1 => ?_) (fun q1 => ?_)
    · have hF := pI q1 hF
      refine st_lload_3 h dX12_letter_94 ?_
      refine st_ldc2 h cl_X12_112 dX12_letter_95 ?_
      refine st_lrem h (by decide) dX12_letter_98 ?_
      refine st_l2i h dX12_letter_99 ?_
      refine st_ic_1 h dX12_letter_100 ?_
      refine st_isub h dX12_letter_101 ?_
      cases hF
      exact st_iret h hr dX12_letter_102
    · have hF := qI q1 hF
      refine st_lload_3 h dX12_letter_82 ?_
      refine st_ldc2 h cl_X12_112 dX12_letter_83 ?_
      refine st_ldiv h (by decide) dX12_letter_86 ?_
      refine st_lstore_3 h dX12_letter_87 ?_
      refine st_iinc_6 (y := i6 + (-1)) h dX12_letter_88 (ii_m1 _) ?_
      refine st_goto (t := 76) h dX12_letter_91 (by decide) ?_
      exact st_sub (ls_n (ls_n (ls_s (ls_s (ls_n (ls_n (ls_s (ls_n ls_e)))))))) (ih σ i2 (l3 / 32) (i6 + (-1)) z hF)
set_option maxRecDepth 100000 in
set_option maxHeartbeats 4000000 in
theorem w_X12_letter_30 {p : Program} {l : Launch} {e : Env} {s : State} {m : MethodId} {args : Array Value} {below : List Frame} {meth : Method} {c : Code} {G : Gv} (h : Cx p s m args meth c G cX12_letter 8 RX12) (hr : meth.sig.returnType = (some .int)) : ∀ (n : Nat) (σ : Sto) (i2 : Int32) (l3 : Int64) (i5 : Int32) (l6 : Int64) (z : (Int32 × Sto)), F_X12_letter_30 n σ i2 l3 i5 l6 = some z → AW p l e (rmD 3 0 0) s m args below meth c (MQ below (QcR G shM νM (some (.int z.1)) (ovM z.2)) args s 0 0 (gA G)) 0 0 G 8 30 [some (.ref 0), none, some (.int i2), some (.long l3), none, some (.int i5), some (.long l6), none] [] shM νM (ovM σ) := by
  intro n
  induction n with
  | zero => intro σ i2 l3 i5 l6 z hF; cases hF
  | succ n ih =>
    intro σ i2 l3 i5 l6 z hF
    rw [F_X12_letter_30] at hF
    refine st_lload_6 h dX12_letter_30 ?_
    refine st_lconst (v := 0) h dX12_letter_32 (by decide) ?_
    refine st_lcmp h dX12_letter_33 ?_
    refine st_if_le (t := 51) h dX12_letter_34 (by decide) (fun q1 => ?_) (fun q1 => ?_)
    · have hF := pI q1 hF
      refine st_iload_2 h dX12_letter_51 ?_
      refine st_ic_0 h dX12_letter_52 ?_
      refine st_iload_5 h dX12_letter_53 ?_
      refine st_ic_1 h dX12_letter_55 ?_
      refine st_isub h dX12_letter_56 ?_
      obtain ⟨x1, hx1, hF⟩ := bI hF
      refine st_cSi (vs := [.int i2, .int 0, .int (i5 - 1)]) (st := []) h (w_X12_in hx1) mi_X12_in ms_X12_in ml_X12_94 dX12_letter_57 rfl ⟨Nat.le_of_ble_eq_true rfl, Nat.le_of_ble_eq_true rfl⟩ (Nat.le_of_ble_eq_true rfl) rfl ?_
      refine st_if_ne (t := 70) h dX12_letter_60 (by decide) (fun q2 => ?_) (fun q2 => ?_)
      · have hF := qI q2 hF
        refine st_iload_5 h dX12_letter_70 ?_
        refine st_ic_1 h dX12_letter_72 ?_
        refine st_isub h dX12_letter_73 ?_
        refine st_istore_6 h dX12_letter_74 ?_
        exact st_sub (ls_n (ls_n (ls_s (ls_s (ls_n (ls_n (ls_s (ls_n ls_e)))))))) (w_X12_letter_76 h hr FU σ i2 l3 (i5 - 1) z hF)
      · have hF := pI q2 hF
        refine st_aload_0 h dX12_letter_63 ?_
        refine st_ic_1 h dX12_letter_64 ?_
        obtain ⟨s1, hs1, hF⟩ := swI hF
        refine pX12_0 h fl_X12_73 dX12_letter_65 (congrArg Prod.fst kM_0) hs1 ?_
        refine st_ic_0 h dX12_letter_68 ?_
        cases hF
        exact st_iret h hr dX12_letter_69
    · have hF := qI q1 hF
      refine st_iinc_5 (y := i5 + 1) h dX12_letter_37 (ii_1 _) ?_
      refine st_lload_6 h dX12_letter_40 ?_
      refine st_ldc2 h cl_X12_112 dX12_letter_42 ?_
      refine st_ldiv h (by decide) dX12_letter_45 ?_
      refine st_lstore_6 h dX12_letter_46 ?_
      refine st_goto (t := 30) h dX12_letter_48 (by decide) ?_
      exact st_sub (ls_s (ls_n (ls_s (ls_s (ls_n (ls_s (ls_s (ls_n ls_e)))))))) (ih σ i2 l3 (i5 + 1) (l6 / 32) z hF)
set_option maxRecDepth 100000 in
set_option maxHeartbeats 4000000 in
theorem w_X12_letter {l : Launch} {G : Gv} {σ : Sto} {i1 : Int32} {i2 : Int32} {z : (Int32 × Sto)} (hF : F_X12_letter σ i1 i2 = some z) : Con l yX12_letter cX12_letter 8 (some .int) 3 G shM νM [.ref 0, .int i1, .int i2] (ovM σ) (some (.int z.1)) (ovM z.2) := by
  rw [F_X12_letter] at hF
  refine Con_enter (own := RX12) 5 (lv := [some (.ref 0), some (.int i1), some (.int i2), none, none, none, none, none]) mi_X12_letter.2.2.2 rfl (Nat.le_of_ble_eq_true rfl) rfl (fun h hr hin => ?_)
  refine st_aload_0 h dX12_letter_0 ?_
  refine st_ic_0 h dX12_letter_1 ?_
  obtain ⟨s1, hs1, hF⟩ := swI hF
  refine pX12_0 h fl_X12_73 dX12_letter_2 (congrArg Prod.fst kM_0) hs1 ?_
  refine st_aload_0 h dX12_letter_5 ?_
  refine st_iload_1 h dX12_letter_6 ?_
  obtain ⟨x1, hx1, hF⟩ := bI hF
  refine st_cVi (vs := [.int i1]) (st := []) h (w_X12_isService hx1) mi_X12_isService mv_X12_isService ml_X12_272 dX12_letter_7 kM_0 rfl ⟨Nat.le_of_ble_eq_true rfl, Nat.le_of_ble_eq_true rfl⟩ (Nat.le_of_ble_eq_true rfl) rfl ?_
  refine st_if_eq (t := 22) h dX12_letter_10 (by decide) (fun q1 => ?_) (fun q1 => ?_)
  · have hF := pI q1 hF
    refine st_lconst (v := 0) h dX12_letter_22 (by decide) ?_
    refine st_lstore_3 h dX12_letter_23 ?_
    refine st_ic_0 h dX12_letter_24 ?_
    refine st_istore_5 h dX12_letter_25 ?_
    refine st_lload_3 h dX12_letter_27 ?_
    refine st_lstore_6 h dX12_letter_28 ?_
    exact st_sub (ls_s (ls_n (ls_s (ls_s (ls_n (ls_s (ls_s (ls_n ls_e)))))))) (w_X12_letter_30 h hr FU s1 i2 0 0 0 z hF)
  · have hF := qI q1 hF
    refine st_aload_0 h dX12_letter_13 ?_
    refine gX12_19 h fl_X12_32 dX12_letter_14 (congrArg Prod.fst kM_0) ?_
    refine st_iload_1 h dX12_letter_17 ?_
    obtain ⟨g1, hF⟩ := gI hF
    refine laM h dX12_letter_18 kM_7 g1 ?_
    refine st_goto (t := 23) h dX12_letter_19 (by decide) ?_
    refine st_lstore_3 h dX12_letter_23 ?_
    refine st_ic_0 h dX12_letter_24 ?_
    refine st_istore_5 h dX12_letter_25 ?_
    refine st_lload_3 h dX12_letter_27 ?_
    refine st_lstore_6 h dX12_letter_28 ?_
    exact st_sub (ls_s (ls_n (ls_s (ls_s (ls_n (ls_s (ls_s (ls_n ls_e)))))))) (w_X12_letter_30 h hr FU s1 i2 (s1.2.1 7 (ix i1)) 0 (s1.2.1 7 (ix i1)) z hF)
set_option maxRecDepth 100000 in
set_option maxHeartbeats 4000000 in
theorem w_X12_bytes {l : Launch} {G : Gv} {σ : Sto} {z : (Int32 × Sto)} (hF : F_X12_bytes σ  = some z) : Con l yX12_bytes cX12_bytes 1 (some .int) 1 G shM νM [.ref 0] (ovM σ) (some (.int z.1)) (ovM z.2) := by
  rw [F_X12_bytes] at hF
  refine Con_enter (own := RX12) 0 (lv := [some (.ref 0)]) mi_X12_bytes.2.2.2 rfl (Nat.le_of_ble_eq_true rfl) rfl (fun h hr hin => ?_)
  refine st_aload_0 h dX12_bytes_0 ?_
  refine st_ic_0 h dX12_bytes_1 ?_
  obtain ⟨s1, hs1, hF⟩ := swI hF
  refine pX12_0 h fl_X12_73 dX12_bytes_2 (congrArg Prod.fst kM_0) hs1 ?_
  refine st_aload_0 h dX12_bytes_5 ?_
  refine gX12_4 h fl_X12_79 dX12_bytes_6 (congrArg Prod.fst kM_0) ?_
  cases hF
  exact st_iret h hr dX12_bytes_9
set_option maxRecDepth 100000 in
set_option maxHeartbeats 4000000 in
theorem w_X12_trouble {l : Launch} {G : Gv} {σ : Sto} {z : (Int32 × Sto)} (hF : F_X12_trouble σ  = some z) : Con l yX12_trouble cX12_trouble 1 (some .int) 1 G shM νM [.ref 0] (ovM σ) (some (.int z.1)) (ovM z.2) := by
  rw [F_X12_trouble] at hF
  refine Con_enter (own := RX12) 0 (lv := [some (.ref 0)]) mi_X12_trouble.2.2.2 rfl (Nat.le_of_ble_eq_true rfl) rfl (fun h hr hin => ?_)
  refine st_aload_0 h dX12_trouble_0 ?_
  refine st_ic_0 h dX12_trouble_1 ?_
  obtain ⟨s1, hs1, hF⟩ := swI hF
  refine pX12_0 h fl_X12_73 dX12_trouble_2 (congrArg Prod.fst kM_0) hs1 ?_
  refine st_aload_0 h dX12_trouble_5 ?_
  refine gX12_1 h fl_X12_76 dX12_trouble_6 (congrArg Prod.fst kM_0) ?_
  cases hF
  exact st_iret h hr dX12_trouble_9
set_option maxRecDepth 100000 in
set_option maxHeartbeats 4000000 in
theorem w_X9_lengthOf_4 {p : Program} {l : Launch} {e : Env} {s : State} {m : MethodId} {args : Array Value} {below : List Frame} {meth : Method} {c : Code} {G : Gv} (h : Cx p s m args meth c G cX9_lengthOf 4 RX9) (hr : meth.sig.returnType = (some .int)) : ∀ (n : Nat) (σ : Sto) (l0 : Int64) (i2 : Int32) (i3 : Int32) (z : Int32), F_X9_lengthOf_4 n σ l0 i2 i3 = some z → AW p l e (rmD 1 0 0) s m args below meth c (MQ below (QcR G shC νC (some (.int z)) (ovC σ)) args s 0 0 (gA G)) 0 0 G 4 4 [some (.long l0), none, some (.int i2), some (.int i3)] [] shC νC (ovC σ) := by
  intro n
  induction n with
  | zero => intro σ l0 i2 i3 z hF; cases hF
  | succ n ih =>
    intro σ l0 i2 i3 z hF
    rw [F_X9_lengthOf_4] at hF
    refine st_iload_3 h dX9_lengthOf_4 ?_
    refine st_bipush (v := 7) h dX9_lengthOf_5 (by decide) ?_
    refine st_icmp_ge (t := 29) h dX9_lengthOf_7 (by decide) (fun q1 => ?_) (fun q1 => ?_)
    · have hF := pI q1 hF
      refine st_iload_2 h dX9_lengthOf_29 ?_
      cases hF
      exact st_iret h hr dX9_lengthOf_30
    · have hF := qI q1 hF
      refine st_lload_0 h dX9_lengthOf_10 ?_
      refine st_ic_5 h dX9_lengthOf_11 ?_
      refine st_iload_3 h dX9_lengthOf_12 ?_
      refine st_imul h dX9_lengthOf_13 ?_
      refine st_lushr h dX9_lengthOf_14 ?_
      refine st_lconst (v := 0) h dX9_lengthOf_15 (by decide) ?_
      refine st_lcmp h dX9_lengthOf_16 ?_
      refine st_if_eq (t := 23) h dX9_lengthOf_17 (by decide) (fun q2 => ?_) (fun q2 => ?_)
      · have hF := pI q2 hF
        refine st_iinc_3 (y := i3 + 1) h dX9_lengthOf_23 (ii_1 _) ?_
        refine st_goto (t := 4) h dX9_lengthOf_26 (by decide) ?_
        exact st_sub (ls_s (ls_n (ls_s (ls_s ls_e)))) (ih σ l0 i2 (i3 + 1) z hF)
      · have hF := qI q2 hF
        refine st_iinc_2 (y := i2 + 1) h dX9_lengthOf_20 (ii_1 _) ?_
        refine st_iinc_3 (y := i3 + 1) h dX9_lengthOf_23 (ii_1 _) ?_
        refine st_goto (t := 4) h dX9_lengthOf_26 (by decide) ?_
        exact st_sub (ls_s (ls_n (ls_s (ls_s ls_e)))) (ih σ l0 (i2 + 1) (i3 + 1) z hF)
set_option maxRecDepth 100000 in
set_option maxHeartbeats 4000000 in
theorem w_X9_lengthOf {l : Launch} {G : Gv} {σ : Sto} {l0 : Int64} {z : Int32} (hF : F_X9_lengthOf σ l0 = some z) : Con l yX9_lengthOf cX9_lengthOf 4 (some .int) 1 G shC νC [.long l0] (ovC σ) (some (.int z)) (ovC σ) := by
  rw [F_X9_lengthOf] at hF
  refine Con_enter (own := RX9) 2 (lv := [some (.long l0), none, none, none]) mi_X9_lengthOf.2.2.2 rfl (Nat.le_of_ble_eq_true rfl) rfl (fun h hr hin => ?_)
  refine st_ic_0 h dX9_lengthOf_0 ?_
  refine st_istore_2 h dX9_lengthOf_1 ?_
  refine st_ic_0 h dX9_lengthOf_2 ?_
  refine st_istore_3 h dX9_lengthOf_3 ?_
  exact st_sub (ls_s (ls_n (ls_s (ls_s ls_e)))) (w_X9_lengthOf_4 h hr FU σ l0 0 0 z hF)
set_option maxRecDepth 100000 in
set_option maxHeartbeats 4000000 in
theorem w_X9_letterOf {l : Launch} {G : Gv} {σ : Sto} {l0 : Int64} {i2 : Int32} {z : Int32} (hF : F_X9_letterOf σ l0 i2 = some z) : Con l yX9_letterOf cX9_letterOf 3 (some .int) 2 G shC νC [.long l0, .int i2] (ovC σ) (some (.int z)) (ovC σ) := by
  rw [F_X9_letterOf] at hF
  refine Con_enter (own := RX9) 0 (lv := [some (.long l0), none, some (.int i2)]) mi_X9_letterOf.2.2.2 rfl (Nat.le_of_ble_eq_true rfl) rfl (fun h hr hin => ?_)
  refine st_lload_0 h dX9_letterOf_0 ?_
  refine st_ic_5 h dX9_letterOf_1 ?_
  refine st_lload_0 h dX9_letterOf_2 ?_
  obtain ⟨x1, hx1, hF⟩ := bI hF
  refine st_cSi (vs := [.long l0]) (st := [.int 5, .long l0]) h (w_X9_lengthOf hx1) mi_X9_lengthOf ms_X9_lengthOf ml_X9_41 dX9_letterOf_3 rfl ⟨Nat.le_of_ble_eq_true rfl, Nat.le_of_ble_eq_true rfl⟩ (Nat.le_of_ble_eq_true rfl) rfl ?_
  refine st_ic_1 h dX9_letterOf_6 ?_
  refine st_isub h dX9_letterOf_7 ?_
  refine st_iload_2 h dX9_letterOf_8 ?_
  refine st_isub h dX9_letterOf_9 ?_
  refine st_imul h dX9_letterOf_10 ?_
  refine st_lushr h dX9_letterOf_11 ?_
  refine st_ldc2 h cl_X9_45 dX9_letterOf_12 ?_
  refine st_land h dX9_letterOf_15 ?_
  refine st_l2i h dX9_letterOf_16 ?_
  refine st_ic_1 h dX9_letterOf_17 ?_
  refine st_isub h dX9_letterOf_18 ?_
  cases hF
  exact st_iret h hr dX9_letterOf_19
